/-! ===== keep on a missing image ===== -/
abbrev zMNi (l : Launch) (D : va_G) (c : Nat → ClassId) (y : MethodName) (cc : ByteArray) (maxL : Nat) (ret : Option FieldType) (rm : Room) (wc : va_W) (B : (Nat → Nat) → va_W) (av : List Value) (v : Int32) (mc ms : Nat) : Prop := ∀ sz : Nat, Met l y (zW y cc maxL ret) rm (va_Pc av (zPreW D c wc sz)) (va_Qi (fun r (_ : Nat → Nat) => r = v) (fun u t => va_P D vwCl (B u) t.heap ∧ va_D (va_A wc sz) (B u)) (va_A wc sz)) mc ms (va_A wc sz)
section ZKN
variable {p : Program} {l : Launch} {e : Env} {R : Room} {s : State} {m : MethodId} {args : Array Value} {below : List Frame} {meth : Method} {c0 : Code} {H : Heap} {locs : List Loc} {cells slots : Nat} {Q : State → Prop}
variable {cc : ByteArray} {pc : Nat} {ls : Array Slot} {rest : List Value} {D : va_G} {c : Nat → ClassId} {A : Nat → Prop} {a : Nat} {ws : va_W} {H0 : Heap}
theorem zRNi {v0 v : Int32} {B : (Nat → Nat) → va_W} (u : Nat → Nat) (hQ : Q = MQ below (va_Qi (fun r (_ : Nat → Nat) => r = v) (fun u t => va_P D vwCl (B u) t.heap ∧ va_D A (B u)) A) args s cells slots A) (hx : p.tables.exec = Jvm.exec) (hb : c0.code = cc) (hr : meth.sig.returnType = some .int) (hlk : meth.locks = false) (hv : v0 = v) (hP : va_P D vwCl (B u) H) (hD : va_D A (B u)) (hS : va_S A s.heap H locs) (hdg : decode cc pc = .ok (.ireturn, 1)) : W p l e R s m args below meth c0 H locs cells slots Q (F0 m pc ls [.int v0]) := by
  subst hQ
  exact W.iret hx hb hr (fun t ht _ => ⟨⟨v0, u, rfl, hv, by rw [ht]; exact hP, hD⟩, hS.F ht⟩) hS.2.2 hdg hlk
/-- the call of a method that makes cells, in a world of blocks -/
theorem zwBn {y : MethodName} {bytes : ByteArray} {maxL nL n index ci q0 mc ms : Nat} {ret : Option FieldType} {rm : Room} {own C : String} {b : Nat} {As st0 : List Value} {wc : va_W} {wn : (Nat → Nat) → va_W} {bs bC bR : List va_W} {bN : (Nat → Nat) → List va_W} {v : Int32} {q : vw_C} {fs : List Value} (bz : (Nat → Nat) → List va_W) (isC isR isB : List Nat) (S : CallFix p m c0 cc nL s args zT own) (hM : zMNi l D c y bytes maxL ret rm wc wn (.ref b :: As) v mc ms) (mi : zMI C y bytes maxL ret n) (hlink : Cond.methodLink own index y ∈ zT) (hR : rm.frames + 1 ≤ R.frames ∧ 8 + (maxL + 11) + rm.locals ≤ R.locals) (hrm : rm.cells = mc ∧ rm.slots = ms) (hP : zPs D bs H) (hD : zDs A bs) (hS : va_S A s.heap H locs) (hA : ∀ q, s.heap.size ≤ q → A q) (hCR : (isC ++ isR).map (fun i => bs[i]?) = (bC ++ bR).map some) (hnd : va_nd (isC ++ isR) = true) (hwc : wc = bC.flatten) (hwn : ∀ u, wn u = (bN u).flatten) (hB : ∀ u, isB.map (fun i => (bR ++ bN u)[i]?) = (bz u).map some) (hBn : va_nd isB = true) (hE : zE D c s) (hX : zX c A s s.heap) (hc : vwCl[ci]? = some q) (hq : q.1 = C) (he : wc[q0]? = some (b, .inr (ci, fs))) (hn : As.length = n) (hl : ls.size = nL) (hst : st0 = As.reverse ++ .ref b :: rest) (hW : (rest.map fun v => v.category).sum ≤ 8) (hdg : decode cc pc = .ok (.invokevirtual index, 3)) (hf : cells + mc ≤ R.cells ∧ slots + ms ≤ R.slots) (kk : ∀ (u : Nat → Nat) (H1 : Heap) (locs1 : List Loc), zPs D (bz u) H1 → zDs A (bz u) → va_S A s.heap H1 locs1 → W p l e R s m args below meth c0 H1 locs1 (cells + mc) (slots + ms) Q (F0 m (pc + 3) ls (.int v :: rest))) : W p l e R s m args below meth c0 H locs cells slots Q (F0 m pc ls st0) := by
  subst hq
  have hts := S.2.2.2.2
  have hP0 : va_P D vwCl (wc ++ bR.flatten) H := by rw [hwc, ← List.flatten_append]; exact zPs_iff.mp (hP.sub _ hCR)
  have hD0 : va_D A (wc ++ bR.flatten) := by rw [hwc, ← List.flatten_append]; exact zDs_iff.mp (hD.sub _ hnd hCR)
  have hC := zmapl wc bR.flatten
  have hPc : va_P D vwCl wc H := zpsub hP0 hC
  have hDc0 : va_D (fun _ => True) wc := (hD0.sub _ (zndr _) hC).weaken (fun _ _ _ _ => trivial)
  have hFc := va_free (wc := wc) hD0 hS hA _ hC
  refine va_calli (va_runV (As := As) (rest := rest) (b := b) S (hM H.size) ⟨callB_of n hts (zG mi.1.2.2.2) rfl hrm.1 hrm.2 (hts _ mi.1.2.2.1) (hts _ hlink) mi.2 hR, hts _ mi.1.1, hts _ mi.1.2.1⟩ ⟨zblindW, va_recv hE.1 hPc hc he, fun U hU hW => ⟨rfl, by rw [hU], by rw [hU]; exact hPc, hE.warm hW, hDc0, by rw [hU]; exact ((hX.kept hS.2.1).warm hW).narrow hFc⟩⟩ rfl hn hl hst (lv_room hW) hdg hf) hS (fun q _ h => hFc q h) hFc (fun r_ u t H1 locs1 ht hvm hw hBB hz1 hk1 hS1 => ?_)
  obtain ⟨hP1, hD1⟩ := hBB
  rw [ht] at hP1
  obtain ⟨hP2, hD2⟩ := va_join hP0 hD0 _ ((List.range bR.flatten.length).map (wc.length + ·)) hC (zmapr _ _) (zndm _ _) (fun i hi h => by simp at hi h; omega) hk1 hFc hP1 hD1
  subst hw
  have e : bR.flatten ++ wn u = (bR ++ bN u).flatten := by rw [hwn, List.flatten_append]
  rw [e] at hP2 hD2
  exact kk u H1 locs1 ((zPs_iff.mpr hP2).sub isB (hB u)) ((zDs_iff.mpr hD2).sub isB hBn (hB u)) hS1
end ZKN
abbrev rm_X6_keep_b : Room := { frames := 1, cells := 0, slots := 0, locals := 20 }
set_option maxHeartbeats 4000000 in
set_option maxRecDepth 100000 in
theorem k_X6_keep_b (l : Launch) (D : va_G) (c : Nat → ClassId) (N : Nat) (t0 n0 iA r0 m0 h0 o0 sA tA_rooms : Nat) (t_rooms : Nat → Int32) (p1 : Int32) (him : f_X6_isImage N p1 = some 0) : zMPi l D c yX6_keep cX6_keep 2 (some .int) rm_X6_keep_b (wX6 c t0 n0 iA r0 m0 h0 o0 sA tA_rooms t_rooms) [.ref t0, .int p1] (-2) := by
  refine zIP (by decide) (Nat.le_of_ble_eq_true rfl) ?_
  intro p e s m args below meth c0 Q hQ hx hb hr hlk hml hts hown hP hE hX hS ls hl
  have S : CallFix p m c0 cX6_keep 2 s args zT RX6 := ⟨hx, hb, hml, hown, hts⟩
  have hl : lv_has ls 2 [(0, .ref t0), (1, .int p1)] := hl
  refine lv_iload_n hx hb dX6_keep_0 rfl (lv_at hl 1 rfl) ?_
  refine zcSi (As := [.int p1]) (rest := []) S (k_X6_isImage l D c N  p1 0 him) mi_X6_isImage tw_4_145 ⟨(Nat.le_of_ble_eq_true rfl), (Nat.le_of_ble_eq_true rfl)⟩ ⟨rfl, rfl⟩ (zpnil) hE hX hS rfl hl.1 rfl (Nat.le_of_ble_eq_true rfl) dX6_keep_1 ⟨(Nat.le_of_ble_eq_true rfl), (Nat.le_of_ble_eq_true rfl)⟩ ?_
  refine lv_if_ne (tgt := 10) hx hb dX6_keep_4 (by decide) (fun hc_2 => absurd rfl hc_2) (fun hc_2 => ?_)
  refine lv_bipush (v := (-2 : Int32)) hx hb dX6_keep_7 (by decide) ?_
  exact zRPi hQ hx hb hr hlk rfl dX6_keep_9
abbrev rm_X6_back_b : Room := { frames := 1, cells := 0, slots := 0, locals := 20 }
set_option maxHeartbeats 4000000 in
set_option maxRecDepth 100000 in
theorem k_X6_back_b (l : Launch) (D : va_G) (c : Nat → ClassId) (N : Nat) (t0 n0 iA r0 m0 h0 o0 sA tA_rooms : Nat) (t_rooms : Nat → Int32) (p1 : Int32) (him : f_X6_isImage N p1 = some 0) : zMPi l D c yX6_back cX6_back 2 (some .int) rm_X6_back_b (wX6 c t0 n0 iA r0 m0 h0 o0 sA tA_rooms t_rooms) [.ref t0, .int p1] (-2) := by
  refine zIP (by decide) (Nat.le_of_ble_eq_true rfl) ?_
  intro p e s m args below meth c0 Q hQ hx hb hr hlk hml hts hown hP hE hX hS ls hl
  have S : CallFix p m c0 cX6_back 2 s args zT RX6 := ⟨hx, hb, hml, hown, hts⟩
  have hl : lv_has ls 2 [(0, .ref t0), (1, .int p1)] := hl
  refine lv_iload_n hx hb dX6_back_0 rfl (lv_at hl 1 rfl) ?_
  refine zcSi (As := [.int p1]) (rest := []) S (k_X6_isImage l D c N  p1 0 him) mi_X6_isImage tw_4_145 ⟨(Nat.le_of_ble_eq_true rfl), (Nat.le_of_ble_eq_true rfl)⟩ ⟨rfl, rfl⟩ (zpnil) hE hX hS rfl hl.1 rfl (Nat.le_of_ble_eq_true rfl) dX6_back_1 ⟨(Nat.le_of_ble_eq_true rfl), (Nat.le_of_ble_eq_true rfl)⟩ ?_
  refine lv_if_ne (tgt := 10) hx hb dX6_back_4 (by decide) (fun hc_2 => absurd rfl hc_2) (fun hc_2 => ?_)
  refine lv_bipush (v := (-2 : Int32)) hx hb dX6_back_7 (by decide) ?_
  exact zRPi hQ hx hb hr hlk rfl dX6_back_9
abbrev rm_X6_keep_n : Room := { frames := 3, cells := 10, slots := 141, locals := 120 }
set_option maxHeartbeats 4000000 in
set_option maxRecDepth 100000 in
theorem k_X6_keep_n (l : Launch) (D : va_G) (c : Nat → ClassId) (N : Nat) (t0 n0 iA r0 m0 h0 o0 sA tA_rooms : Nat) (t_rooms : Nat → Int32) (nA_numbers nA_syllables nA_days nA_words nA_parents nA_otherParents nA_kinds nA_hopeDays nA_hopeTenths : Nat) (n_numbers : Nat → Int32) (n_syllables : Nat → Int64) (n_syllableCount : Int32) (n_days : Nat → Int32) (n_words : Nat → Int64) (n_parents : Nat → Int32) (n_otherParents : Nat → Int32) (n_kinds : Nat → Int32) (n_personCount : Int32) (n_hopeDays : Nat → Int32) (n_hopeTenths : Nat → Int32) (n_hopeCount : Int32) (n_degreesTold : Int32) (i_ir : Nat → Option Nat) (p1 : Int32) (hir : i_ir p1.toNatClampNeg = none) (him : f_X6_isImage N p1 = some 1) (hin : zz_in p1 2 = true) (x_numbers : Nat → Int32) (x_syllables : Nat → Int64) (x_syllableCount : Int32) (x_days : Nat → Int32) (x_words : Nat → Int64) (x_parents : Nat → Int32) (x_otherParents : Nat → Int32) (x_kinds : Nat → Int32) (x_personCount : Int32) (x_hopeDays : Nat → Int32) (x_hopeTenths : Nat → Int32) (x_hopeCount : Int32) (x_degreesTold : Int32) (htf : f_X5_takeFrom N (zNums 26) (fun _ => 0) (fun _ => 0) (fun _ => 0) (fun _ => 0) (fun _ => 0) (fun _ => 0) (fun _ => 0) (fun _ => 0) n_numbers n_syllables n_syllableCount n_days n_words n_parents n_otherParents n_kinds n_personCount n_hopeDays n_hopeTenths n_hopeCount n_degreesTold = some (x_numbers, x_syllables, x_syllableCount, x_days, x_words, x_parents, x_otherParents, x_kinds, x_personCount, x_hopeDays, x_hopeTenths, x_hopeCount, x_degreesTold)) : zMNi l D c yX6_keep cX6_keep 2 (some .int) rm_X6_keep_n (wX6 c t0 n0 iA r0 m0 h0 o0 sA tA_rooms t_rooms ++ wX5 c n0 nA_numbers nA_syllables nA_days nA_words nA_parents nA_otherParents nA_kinds nA_hopeDays nA_hopeTenths n_numbers n_syllables n_syllableCount n_days n_words n_parents n_otherParents n_kinds n_personCount n_hopeDays n_hopeTenths n_hopeCount n_degreesTold ++ wI c iA i_ir) (fun u => wX6 c t0 n0 iA r0 m0 h0 o0 sA tA_rooms t_rooms ++ wX5 c n0 nA_numbers nA_syllables nA_days nA_words nA_parents nA_otherParents nA_kinds nA_hopeDays nA_hopeTenths n_numbers n_syllables n_syllableCount n_days n_words n_parents n_otherParents n_kinds n_personCount n_hopeDays n_hopeTenths n_hopeCount n_degreesTold ++ wI c iA (va_up i_ir p1.toNatClampNeg (some (u 0))) ++ wX5 c (u 0) (u 1) (u 2) (u 3) (u 4) (u 5) (u 6) (u 7) (u 8) (u 9) x_numbers x_syllables x_syllableCount x_days x_words x_parents x_otherParents x_kinds x_personCount x_hopeDays x_hopeTenths x_hopeCount x_degreesTold) [.ref t0, .int p1] n_personCount 10 141 := by
  intro sz
  refine zIW (by decide) (Nat.le_of_ble_eq_true rfl) ?_
  intro p e s m args below meth c0 Q A hAe hQ hx hb hr hlk hml hts hown hP hE hD hS hA hsz hmn hX ls hl
  rw [← hAe] at hQ
  have S : CallFix p m c0 cX6_keep 2 s args zT RX6 := ⟨hx, hb, hml, hown, hts⟩
  have hl : lv_has ls 2 [(0, .ref t0), (1, .int p1)] := hl
  refine lv_iload_n hx hb dX6_keep_0 rfl (lv_at hl 1 rfl) ?_
  refine zcSi (As := [.int p1]) (rest := []) S (k_X6_isImage l D c N  p1 1 him) mi_X6_isImage tw_4_145 ⟨(Nat.le_of_ble_eq_true rfl), (Nat.le_of_ble_eq_true rfl)⟩ ⟨rfl, rfl⟩ (zpnil) hE hX hS rfl hl.1 rfl (Nat.le_of_ble_eq_true rfl) dX6_keep_1 ⟨(Nat.le_of_ble_eq_true rfl), (Nat.le_of_ble_eq_true rfl)⟩ ?_
  refine lv_if_ne (tgt := 10) hx hb dX6_keep_4 (by decide) (fun hc_2 => ?_) (fun hc_2 => absurd hc_2 (by decide))
  refine lv_aload_n hx hb dX6_keep_10 rfl (lv_at hl 0 rfl) ?_
  refine zget S uw_X6 hE hP 0 1 rfl rfl (by decide) tw_2_10 rfl rfl dX6_keep_11 ?_
  refine lv_iload_n hx hb dX6_keep_14 rfl (lv_at hl 1 rfl) ?_
  refine zaIn hx hb hE hP 12 rfl hir (zz_in_ok hin) dX6_keep_15 ?_
  refine lv_ifnonnullN hx hb dX6_keep_16 ?_
  refine lv_aload_n hx hb dX6_keep_19 rfl (lv_at hl 0 rfl) ?_
  refine zget S uw_X6 hE hP 0 1 rfl rfl (by decide) tw_2_10 rfl rfl dX6_keep_20 ?_
  refine lv_iload_n hx hb dX6_keep_23 rfl (lv_at hl 1 rfl) ?_
  refine znew (ci := 5) (fs := [.null, .null, .int 0, .null, .null, .null, .null, .null, .int 0, .null, .null, .int 0, .int 0]) S uw_X5 tyX5_ok tw_1_24 tw_1_25 tw_1_2 hE hP hD hS hA rfl (fun j hj => by rcases (show j = 0 ∨ j = 1 ∨ j = 2 ∨ j = 3 ∨ j = 4 ∨ j = 5 ∨ j = 6 ∨ j = 7 ∨ j = 8 ∨ j = 9 ∨ j = 10 ∨ j = 11 ∨ j = 12 by omega) with rfl | rfl | rfl | rfl | rfl | rfl | rfl | rfl | rfl | rfl | rfl | rfl | rfl <;> rfl) (Nat.le_of_ble_eq_true rfl) (Nat.le_of_ble_eq_true rfl) dX6_keep_24 (fun q H hP hD hS => ?_)
  refine lv_dup hx hb dX6_keep_27 rfl ?_
  refine zini (rest := [.ref q, .int p1, .ref iA]) S (k_X5_init l D c q) mi_X5_init (Or.inl tw_1_26) ⟨(Nat.le_of_ble_eq_true rfl), (Nat.le_of_ble_eq_true rfl)⟩ ⟨rfl, rfl⟩ hP hD hS hA hE hX hl.1 (Nat.le_of_ble_eq_true rfl) dX6_keep_28 ⟨(Nat.le_of_ble_eq_true rfl), (Nat.le_of_ble_eq_true rfl)⟩ (fun u1 H locs hP hD hS => ?_)
  refine zastq hx hb hE hP hD hS 12 4 13 5 (f := i_ir) (g := (va_up i_ir p1.toNatClampNeg (some q))) (wX6 c t0 n0 iA r0 m0 h0 o0 sA tA_rooms t_rooms ++ wX5 c n0 nA_numbers nA_syllables nA_days nA_words nA_parents nA_otherParents nA_kinds nA_hopeDays nA_hopeTenths n_numbers n_syllables n_syllableCount n_days n_words n_parents n_otherParents n_kinds n_personCount n_hopeDays n_hopeTenths n_hopeCount n_degreesTold ++ wI c iA (va_up i_ir p1.toNatClampNeg (some q)) ++ wX5 c q (u1 0 0) (u1 1 0) (u1 2 0) (u1 3 0) (u1 4 0) (u1 5 0) (u1 6 0) (u1 7 0) (u1 8 0) (zNums 26) (fun _ => 0) 0 (fun _ => 0) (fun _ => 0) (fun _ => 0) (fun _ => 0) (fun _ => 0) 0 (fun _ => 0) (fun _ => 0) 0 3) rfl rfl rfl rfl rfl rfl (zz_in_ok hin) dX6_keep_31 (fun H locs hP hD hS => ?_)
  refine lv_aload_n hx hb dX6_keep_32 rfl (lv_at hl 0 rfl) ?_
  refine zget S uw_X6 hE hP 0 1 rfl rfl (by decide) tw_2_10 rfl rfl dX6_keep_33 ?_
  refine lv_iload_n hx hb dX6_keep_36 rfl (lv_at hl 1 rfl) ?_
  refine zaIs (v := q) hx hb hE hP 12 rfl (va_up_self _ _ _) (zz_in_ok hin) dX6_keep_37 ?_
  refine lv_aload_n hx hb dX6_keep_38 rfl (lv_at hl 0 rfl) ?_
  refine zget S uw_X6 hE hP 0 0 rfl rfl (by decide) tw_2_9 rfl rfl dX6_keep_39 ?_
  refine zwVv (As := [.ref n0]) (rest := []) (wr := (wX6 c t0 n0 iA r0 m0 h0 o0 sA tA_rooms t_rooms ++ wI c iA (va_up i_ir p1.toNatClampNeg (some q)))) (wX6 c t0 n0 iA r0 m0 h0 o0 sA tA_rooms t_rooms ++ wX5 c n0 nA_numbers nA_syllables nA_days nA_words nA_parents nA_otherParents nA_kinds nA_hopeDays nA_hopeTenths n_numbers n_syllables n_syllableCount n_days n_words n_parents n_otherParents n_kinds n_personCount n_hopeDays n_hopeTenths n_hopeCount n_degreesTold ++ wI c iA (va_up i_ir p1.toNatClampNeg (some q)) ++ wX5 c q (u1 0 0) (u1 1 0) (u1 2 0) (u1 3 0) (u1 4 0) (u1 5 0) (u1 6 0) (u1 7 0) (u1 8 0) x_numbers x_syllables x_syllableCount x_days x_words x_parents x_otherParents x_kinds x_personCount x_hopeDays x_hopeTenths x_hopeCount x_degreesTold) [13, 14, 15, 16, 17, 18, 19, 20, 21, 22, 2, 3, 4, 5, 6, 7, 8, 9, 10, 11] [0, 1, 12] [0, 1, 13, 14, 15, 16, 17, 18, 19, 20, 21, 22, 2, 3, 4, 5, 6, 7, 8, 9, 10, 11, 12] S (k_X5_takeFrom l D c N q (u1 0 0) (u1 1 0) (u1 2 0) (u1 3 0) (u1 4 0) (u1 5 0) (u1 6 0) (u1 7 0) (u1 8 0) (zNums 26) (fun _ => 0) 0 (fun _ => 0) (fun _ => 0) (fun _ => 0) (fun _ => 0) (fun _ => 0) 0 (fun _ => 0) (fun _ => 0) 0 3 n0 nA_numbers nA_syllables nA_days nA_words nA_parents nA_otherParents nA_kinds nA_hopeDays nA_hopeTenths n_numbers n_syllables n_syllableCount n_days n_words n_parents n_otherParents n_kinds n_personCount n_hopeDays n_hopeTenths n_hopeCount n_degreesTold  x_numbers x_syllables x_syllableCount x_days x_words x_parents x_otherParents x_kinds x_personCount x_hopeDays x_hopeTenths x_hopeCount x_degreesTold htf) mi_X5_takeFrom tw_2_228 ⟨(Nat.le_of_ble_eq_true rfl), (Nat.le_of_ble_eq_true rfl)⟩ ⟨rfl, rfl⟩ hP hD hS hA rfl rfl rfl rfl (by decide) rfl rfl hE hX (ci := 5) rfl rfl (q0 := 0) rfl rfl hl.1 rfl (Nat.le_of_ble_eq_true rfl) dX6_keep_42 ⟨(Nat.le_of_ble_eq_true rfl), (Nat.le_of_ble_eq_true rfl)⟩ (fun H locs hP hD hS => ?_)
  refine lv_aload_n hx hb dX6_keep_45 rfl (lv_at hl 0 rfl) ?_
  refine zget S uw_X6 hE hP 0 0 rfl rfl (by decide) tw_2_9 rfl rfl dX6_keep_46 ?_
  refine zget S uw_X5 hE hP 2 8 rfl rfl (by decide) tw_1_56 rfl rfl dX6_keep_49 ?_
  exact zRNi (B := (fun u => wX6 c t0 n0 iA r0 m0 h0 o0 sA tA_rooms t_rooms ++ wX5 c n0 nA_numbers nA_syllables nA_days nA_words nA_parents nA_otherParents nA_kinds nA_hopeDays nA_hopeTenths n_numbers n_syllables n_syllableCount n_days n_words n_parents n_otherParents n_kinds n_personCount n_hopeDays n_hopeTenths n_hopeCount n_degreesTold ++ wI c iA (va_up i_ir p1.toNatClampNeg (some (u 0))) ++ wX5 c (u 0) (u 1) (u 2) (u 3) (u 4) (u 5) (u 6) (u 7) (u 8) (u 9) x_numbers x_syllables x_syllableCount x_days x_words x_parents x_otherParents x_kinds x_personCount x_hopeDays x_hopeTenths x_hopeCount x_degreesTold)) (fun k => match k with | 0 => q | k + 1 => u1 k 0) hQ hx hb hr hlk rfl hP hD hS dX6_keep_52
