/-! ===== String's own methods over the eight words; the gaps ===== -/
def zCh (k j : Nat) : Int32 := (((zByts.getD k []).getD j 0 &&& 255).toUInt32 % 65536).toInt32
theorem mi_J3_checkIndex_8e157 : zMS yJ3_checkIndex_8e157 cJ3_checkIndex_8e157 3 (some .int) 3 := ⟨⟨tw_2_114, tw_1_12, tw_2_115⟩, by decide +kernel, by decide +kernel, by decide +kernel⟩
theorem mi_J0_checkIndex_df160 : zMS yJ0_checkIndex_df160 cJ0_checkIndex_df160 2 none 2 := ⟨⟨tw_2_109, tw_1_10, tw_2_110⟩, by decide +kernel, by decide +kernel, by decide +kernel⟩
theorem mi_J1_charAt_3b067 : zMS yJ1_charAt_3b067 cJ1_charAt_3b067 2 (some .char) 2 := ⟨⟨tw_2_106, tw_1_11, tw_2_107⟩, by decide +kernel, by decide +kernel, by decide +kernel⟩
theorem mi_J0_isLatin1_aae02 : zMI RJ0 yJ0_isLatin1_aae02 cJ0_isLatin1_aae02 1 (some .boolean) 0 := ⟨⟨tw_2_102, tw_2_103, tw_1_10, tw_2_104⟩, by decide +kernel, by decide +kernel, by decide +kernel⟩
theorem mi_J0_coder_7d493 : zMI RJ0 yJ0_coder_7d493 cJ0_coder_7d493 1 (some .byte) 0 := ⟨⟨tw_2_92, tw_2_93, tw_1_10, tw_2_94⟩, by decide +kernel, by decide +kernel, by decide +kernel⟩
theorem mi_J0_length_8abf5 : zMI RJ0 yJ0_length_8abf5 cJ0_length_8abf5 1 (some .int) 0 := ⟨⟨tw_2_88, tw_2_89, tw_1_10, tw_2_90⟩, by decide +kernel, by decide +kernel, by decide +kernel⟩
theorem mi_J0_charAt_5068e : zMI RJ0 yJ0_charAt_5068e cJ0_charAt_5068e 2 (some .char) 1 := ⟨⟨tw_2_98, tw_2_99, tw_1_10, tw_2_100⟩, by decide +kernel, by decide +kernel, by decide +kernel⟩
abbrev zMPv (l : Launch) (D : va_G) (c : Nat → ClassId) (y : MethodName) (cc : ByteArray) (maxL : Nat) (ret : Option FieldType) (rm : Room) (wc : va_W) (av : List Value) : Prop := Met l y (zW y cc maxL ret) rm (va_Pc av (zPre D c wc)) (va_Sv (fun _ => True)) 0 0 (fun _ => False)
section ZST
variable {p : Program} {l : Launch} {e : Env} {R : Room} {s : State} {m : MethodId} {args : Array Value} {below : List Frame} {meth : Method} {c0 : Code} {H : Heap} {locs : List Loc} {cells slots : Nat} {Q : State → Prop}
variable {cc : ByteArray} {pc : Nat} {ls : Array Slot} {rest : List Value} {D : va_G} {c : Nat → ClassId} {A : Nat → Prop} {a : Nat} {ws : va_W} {H0 : Heap}
theorem zRPv (hQ : Q = MQ below (va_Sv (fun _ => True)) args s cells slots (fun _ => False)) (hx : p.tables.exec = Jvm.exec) (hb : c0.code = cc) (hr : meth.sig.returnType = none) (hlk : meth.locks = false) (hdg : decode cc pc = .ok (.return_, 1)) : W p l e R s m args below meth c0 s.heap [] cells slots Q (F0 m pc ls []) := by
  subst hQ
  exact W.vret hx hb hr (fun t ht _ => ⟨rfl, trivial, ht⟩) (fun q hq => nomatch hq) hdg hlk
theorem zRPn {ty : FieldType} {v0 v : Int32} (hQ : Q = MQ below (vp_Si (fun r => r = v)) args s cells slots (fun _ => False)) (hx : p.tables.exec = Jvm.exec) (hb : c0.code = cc) (hr : meth.sig.returnType = some ty) (hlk : meth.locks = false) (hn : narrow ty (.int v0) = .int v0) (hv : v0 = v) (hdg : decode cc pc = .ok (.ireturn, 1)) : W p l e R s m args below meth c0 s.heap [] cells slots Q (F0 m pc ls [.int v0]) := by
  subst hQ
  exact W.zret hx hb hr hn (fun t ht _ => ⟨v0, rfl, hv, ht⟩) (fun q hq => nomatch hq) hdg hlk
theorem zcSv {y : MethodName} {bytes : ByteArray} {maxL nL n index : Nat} {ret : Option FieldType} {rm : Room} {own : String} {As st0 : List Value} {wc : va_W} (S : CallFix p m c0 cc nL s args zT own) (hM : zMPv l D c y bytes maxL ret rm wc As) (mi : zMS y bytes maxL ret n) (hlink : Cond.methodLink own index y ∈ zT) (hR : rm.frames + 1 ≤ R.frames ∧ 8 + (maxL + 11) + rm.locals ≤ R.locals) (hrm : rm.cells = 0 ∧ rm.slots = 0) (hP : va_P D vwCl wc H) (hE : zE D c s) (hX : zX c A s s.heap) (hS : va_S A s.heap H locs) (hn : As.length = n) (hl : ls.size = nL) (hst : st0 = As.reverse ++ rest) (hW : (rest.map fun v => v.category).sum ≤ 8) (hdg : decode cc pc = .ok (.invokestatic index, 3)) (hf : cells + 0 ≤ R.cells ∧ slots + 0 ≤ R.slots) (kk : W p l e R s m args below meth c0 H locs cells slots Q (F0 m (pc + 3) ls rest)) : W p l e R s m args below meth c0 H locs cells slots Q (F0 m pc ls st0) := by
  have hts := S.2.2.2.2
  refine va_csv (W.runS (As := As) (rest := rest) S hM ⟨callB_of n hts (zG mi.1.2.2) rfl hrm.1 hrm.2 (hts _ mi.1.2.1) (hts _ hlink) mi.2 hR, hts _ mi.1.1⟩ ⟨zblind, fun U hU hW => ⟨rfl, by rw [hU]; exact hP, hE.warm hW, by rw [hU]; exact ((hX.kept hS.2.1).warm hW).no⟩⟩ rfl hn hl hst (lv_room hW) hdg hf) (fun _ => kk)
/-- a call on one of the eight words -/
theorem zcT {y : MethodName} {bytes : ByteArray} {maxL nL n index k : Nat} {ret : Option FieldType} {rm : Room} {own : String} {As st0 : List Value} {wc : va_W} {v : Int32} (S : CallFix p m c0 cc nL s args zT own) (hk : k < 8) (hM : zMPi l D c y bytes maxL ret rm wc (.ref (c (110 + k)) :: As) v) (mi : zMI "java/lang/String" y bytes maxL ret n) (hlink : Cond.methodLink own index y ∈ zT) (hR : rm.frames + 1 ≤ R.frames ∧ 8 + (maxL + 11) + rm.locals ≤ R.locals) (hrm : rm.cells = 0 ∧ rm.slots = 0) (hP : va_P D vwCl wc H) (hE : zE D c s) (hX : zX c A s s.heap) (hS : va_S A s.heap H locs) (hn : As.length = n) (hl : ls.size = nL) (hst : st0 = As.reverse ++ .ref (c (110 + k)) :: rest) (hW : (rest.map fun v => v.category).sum ≤ 8) (hdg : decode cc pc = .ok (.invokevirtual index, 3)) (hf : cells + 0 ≤ R.cells ∧ slots + 0 ≤ R.slots) (kk : W p l e R s m args below meth c0 H locs cells slots Q (F0 m (pc + 3) ls (.int v :: rest))) : W p l e R s m args below meth c0 H locs cells slots Q (F0 m pc ls st0) := by
  have hts := S.2.2.2.2
  refine vp_callSi (W.runV (C := "java/lang/String") (As := As) (rest := rest) (b := c (110 + k)) S hM ⟨callB_of n hts (zG mi.1.2.2.2) rfl hrm.1 hrm.2 (hts _ mi.1.2.2.1) (hts _ hlink) mi.2 hR, hts _ mi.1.1, hts _ mi.1.2.1⟩ ⟨zblind, vk_recv (i := k) (adK := fun i => c (110 + i)) hX.2.2.1 hk hS, fun U hU hW => ⟨rfl, by rw [hU]; exact hP, hE.warm hW, by rw [hU]; exact ((hX.kept hS.2.1).warm hW).no⟩⟩ rfl hn hl hst (lv_room hW) hdg hf) (fun r hr => ?_)
  rw [hr]; exact kk
end ZST
theorem zLens_lt : ∀ k, k < 8 → zLens.getD k 0 < 8 := by decide
theorem zlt_of {i : Int32} {n : Nat} (h : vp_in i n) (hn : n < 8) : ¬ i < 0 ∧ i < Int32.ofNat n := by
  refine ⟨fun q => h (Or.inl q), ?_⟩
  have h2 := vp_in_iff.mp h
  rw [Int32.lt_iff_toInt_lt, show (Int32.ofNat n).toInt = n from nI_toInt (by omega)]
  exact h2.2
theorem k_J3_checkIndex_8e157 (l : Launch) (D : va_G) (c : Nat → ClassId) (i n : Int32) (v : Value) (hv : v = .null ∨ ∃ a, v = .ref a) (h0 : ¬ i < 0) (h1 : i < n) : zMPi l D c yJ3_checkIndex_8e157 cJ3_checkIndex_8e157 3 (some .int) { frames := 0, cells := 0, slots := 0, locals := 0 } [] [.int i, .int n, v] i := by
  rcases hv with rfl | ⟨a, rfl⟩
  all_goals
    refine zIP (by decide) (Nat.le_of_ble_eq_true rfl) ?_
    intro p e s m args below meth c0 Q hQ hx hb hr hlk hml hts hown hP hE hX hS ls hl
    refine lv_iload_n hx hb dJ3_checkIndex_8e157_0 rfl (lv_at hl 0 rfl) ?_
    refine lv_if_lt (tgt := 9) hx hb dJ3_checkIndex_8e157_1 (by decide) (fun h => absurd h h0) (fun _ => ?_)
    refine lv_iload_n hx hb dJ3_checkIndex_8e157_4 rfl (lv_at hl 0 rfl) ?_
    refine lv_iload_n hx hb dJ3_checkIndex_8e157_5 rfl (lv_at hl 1 rfl) ?_
    refine lv_icmp_lt (tgt := 16) hx hb dJ3_checkIndex_8e157_6 (by decide) (fun _ => ?_) (fun h => absurd h1 h)
    refine lv_iload_n hx hb dJ3_checkIndex_8e157_16 rfl (lv_at hl 0 rfl) ?_
    exact zRPi hQ hx hb hr hlk rfl dJ3_checkIndex_8e157_17
theorem k_J0_checkIndex_df160 (l : Launch) (D : va_G) (c : Nat → ClassId) (i n : Int32) (h0 : ¬ i < 0) (h1 : i < n) : zMPv l D c yJ0_checkIndex_df160 cJ0_checkIndex_df160 2 none { frames := 1, cells := 0, slots := 0, locals := 40 } [] [.int i, .int n] := by
  refine zIP (by decide) (Nat.le_of_ble_eq_true rfl) ?_
  intro p e s m args below meth c0 Q hQ hx hb hr hlk hml hts hown hP hE hX hS ls hl
  have S : CallFix p m c0 cJ0_checkIndex_df160 2 s args zT RJ0 := ⟨hx, hb, hml, hown, hts⟩
  have hl : lv_has ls 2 [(0, .int i), (1, .int n)] := hl
  refine lv_iload_n hx hb dJ0_checkIndex_df160_0 rfl (lv_at hl 0 rfl) ?_
  refine lv_iload_n hx hb dJ0_checkIndex_df160_1 rfl (lv_at hl 1 rfl) ?_
  rcases hX.2.1.2 with hZ | ⟨t, hZ⟩
  · refine va_gets hx hb hZ hS hown (hts _ tw_2_111) (fun _ h => h) dJ0_checkIndex_df160_2 ?_
    refine zcSi (As := [.int i, .int n, .null]) (rest := []) S (k_J3_checkIndex_8e157 l D c i n .null (Or.inl rfl) h0 h1) mi_J3_checkIndex_8e157 tw_2_113 ⟨Nat.le_of_ble_eq_true rfl, Nat.le_of_ble_eq_true rfl⟩ ⟨rfl, rfl⟩ zpnil hE hX hS rfl hl.1 rfl (Nat.le_of_ble_eq_true rfl) dJ0_checkIndex_df160_5 ⟨Nat.le_of_ble_eq_true rfl, Nat.le_of_ble_eq_true rfl⟩ ?_
    refine lv_pop hx hb dJ0_checkIndex_df160_8 rfl ?_
    exact zRPv hQ hx hb hr hlk dJ0_checkIndex_df160_9
  · refine va_gets hx hb hZ hS hown (hts _ tw_2_111) (fun _ h => h) dJ0_checkIndex_df160_2 ?_
    refine zcSi (As := [.int i, .int n, .ref t]) (rest := []) S (k_J3_checkIndex_8e157 l D c i n (.ref t) (Or.inr ⟨t, rfl⟩) h0 h1) mi_J3_checkIndex_8e157 tw_2_113 ⟨Nat.le_of_ble_eq_true rfl, Nat.le_of_ble_eq_true rfl⟩ ⟨rfl, rfl⟩ zpnil hE hX hS rfl hl.1 rfl (Nat.le_of_ble_eq_true rfl) dJ0_checkIndex_df160_5 ⟨Nat.le_of_ble_eq_true rfl, Nat.le_of_ble_eq_true rfl⟩ ?_
    refine lv_pop hx hb dJ0_checkIndex_df160_8 rfl ?_
    exact zRPv hQ hx hb hr hlk dJ0_checkIndex_df160_9
theorem k_J1_charAt_3b067 (l : Launch) (D : va_G) (c : Nat → ClassId) (k : Nat) (hk : k < 8) (i : Int32) (hin : vp_in i (zLens.getD k 0)) : zMPi l D c yJ1_charAt_3b067 cJ1_charAt_3b067 2 (some .char) { frames := 2, cells := 0, slots := 0, locals := 80 } [] [.ref (c (120 + k)), .int i] (zCh k i.toNatClampNeg) := by
  refine zIP (by decide) (Nat.le_of_ble_eq_true rfl) ?_
  intro p e s m args below meth c0 Q hQ hx hb hr hlk hml hts hown hP hE hX hS ls hl
  have S : CallFix p m c0 cJ1_charAt_3b067 2 s args zT RJ1 := ⟨hx, hb, hml, hown, hts⟩
  have hl : lv_has ls 2 [(0, .ref (c (120 + k))), (1, .int i)] := hl
  have hT := (hX.2.2.1.1 k hk).2.2.2
  obtain ⟨h0, h1⟩ := zlt_of hin (zLens_lt k hk)
  refine lv_iload_n hx hb dJ1_charAt_3b067_0 rfl (lv_at hl 1 rfl) ?_
  refine lv_aload_n hx hb dJ1_charAt_3b067_1 rfl (lv_at hl 0 rfl) ?_
  refine va_tlen hx hb hT hS rfl dJ1_charAt_3b067_2 ?_
  refine zcSv (As := [.int i, .int (Int32.ofNat (zLens.getD k 0))]) (rest := []) S (k_J0_checkIndex_df160 l D c i _ h0 h1) mi_J0_checkIndex_df160 tw_2_108 ⟨Nat.le_of_ble_eq_true rfl, Nat.le_of_ble_eq_true rfl⟩ ⟨rfl, rfl⟩ zpnil hE hX hS rfl hl.1 rfl (Nat.le_of_ble_eq_true rfl) dJ1_charAt_3b067_3 ⟨Nat.le_of_ble_eq_true rfl, Nat.le_of_ble_eq_true rfl⟩ ?_
  refine lv_aload_n hx hb dJ1_charAt_3b067_6 rfl (lv_at hl 0 rfl) ?_
  refine lv_iload_n hx hb dJ1_charAt_3b067_7 rfl (lv_at hl 1 rfl) ?_
  refine va_tb hx hb hT hS hin rfl dJ1_charAt_3b067_8 ?_
  refine lv_sipush (v := (255 : Int32)) hx hb dJ1_charAt_3b067_9 (by decide) ?_
  refine lv_iand hx hb dJ1_charAt_3b067_12 ?_
  refine lv_i2c hx hb dJ1_charAt_3b067_13 rfl ?_
  exact zRPn hQ hx hb hr hlk (pk_nc _) rfl dJ1_charAt_3b067_14
theorem k_J0_isLatin1_aae02 (l : Launch) (D : va_G) (c : Nat → ClassId) (k : Nat) (hk : k < 8) : zMPi l D c yJ0_isLatin1_aae02 cJ0_isLatin1_aae02 1 (some .boolean) { frames := 0, cells := 0, slots := 0, locals := 0 } [] [.ref (c (110 + k))] 1 := by
  refine zIP (by decide) (Nat.le_of_ble_eq_true rfl) ?_
  intro p e s m args below meth c0 Q hQ hx hb hr hlk hml hts hown hP hE hX hS ls hl
  have hl : lv_has ls 1 [(0, .ref (c (110 + k)))] := hl
  refine va_gets hx hb hX.2.1.1 hS hown (hts _ tw_2_95) (fun _ h => h) dJ0_isLatin1_aae02_0 ?_
  refine lv_if_eq (tgt := 17) hx hb dJ0_isLatin1_aae02_3 (by decide) (fun h => absurd h (by decide)) (fun _ => ?_)
  refine lv_aload_n hx hb dJ0_isLatin1_aae02_6 rfl (lv_at hl 0 rfl) ?_
  refine vk_getf hx hb (hX.2.2.1.1 k hk).2.1 hS hown (hts _ tw_6_108) (fun _ h => h) dJ0_isLatin1_aae02_7 ?_
  refine lv_if_ne (tgt := 17) hx hb dJ0_isLatin1_aae02_10 (by decide) (fun h => absurd rfl h) (fun _ => ?_)
  refine lv_iconst (v := (1 : Int32)) hx hb dJ0_isLatin1_aae02_13 (by decide) ?_
  refine lv_goto (tgt := 18) hx hb dJ0_isLatin1_aae02_14 (by decide) ?_
  exact zRPn hQ hx hb hr hlk rfl rfl dJ0_isLatin1_aae02_18
theorem k_J0_coder_7d493 (l : Launch) (D : va_G) (c : Nat → ClassId) (k : Nat) (hk : k < 8) : zMPi l D c yJ0_coder_7d493 cJ0_coder_7d493 1 (some .byte) { frames := 0, cells := 0, slots := 0, locals := 0 } [] [.ref (c (110 + k))] 0 := by
  refine zIP (by decide) (Nat.le_of_ble_eq_true rfl) ?_
  intro p e s m args below meth c0 Q hQ hx hb hr hlk hml hts hown hP hE hX hS ls hl
  have hl : lv_has ls 1 [(0, .ref (c (110 + k)))] := hl
  refine va_gets hx hb hX.2.1.1 hS hown (hts _ tw_2_95) (fun _ h => h) dJ0_coder_7d493_0 ?_
  refine lv_if_eq (tgt := 13) hx hb dJ0_coder_7d493_3 (by decide) (fun h => absurd h (by decide)) (fun _ => ?_)
  refine lv_aload_n hx hb dJ0_coder_7d493_6 rfl (lv_at hl 0 rfl) ?_
  refine vk_getf hx hb (hX.2.2.1.1 k hk).2.1 hS hown (hts _ tw_6_108) (fun _ h => h) dJ0_coder_7d493_7 ?_
  refine lv_goto (tgt := 14) hx hb dJ0_coder_7d493_10 (by decide) ?_
  exact zRPn hQ hx hb hr hlk rfl rfl dJ0_coder_7d493_14
theorem k_J0_length_8abf5 (l : Launch) (D : va_G) (c : Nat → ClassId) (k : Nat) (hk : k < 8) : zMPi l D c yJ0_length_8abf5 cJ0_length_8abf5 1 (some .int) { frames := 1, cells := 0, slots := 0, locals := 40 } [] [.ref (c (110 + k))] (Int32.ofNat (zLens.getD k 0)) := by
  refine zIP (by decide) (Nat.le_of_ble_eq_true rfl) ?_
  intro p e s m args below meth c0 Q hQ hx hb hr hlk hml hts hown hP hE hX hS ls hl
  have S : CallFix p m c0 cJ0_length_8abf5 1 s args zT RJ0 := ⟨hx, hb, hml, hown, hts⟩
  have hl : lv_has ls 1 [(0, .ref (c (110 + k)))] := hl
  have hT := (hX.2.2.1.1 k hk).2.2.2
  refine lv_aload_n hx hb dJ0_length_8abf5_0 rfl (lv_at hl 0 rfl) ?_
  refine vk_getf hx hb (hX.2.2.1.1 k hk).2.2.1 hS hown (hts _ tw_6_107) (fun _ h => h) dJ0_length_8abf5_1 ?_
  refine va_tlen hx hb hT hS rfl dJ0_length_8abf5_4 ?_
  refine lv_aload_n hx hb dJ0_length_8abf5_5 rfl (lv_at hl 0 rfl) ?_
  refine zcT (As := []) (rest := [.int (Int32.ofNat (zLens.getD k 0))]) S hk (k_J0_coder_7d493 l D c k hk) mi_J0_coder_7d493 tw_2_91 ⟨Nat.le_of_ble_eq_true rfl, Nat.le_of_ble_eq_true rfl⟩ ⟨rfl, rfl⟩ zpnil hE hX hS rfl hl.1 rfl (Nat.le_of_ble_eq_true rfl) dJ0_length_8abf5_6 ⟨Nat.le_of_ble_eq_true rfl, Nat.le_of_ble_eq_true rfl⟩ ?_
  refine lv_ishr hx hb dJ0_length_8abf5_9 ?_
  exact zRPi hQ hx hb hr hlk (sb_shr0 _) dJ0_length_8abf5_10
theorem k_J0_charAt_5068e (l : Launch) (D : va_G) (c : Nat → ClassId) (k : Nat) (hk : k < 8) (i : Int32) (hin : vp_in i (zLens.getD k 0)) : zMPi l D c yJ0_charAt_5068e cJ0_charAt_5068e 2 (some .char) { frames := 3, cells := 0, slots := 0, locals := 120 } [] [.ref (c (110 + k)), .int i] (zCh k i.toNatClampNeg) := by
  refine zIP (by decide) (Nat.le_of_ble_eq_true rfl) ?_
  intro p e s m args below meth c0 Q hQ hx hb hr hlk hml hts hown hP hE hX hS ls hl
  have S : CallFix p m c0 cJ0_charAt_5068e 2 s args zT RJ0 := ⟨hx, hb, hml, hown, hts⟩
  have hl : lv_has ls 2 [(0, .ref (c (110 + k))), (1, .int i)] := hl
  refine lv_aload_n hx hb dJ0_charAt_5068e_0 rfl (lv_at hl 0 rfl) ?_
  refine zcT (As := []) (rest := []) S hk (k_J0_isLatin1_aae02 l D c k hk) mi_J0_isLatin1_aae02 tw_2_101 ⟨Nat.le_of_ble_eq_true rfl, Nat.le_of_ble_eq_true rfl⟩ ⟨rfl, rfl⟩ zpnil hE hX hS rfl hl.1 rfl (Nat.le_of_ble_eq_true rfl) dJ0_charAt_5068e_1 ⟨Nat.le_of_ble_eq_true rfl, Nat.le_of_ble_eq_true rfl⟩ ?_
  refine lv_if_eq (tgt := 16) hx hb dJ0_charAt_5068e_4 (by decide) (fun h => absurd h (by decide)) (fun _ => ?_)
  refine lv_aload_n hx hb dJ0_charAt_5068e_7 rfl (lv_at hl 0 rfl) ?_
  refine vk_getf hx hb (hX.2.2.1.1 k hk).2.2.1 hS hown (hts _ tw_6_107) (fun _ h => h) dJ0_charAt_5068e_8 ?_
  refine lv_iload_n hx hb dJ0_charAt_5068e_11 rfl (lv_at hl 1 rfl) ?_
  refine zcSi (As := [.ref (c (120 + k)), .int i]) (rest := []) S (k_J1_charAt_3b067 l D c k hk i hin) mi_J1_charAt_3b067 tw_2_105 ⟨Nat.le_of_ble_eq_true rfl, Nat.le_of_ble_eq_true rfl⟩ ⟨rfl, rfl⟩ zpnil hE hX hS rfl hl.1 rfl (Nat.le_of_ble_eq_true rfl) dJ0_charAt_5068e_12 ⟨Nat.le_of_ble_eq_true rfl, Nat.le_of_ble_eq_true rfl⟩ ?_
  exact zRPn hQ hx hb hr hlk (pk_nc _) rfl dJ0_charAt_5068e_15
