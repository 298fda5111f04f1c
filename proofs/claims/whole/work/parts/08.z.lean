/-! THE CLAIM OUT OF ONE WALK OF THE LAW'S BODY. Your part is whole_start (and what it stands on); all else here is the same for every law, but numbers. -/
def R_law : String := "SumNamesLaw"
def lw_P (b : Addr) (xs : List Int32) (args : Array Value) (s : State) : Prop := args = #[.ref b] ∧ s.IntsAt b xs ∧ xs.length ≤ 3072 ∧ (Jvm.Cond.and given_1 narrow_1).before args s = true
def lw_Q (_ : Array Value) (s : State) (o : Outcome) (t : State) : Prop := o = .returned (some (.int 1)) ∧ Framed s o t [] 600000 7302250
def lw_Z (below : List Frame) (a : Array Value) (s : State) : State → Prop := fun t => ∃ o, t.status = .running ∧ Ended t below o ∧ lw_Q a s o t
/-- the law's own end, with 1 on the stack, nothing written that was there before, its room as the claim has it -/
theorem lw_ret {p : Program} {l : Launch} {e : Env} {s : State} {m : MethodId} {below : List Frame} {meth : Method} {c : Code} {b : Nat} (hx : p.tables.exec = Jvm.exec) (hb : c.code = code) (hr : meth.sig.returnType = ret) (hlocks : meth.locks = false) {pc : Nat} {H : Heap} {ls : Array Slot} (hdg : decode code pc = .ok (.ireturn, 1)) : W p l e room_1 s m #[Value.ref b] below meth c H [] 600000 7302250 (lw_Z below #[Value.ref b] s) (F0 m pc ls [.int 1]) := by
  intro T hT X
  obtain ⟨fs, hret, hrun, hended, hW, hframe⟩ := X.leave (v := some (.int 1)) (hlocks := hlocks) (fun h => by rw [hr] at h; cases h)
  have hmeth' : T.vm.method? m = some meth := X.method'
  refine ⟨T.setFrames fs, ?_, .returned (some (.int 1)), hrun, hended, rfl, ⟨_, rfl⟩, hW, hframe⟩
  jvm_step X.here [X.here.top, hx, hb, hdg, hmeth', hr, ret, narrow_b1]
  (try refine ⟨rfl, ?_⟩); (try refine ⟨rfl, ?_⟩)
  first | (intro acts; rw [hret _ acts rfl rfl rfl]) | rw [hret _ _ rfl rfl rfl]
  exact Steps.refl _
/-- what holds at the law's entry: the machine, the code, the tables' words (any of lw_tbl by 'hts w (by decide +kernel)'), the script of L ints xs at the cell b, what the Statement gives of the start (any of its parts by flat_of_before) -/
def lw_At (p : Program) (s : State) (m : MethodId) (meth : Method) (c : Code) (b L : Nat) (xs : Nat → Int32) : Prop :=
  p.tables.exec = Jvm.exec ∧ c.code = code ∧ meth.sig.returnType = ret ∧ c.maxLocals = 4 ∧ s.vm.findClass R_law = some m.cls ∧ (∀ w ∈ lw_tbl, w.before #[Value.ref b] s = true) ∧ va_X b L xs s s.heap ∧ b < s.heap.size ∧ meth.locks = false ∧ (Jvm.Cond.and given_1 narrow_1).before #[Value.ref b] s = true
theorem zexit {i L : Nat} (hi : i ≤ 4000) (hL : L ≤ 3072) : (Int32.ofNat L - 6 < nI i) ↔ L < i + 6 := by
  have e : (Int32.ofNat L - 6 : Int32) = nI L - nI 6 := rfl
  rw [e, Int32.lt_iff_toInt_lt, pk_sub_toInt (by omega) (by omega), nI_toInt (by omega)]
  omega
set_option maxHeartbeats 4000000 in
set_option maxRecDepth 100000 in
theorem law_loop {p : Program} {e : Env} {s : State} {m : MethodId} {below : List Frame} {meth : Method} {c0 : Code} (l : Launch) {b L : Nat} {xs : Nat → Int32} {D : va_G} {c : Nat → ClassId} (C : zLC p s m c0 b L xs D c #[Value.ref b]) (hr : meth.sig.returnType = ret) (hlocks : meth.locks = false) (t0 z0 : Nat) : ∀ (n i cells slots : Nat) (H : Heap) (locs : List Loc) (ls : Array Slot), i ≤ 4000 → L + 6 ≤ i + n → cells + 10 * n ≤ 400000 → slots + 200 * n ≤ 6000000 → zInv D c (fun q : Nat => s.heap.size ≤ q) t0 z0 H → va_S (fun q : Nat => s.heap.size ≤ q) s.heap H locs → lv_has ls 4 [(3, .int (nI i)), (2, .ref z0), (1, .ref t0), (0, .ref b)] → W p l e room_1 s m #[Value.ref b] below meth c0 H locs cells slots (lw_Z below #[Value.ref b] s) (F0 m 18 ls []) := by
  intro n
  induction n with
  | zero =>
    intro i cells slots H locs ls hi4 hn hcc hss hI hS hl
    obtain ⟨S, hE, hX, hXs, hbl, hL3⟩ := id C
    have hx := S.1
    have hb := S.2.1
    refine lv_iload_n hx hb dL_law_18 rfl (lv_at hl 0 rfl) ?_
    refine lv_aload_n hx hb dL_law_19 rfl (lv_at hl 3 rfl) ?_
    refine va_slen hx hb hXs hbl (Nat.not_le.mpr hbl) hS dL_law_20 ?_
    refine lv_bipush (v := (6 : Int32)) hx hb dL_law_21 (by decide) ?_
    refine lv_isub hx hb dL_law_23 ?_
    refine lv_icmp_gt (tgt := 1247) hx hb dL_law_24 (by decide) (fun _ => ?_) (fun h => absurd ((zexit hi4 hL3).mpr (by omega)) h)
    refine lv_iconst (v := (1 : Int32)) hx hb dL_law_1247 (by decide) ?_
    refine va_forget (fun q hq => hS.2.2 q hq) ?_
    refine W.widen (k := 600000) (n := 7302250) (by omega) (by omega) ?_
    exact lw_ret hx hb hr hlocks dL_law_1248
  | succ n ih =>
    intro i cells slots H locs ls hi4 hn hcc hss hI hS hl
    obtain ⟨S, hE, hX, hXs, hbl, hL3⟩ := id C
    have hx := S.1
    have hb := S.2.1
    refine lv_iload_n hx hb dL_law_18 rfl (lv_at hl 0 rfl) ?_
    refine lv_aload_n hx hb dL_law_19 rfl (lv_at hl 3 rfl) ?_
    refine va_slen hx hb hXs hbl (Nat.not_le.mpr hbl) hS dL_law_20 ?_
    refine lv_bipush (v := (6 : Int32)) hx hb dL_law_21 (by decide) ?_
    refine lv_isub hx hb dL_law_23 ?_
    refine lv_icmp_gt (tgt := 1247) hx hb dL_law_24 (by decide) (fun _ => ?_) (fun hge => ?_)
    · refine lv_iconst (v := (1 : Int32)) hx hb dL_law_1247 (by decide) ?_
      refine va_forget (fun q hq => hS.2.2 q hq) ?_
      refine W.widen (k := 600000) (n := 7302250) (by omega) (by omega) ?_
      exact lw_ret hx hb hr hlocks dL_law_1248
    · have hi6 : i + 6 ≤ L := by
        rcases Nat.lt_or_ge L (i + 6) with q | q
        · exact absurd ((zexit hi4 hL3).mpr q) hge
        · exact q
      have kk : ∀ (cells slots : Nat), cells + 10 * n ≤ 400000 → slots + 200 * n ≤ 6000000 → ∀ (H : Heap) (locs : List Loc) (ls : Array Slot), zInv D c (fun q : Nat => s.heap.size ≤ q) t0 z0 H → va_S (fun q : Nat => s.heap.size ≤ q) s.heap H locs → lv_has ls 4 [(3, .int (nI i)), (2, .ref z0), (1, .ref t0), (0, .ref b)] → W p l e room_1 s m #[Value.ref b] below meth c0 H locs cells slots (lw_Z below #[Value.ref b] s) (F0 m 1241 ls []) := by
        intro cells slots hcc hss H locs ls hI hS hl
        refine lv_iinc (v := nI (i + 6)) (lv' := [(3, .int (nI (i + 6))), (2, .ref z0), (1, .ref t0), (0, .ref b)]) hx hb dL_law_1241 hl (k := 0) rfl (nI_add i 6) (by decide) rfl (fun ls hl => ?_)
        refine lv_goto (tgt := 18) hx hb dL_law_1244 (by decide) ?_
        exact ih (i + 6) cells slots H locs ls (by omega) (by omega) hcc hss hI hS hl
      refine lv_aload_n hx hb dL_law_27 rfl (lv_at hl 3 rfl) ?_
      refine lv_iload_n hx hb dL_law_28 rfl (lv_at hl 0 rfl) ?_
      refine va_sld hx hb hXs hbl (Nat.not_le.mpr hbl) hS (vp_in_nI (by omega) (by omega)) dL_law_29 ?_
      refine lv_bipush (v := (31 : Int32)) hx hb dL_law_30 (by decide) ?_
      refine lv_iand hx hb dL_law_32 ?_
      obtain ⟨j, hj, ej⟩ := pk_andE (xs (nI i).toNatClampNeg) (m := 31) 5 rfl
      refine zti ej ?_
      have hkk := kk cells slots (by omega) (by omega)
      have hcs : cells ≤ 500000 ∧ slots ≤ 7000000 := ⟨by omega, by omega⟩
      match j, hj with
      | 0, _ =>
        refine lv_tableIn (tgt := 172) hx hb dL_law_33 (by decide) (by decide) rfl (by decide) ?_
        exact lo_write l C hcs hi6 hI hS hl hkk
      | 1, _ =>
        refine lv_tableIn (tgt := 235) hx hb dL_law_33 (by decide) (by decide) rfl (by decide) ?_
        exact lo_erase l C hcs hi6 hI hS hl hkk
      | 2, _ =>
        refine lv_tableIn (tgt := 248) hx hb dL_law_33 (by decide) (by decide) rfl (by decide) ?_
        exact lo_fault l C hcs hi6 hI hS hl hkk
      | 3, _ =>
        refine lv_tableIn (tgt := 261) hx hb dL_law_33 (by decide) (by decide) rfl (by decide) ?_
        exact lo_told l C hcs hi6 hI hS hl hkk
      | 4, _ =>
        refine lv_tableIn (tgt := 274) hx hb dL_law_33 (by decide) (by decide) rfl (by decide) ?_
        exact lo_letter l C hcs hi6 hI hS hl hkk
      | 5, _ =>
        refine lv_tableIn (tgt := 297) hx hb dL_law_33 (by decide) (by decide) rfl (by decide) ?_
        exact lo_person l C hcs hi6 hI hS hl hkk
      | 6, _ =>
        refine lv_tableIn (tgt := 330) hx hb dL_law_33 (by decide) (by decide) rfl (by decide) ?_
        exact lo_called l C hcs hi6 hI hS hl hkk
      | 7, _ =>
        refine lv_tableIn (tgt := 354) hx hb dL_law_33 (by decide) (by decide) rfl (by decide) ?_
        exact lo_degrees l C hcs hi6 hI hS hl hkk
      | 8, _ =>
        refine lv_tableIn (tgt := 387) hx hb dL_law_33 (by decide) (by decide) rfl (by decide) ?_
        exact lo_as l C hcs hi6 hI hS hl hkk
      | 9, _ =>
        refine lv_tableIn (tgt := 420) hx hb dL_law_33 (by decide) (by decide) rfl (by decide) ?_
        exact lo_sum l C hcs hi6 hI hS hl hkk
      | 10, _ =>
        refine lv_tableIn (tgt := 473) hx hb dL_law_33 (by decide) (by decide) rfl (by decide) ?_
        exact lo_name l C hcs hi6 hI hS hl hkk
      | 11, _ =>
        refine lv_tableIn (tgt := 526) hx hb dL_law_33 (by decide) (by decide) rfl (by decide) ?_
        exact lo_judge l C hcs hi6 hI hS hl hkk
      | 12, _ =>
        refine lv_tableIn (tgt := 549) hx hb dL_law_33 (by decide) (by decide) rfl (by decide) ?_
        exact lo_taker l C hcs hi6 hI hS hl hkk
      | 13, _ =>
        refine lv_tableIn (tgt := 572) hx hb dL_law_33 (by decide) (by decide) rfl (by decide) ?_
        exact lo_names l C hcs hi6 hI hS hl hkk
      | 14, _ =>
        refine lv_tableIn (tgt := 605) hx hb dL_law_33 (by decide) (by decide) rfl (by decide) ?_
        exact lo_which l C hcs hi6 hI hS hl hkk
      | 15, _ =>
        refine lv_tableIn (tgt := 639) hx hb dL_law_33 (by decide) (by decide) rfl (by decide) ?_
        exact lo_free l C hcs hi6 hI hS hl hkk
      | 16, _ =>
        refine lv_tableIn (tgt := 673) hx hb dL_law_33 (by decide) (by decide) rfl (by decide) ?_
        exact lo_hopes l C hcs hi6 hI hS hl hkk
      | 17, _ =>
        refine lv_tableIn (tgt := 717) hx hb dL_law_33 (by decide) (by decide) rfl (by decide) ?_
        exact lo_without l C hcs hi6 hI hS hl hkk
      | 18, _ =>
        refine lv_tableIn (tgt := 760) hx hb dL_law_33 (by decide) (by decide) rfl (by decide) ?_
        exact lo_mend l C hcs hi6 hI hS hl hkk
      | 19, _ =>
        refine lv_tableIn (tgt := 794) hx hb dL_law_33 (by decide) (by decide) rfl (by decide) ?_
        exact lo_old l C hcs hi6 hI hS hl hkk
      | 20, _ =>
        refine lv_tableIn (tgt := 827) hx hb dL_law_33 (by decide) (by decide) rfl (by decide) ?_
        exact lo_reform l C hcs hi6 hI hS hl hkk
      | 21, _ =>
        refine lv_tableIn (tgt := 860) hx hb dL_law_33 (by decide) (by decide) rfl (by decide) ?_
        exact lo_nicknames l C hcs hi6 hI hS hl hkk
      | 22, _ =>
        refine lv_tableIn (tgt := 894) hx hb dL_law_33 (by decide) (by decide) rfl (by decide) ?_
        exact lo_page l C hcs hi6 hI hS hl hkk
      | 23, _ =>
        refine lv_tableIn (tgt := 937) hx hb dL_law_33 (by decide) (by decide) rfl (by decide) ?_
        exact lo_sheet l C hcs hi6 hI hS hl hkk
      | 24, _ =>
        refine lv_tableIn (tgt := 980) hx hb dL_law_33 (by decide) (by decide) rfl (by decide) ?_
        exact lo_tear l C hcs hi6 hI hS hl hkk
      | 25, _ =>
        refine lv_tableIn (tgt := 1003) hx hb dL_law_33 (by decide) (by decide) rfl (by decide) ?_
        exact lo_lay l C hcs hi6 hI hS hl hkk
      | 26, _ =>
        refine lv_tableIn (tgt := 1046) hx hb dL_law_33 (by decide) (by decide) rfl (by decide) ?_
        exact lo_copy l C hcs hi6 hI hS hl hkk
      | 27, _ =>
        refine lv_tableIn (tgt := 1109) hx hb dL_law_33 (by decide) (by decide) rfl (by decide) ?_
        exact lo_hope l C hcs hi6 hI hS hl hkk
      | 28, _ =>
        refine lv_tableIn (tgt := 1172) hx hb dL_law_33 (by decide) (by decide) rfl (by decide) ?_
        exact lo_keep l C hcs hi6 hI hS hl hkk (kk (cells + 10) (slots + 141) (by omega) (by omega))
      | 29, _ =>
        refine lv_tableIn (tgt := 1195) hx hb dL_law_33 (by decide) (by decide) rfl (by decide) ?_
        exact lo_back l C hcs hi6 hI hS hl hkk
      | 30, _ =>
        refine lv_tableIn (tgt := 1218) hx hb dL_law_33 (by decide) (by decide) rfl (by decide) ?_
        exact lo_count l C hcs hi6 hI hS hl hkk
      | 31, _ =>
        refine lv_tableOut (tgt := 1241) hx hb dL_law_33 (by decide) (by decide) ?_
        exact hkk H locs ls hI hS hl
      | k + 32, hj => exact absurd hj (by omega)
set_option maxHeartbeats 4000000 in
set_option maxRecDepth 100000 in
theorem whole_start {p : Program} {e : Env} {s : State} {m : MethodId} {below : List Frame} {meth : Method} {c0 : Code} (l : Launch) (hflags : l.flags = flags0) {b L : Nat} {xs : Nat → Int32} (hL : L ≤ 3072) (C0 : lw_At p s m meth c0 b L xs) : W p l e room_1 s m #[Value.ref b] below meth c0 s.heap [] 0 0 (lw_Z below #[Value.ref b] s) (entryFrame m ([Value.ref b] : List Value).toArray 4) := by
  obtain ⟨hx, hb, hr, hml, hown, hts0, hXs, hbl, hlocks, hgv⟩ := id C0
  obtain ⟨D, c, hE, hX⟩ := zenv hts0 hgv
  have hts : ∀ w ∈ zT, w.before #[Value.ref b] s = true := fun w h => hts0 w (List.mem_filter.mp h).1
  have S : CallFix p m c0 cL_law 4 s #[Value.ref b] zT RL := ⟨hx, hb, hml, hown, hts⟩
  have C : zLC p s m c0 b L xs D c #[Value.ref b] := ⟨S, hE, hX, hXs, hbl, hL⟩
  have hS : va_S (fun q : Nat => s.heap.size ≤ q) s.heap s.heap [] := va_S.rf
  have hP : va_P D vwCl [] s.heap := zpnil
  have hD : va_D (fun q : Nat => s.heap.size ≤ q) [] := ⟨fun i j p q h => by simp at h, fun k q h => by simp at h⟩
  have hl := lv_entry ([.ref b]) (n := 4) (Nat.le_of_ble_eq_true rfl)
  rw [lg_entry_eq]
  generalize (lg_sl ([.ref b]) ++ List.replicate (4 - (lg_sl ([.ref b])).length) Slot.unset).toArray = ls at hl ⊢
  have hl : lv_has ls 4 [(0, .ref b)] := hl
  refine znew (ci := 6) (fs := [.null, .null, .null, .null, .null, .null, .null, .null]) S uw_X6 tyX6_ok tw_1_16 tw_1_17 tw_1_1 hE hP hD hS (fun _ h => h) rfl (fun j hj => by rcases (show j = 0 ∨ j = 1 ∨ j = 2 ∨ j = 3 ∨ j = 4 ∨ j = 5 ∨ j = 6 ∨ j = 7 by omega) with rfl | rfl | rfl | rfl | rfl | rfl | rfl | rfl <;> rfl) (Nat.le_of_ble_eq_true rfl) (Nat.le_of_ble_eq_true rfl) dL_law_0 (fun t0 H hP hD hS => ?_)
  refine lv_dup hx hb dL_law_3 rfl ?_
  refine zini (rest := [.ref t0]) S (k_X6_init l D c t0) mi_X6_init (Or.inl tw_1_18) ⟨(Nat.le_of_ble_eq_true rfl), (Nat.le_of_ble_eq_true rfl)⟩ ⟨rfl, rfl⟩ hP hD hS (fun _ h => h) hE hX hl.1 (Nat.le_of_ble_eq_true rfl) dL_law_4 ⟨(Nat.le_of_ble_eq_true rfl), (Nat.le_of_ble_eq_true rfl)⟩ (fun u H locs hP hD hS => ?_)
  refine lv_astore_n (lv' := [(1, .ref t0), (0, .ref b)]) hx hb dL_law_7 rfl hl (by decide) rfl (fun ls hl => ?_)
  refine znew (ci := 7) (fs := [.null, .null, .null, .null, .int 0, .null, .null, .int 0, .null, .null, .null, .int 0, .int 0, .int 0, .int 0, .int 0, .int 0, .null, .null, .null, .int 0, .null, .null, .int 0, .null, .null, .int 0, .null, .null]) S uw_X7 tyX7_ok tw_4_156 tw_4_157 tw_1_8 hE hP hD hS (fun _ h => h) rfl (fun j hj => by rcases (show j = 0 ∨ j = 1 ∨ j = 2 ∨ j = 3 ∨ j = 4 ∨ j = 5 ∨ j = 6 ∨ j = 7 ∨ j = 8 ∨ j = 9 ∨ j = 10 ∨ j = 11 ∨ j = 12 ∨ j = 13 ∨ j = 14 ∨ j = 15 ∨ j = 16 ∨ j = 17 ∨ j = 18 ∨ j = 19 ∨ j = 20 ∨ j = 21 ∨ j = 22 ∨ j = 23 ∨ j = 24 ∨ j = 25 ∨ j = 26 ∨ j = 27 ∨ j = 28 by omega) with rfl | rfl | rfl | rfl | rfl | rfl | rfl | rfl | rfl | rfl | rfl | rfl | rfl | rfl | rfl | rfl | rfl | rfl | rfl | rfl | rfl | rfl | rfl | rfl | rfl | rfl | rfl | rfl | rfl <;> rfl) (Nat.le_of_ble_eq_true rfl) (Nat.le_of_ble_eq_true rfl) dL_law_8 (fun z0 H hP hD hS => ?_)
  refine lv_dup hx hb dL_law_11 rfl ?_
  refine zini (rest := [.ref z0]) S (k_X7_init l D c z0) mi_X7_init (Or.inl tw_4_158) ⟨(Nat.le_of_ble_eq_true rfl), (Nat.le_of_ble_eq_true rfl)⟩ ⟨rfl, rfl⟩ hP hD hS (fun _ h => h) hE hX hl.1 (Nat.le_of_ble_eq_true rfl) dL_law_12 ⟨(Nat.le_of_ble_eq_true rfl), (Nat.le_of_ble_eq_true rfl)⟩ (fun w H locs hP hD hS => ?_)
  refine lv_astore_n (lv' := [(2, .ref z0), (1, .ref t0), (0, .ref b)]) hx hb dL_law_15 rfl hl (by decide) rfl (fun ls hl => ?_)
  refine lv_iconst (v := (0 : Int32)) hx hb dL_law_16 (by decide) ?_
  refine lv_istore_n (lv' := [(3, .int (0 : Int32)), (2, .ref z0), (1, .ref t0), (0, .ref b)]) hx hb dL_law_17 rfl hl (by decide) rfl (fun ls hl => ?_)
  have hP : zPs D [wX6 c t0 (u 0 0) (u 1 0) (u 2 0) (u 3 0) (u 4 0) (u 5 0) (u 6 0) (u 7 0) (fun _ => 0), wX5 c (u 0 0) (u 20 0) (u 21 0) (u 22 0) (u 23 0) (u 24 0) (u 25 0) (u 26 0) (u 27 0) (u 28 0) (zNums 26) (fun _ => 0) 0 (fun _ => 0) (fun _ => 0) (fun _ => 0) (fun _ => 0) (fun _ => 0) 0 (fun _ => 0) (fun _ => 0) 0 3, wX3 c (u 2 0) (u 40 0) (u 41 0) (fun _ => 0) 0 0 0 0 0 0 0 (-1) (-1), wX5 c (u 41 0) (u 42 0) (u 43 0) (u 44 0) (u 45 0) (u 46 0) (u 47 0) (u 48 0) (u 49 0) (u 50 0) (zNums 26) (fun _ => 0) 0 (fun _ => 0) (fun _ => 0) (fun _ => 0) (fun _ => 0) (fun _ => 0) 0 (fun _ => 0) (fun _ => 0) 0 3, wX0 c (u 3 0) (u 60 0) (u 61 0) (u 62 0) (u 63 0) (fun _ => 0) 0 (fun _ => 0) (fun _ => 0) (fun _ => 0) 0 0 0, wX2 c (u 4 0) (u 70 0) (u 71 0) (fun _ => 0) (fun _ => 0), wX1 c (u 5 0) (u 80 0) (u 81 0) (u 82 0) (u 83 0) (u 84 0) (u 85 0) 0 (fun _ => 0) 0 (fun _ => 0) 0 (fun _ => 0) (fun _ => 0) 0, wG c (u 81 0) (u 90) (fun _ _ => 0), wG c (u 82 0) (u 91) (fun _ _ => 0), wS c (u 6 0) (u 100) (u 101) (fun _ => 0) (fun _ => -1) (fun _ _ => 0), wI c (u 1 0) (fun _ => none), [], [], wX7 c z0 (w 0 0) (w 1 0) (w 2 0) (w 3 0) (w 4 0) (w 5 0) (w 6 0) (w 7 0) (w 8 0) (w 9 0) (w 10 0) (w 11 0) (w 12 0) (w 13 0) (w 14 0) (w 15 0) (w 16 0) (w 17 0) zRow0 (fun _ => 0) (fun _ => 0) (fun _ => 0) 0 (fun _ => 0) (fun _ => 0) 0 (zLanes 3) (fun _ => 0) (fun _ => 0) 0 0 0 0 0 0 (fun _ => 0) (fun _ => 0) (fun _ => 0) 0 (fun _ => 0) (fun _ => 0) 0 (fun _ => 0) (fun _ => 0) 0 (fun _ => 0) (fun _ => 0)] H := zPs_iff.mpr (by simpa only [List.nil_append, List.flatten_cons, List.flatten_nil, List.append_nil, List.append_assoc] using hP)
  have hD : zDs (fun q : Nat => s.heap.size ≤ q) [wX6 c t0 (u 0 0) (u 1 0) (u 2 0) (u 3 0) (u 4 0) (u 5 0) (u 6 0) (u 7 0) (fun _ => 0), wX5 c (u 0 0) (u 20 0) (u 21 0) (u 22 0) (u 23 0) (u 24 0) (u 25 0) (u 26 0) (u 27 0) (u 28 0) (zNums 26) (fun _ => 0) 0 (fun _ => 0) (fun _ => 0) (fun _ => 0) (fun _ => 0) (fun _ => 0) 0 (fun _ => 0) (fun _ => 0) 0 3, wX3 c (u 2 0) (u 40 0) (u 41 0) (fun _ => 0) 0 0 0 0 0 0 0 (-1) (-1), wX5 c (u 41 0) (u 42 0) (u 43 0) (u 44 0) (u 45 0) (u 46 0) (u 47 0) (u 48 0) (u 49 0) (u 50 0) (zNums 26) (fun _ => 0) 0 (fun _ => 0) (fun _ => 0) (fun _ => 0) (fun _ => 0) (fun _ => 0) 0 (fun _ => 0) (fun _ => 0) 0 3, wX0 c (u 3 0) (u 60 0) (u 61 0) (u 62 0) (u 63 0) (fun _ => 0) 0 (fun _ => 0) (fun _ => 0) (fun _ => 0) 0 0 0, wX2 c (u 4 0) (u 70 0) (u 71 0) (fun _ => 0) (fun _ => 0), wX1 c (u 5 0) (u 80 0) (u 81 0) (u 82 0) (u 83 0) (u 84 0) (u 85 0) 0 (fun _ => 0) 0 (fun _ => 0) 0 (fun _ => 0) (fun _ => 0) 0, wG c (u 81 0) (u 90) (fun _ _ => 0), wG c (u 82 0) (u 91) (fun _ _ => 0), wS c (u 6 0) (u 100) (u 101) (fun _ => 0) (fun _ => -1) (fun _ _ => 0), wI c (u 1 0) (fun _ => none), [], [], wX7 c z0 (w 0 0) (w 1 0) (w 2 0) (w 3 0) (w 4 0) (w 5 0) (w 6 0) (w 7 0) (w 8 0) (w 9 0) (w 10 0) (w 11 0) (w 12 0) (w 13 0) (w 14 0) (w 15 0) (w 16 0) (w 17 0) zRow0 (fun _ => 0) (fun _ => 0) (fun _ => 0) 0 (fun _ => 0) (fun _ => 0) 0 (zLanes 3) (fun _ => 0) (fun _ => 0) 0 0 0 0 0 0 (fun _ => 0) (fun _ => 0) (fun _ => 0) 0 (fun _ => 0) (fun _ => 0) 0 (fun _ => 0) (fun _ => 0) 0 (fun _ => 0) (fun _ => 0)] := zDs_iff.mpr (by simpa only [List.nil_append, List.flatten_cons, List.flatten_nil, List.append_nil, List.append_assoc] using hD)
  refine law_loop l C hr hlocks t0 z0 (L + 6) 0 _ _ H locs ls (by omega) (by omega) ?_ ?_ ⟨u, w, _, _, _, _, _, _, _, _, _, _, _, [], [], _, hP, hD, ⟨(fun _ => 0), rfl⟩, ⟨(zNums 26), (fun _ => 0), 0, (fun _ => 0), (fun _ => 0), (fun _ => 0), (fun _ => 0), (fun _ => 0), 0, (fun _ => 0), (fun _ => 0), 0, 3, rfl⟩, ⟨(fun _ => 0), 0, (fun _ => 0), (fun _ => 0), (fun _ => 0), 0, 0, 0, rfl⟩, ⟨(fun _ => 0), (fun _ => 0), rfl, rfl⟩, ⟨0, (fun _ => 0), 0, (fun _ => 0), 0, (fun _ => 0), (fun _ => 0), 0, rfl⟩, ⟨(fun _ _ => 0), rfl⟩, ⟨(fun _ _ => 0), rfl⟩, (zNums 26), (fun _ => 0), 0, (fun _ => 0), (fun _ => 0), (fun _ => 0), (fun _ => 0), (fun _ => 0), 0, (fun _ => 0), (fun _ => 0), 0, 3, (fun _ => 0), 0, 0, 0, 0, 0, 0, 0, (-1), (-1), (fun _ => 0), (fun _ => -1), (fun _ _ => 0), (fun _ => none), zRow0, (fun _ => 0), (fun _ => 0), (fun _ => 0), 0, (fun _ => 0), (fun _ => 0), 0, (zLanes 3), (fun _ => 0), (fun _ => 0), 0, 0, 0, 0, 0, 0, (fun _ => 0), (fun _ => 0), (fun _ => 0), 0, (fun _ => 0), (fun _ => 0), 0, (fun _ => 0), (fun _ => 0), 0, (fun _ => 0), (fun _ => 0), rfl, rfl, rfl, rfl, rfl, z_rel0 c⟩ hS hl
  · show _ + 10 * (L + 6) ≤ 400000; omega
  · show _ + 200 * (L + 6) ≤ 6000000; omega
set_option maxHeartbeats 4000000 in
theorem lw_walk (l : Launch) (hflags : l.flags = flags0) (b : Addr) (xs : List Int32) : MetFree l x (headSpec (Jvm.Cond.code x code maxLocals ret :: tables_1) room_1) (lw_P b xs) (fun _ _ _ _ _ => True) lw_Q := by
  refine MetFree.of_bodyS (code := code) (maxLocals := maxLocals) (ret := ret) (by decide) ?_ ?_
  · intro args s m h hn
    obtain ⟨meth, c, h1, h2, h3, h4, h5, h6, -, -⟩ := Cond.code_spec hn (atoms_spec (ws := Jvm.Cond.code x code maxLocals ret :: tables_1) h _ List.mem_cons_self)
    exact ⟨meth, c, h1, h2, h3, h4, h5, h6⟩
  · intro p e s m args below meth c s₁ B hml0 hP _
    obtain ⟨rfl, hx, hbd, hgv⟩ := hP
    obtain ⟨scr, harrAt, hlist, hof, hsmall⟩ := hx
    obtain ⟨hcb, hkn, -, -⟩ := State.arrayAt?_spec harrAt
    have hown : s.vm.findClass R_law = some m.cls := findClass_of_methodNamed B.named
    have hts0 : ∀ c ∈ (Jvm.Cond.code x code maxLocals ret :: tables_1), c.before #[Value.ref b] s = true := atoms_spec (ws := Jvm.Cond.code x code maxLocals ret :: tables_1) B.pre
    have hts : ∀ w ∈ lw_tbl, w.before #[Value.ref b] s = true := k2_hts_sels lw_privs (fun w hw => hts0 w (List.mem_cons_of_mem _ hw)) lw_privs_ok
    have hml : c.maxLocals = 4 := B.maxLocals_eq (hts0 _ List.mem_cons_self)
    have X₀ : Stand p l e room_1 s m #[Value.ref b] below meth c s₁ [] 0 0 := Stand.of_body B
    have hh0 : s₁.heap = s.heap := by rw [B.state]; rfl
    have hsz : scr.slots.size = xs.length := by rw [← Array.length_toList, hlist, List.length_map]
    have hval : ∀ j : Nat, j < xs.length → scr.slots[j]? = some (.int (xs.getD j 0)) := fun j hj => by
      rw [← Array.getElem?_toList, hlist]
      simp [hj]
    have hbl : b < s.heap.size := (Array.getElem?_eq_some_iff.mp hcb).1
    have hX : va_X b xs.length (fun j => xs.getD j 0) s s.heap := ⟨scr, hcb, hof, hkn, hsz, hval⟩
    have K : W p l e room_1 s m #[Value.ref b] below meth c s₁.heap [] 0 0 (lw_Z below #[Value.ref b] s) (entryFrame m ([Value.ref b] : List Value).toArray 4) := by
      rw [hh0]
      exact whole_start l hflags hbd ⟨B.exec, B.bytes, B.returns, hml, hown, hts, hX, hbl, B.notSynchronized, hgv⟩
    obtain ⟨t, a1, o, b1, b2, b3⟩ := K s₁ rfl X₀
    exact ⟨t, o, a1, b1, b2, b3⟩
theorem lw_pre_spec {args : Array Value} {s : State} (h : (Jvm.Cond.and given_1 narrow_1).before args s = true) (hr : rest_1_c.before args s = true) : ∃ (b : Addr) (xs : List Int32), lw_P b xs args s := by
  have hs := flat_of_before _ h
  have hq := flat_of_before _ hr
  have hc : (Cond.count 1).before args s = true := hs _ (by decide +kernel)
  have harr : (Cond.arrayOf (.arg 0) .int).before args s = true := hs _ (by decide +kernel)
  have hle : (Cond.le (.length (.arg 0)) (.int 3072)).before args s = true := hs _ (by decide +kernel)
  have hlen : (Cond.isInt (.length (.arg 0))).before args s = true := hq _ (by decide +kernel)
  have hall : (Cond.all (.arg 0) (.isInt (.elem (.arg 0) (.index 0)))).before args s = true := hq _ (by decide +kernel)
  obtain ⟨b, xs, hb, hx⟩ := State.ints_of_pre rfl harr hlen hall
  have hsm : xs.length < 2 ^ 31 := hx.choose_spec.2.2.2
  have hev : (Term.length (.arg 0)).eval args s none [] s = some (.int xs.length.toInt32) := hx.length_eval hb
  have hv := Cond.le_ints hev (show (Term.int 3072).eval args s none [] s = some (.int 3072) from rfl)
  have hd : xs.length.toInt32 ≤ 3072 := by
    simpa [Cond.before, Cond.holds, hv] using hle
  have hN : xs.length ≤ 3072 := (Int32.ofNat_le_ofNat hsm (by decide)).mp (show Int32.ofNat xs.length ≤ Int32.ofNat 3072 from hd)
  exact ⟨b, xs, Cond.one_arg hc (show args[0]? = some (.ref b) from hb), hx, hN, h⟩
theorem lw_comes (l : Launch) (hflags : l.flags = flags0) : Comes l x (Jvm.Cond.code x code maxLocals ret :: tables_1) room_1 (fun tb e args s => Calls_1 tb e args s ∧ rest_1 tb e args s ∧ Pre_1 tb e args s)
    (fun _ _ args s o t => lw_Q args s o t) := by
  intro p e ha hc hk s m args below hf hfit hheap happ hpre
  obtain ⟨b, xs, hP⟩ := lw_pre_spec hpre.2.2 hpre.2.1
  obtain ⟨k, o, h1, h2, h3, hQ⟩ := lw_walk l hflags b xs p e ha hc hk s m args below hf ((Spec.applies_iff_loose hf).mp happ).1 hP trivial
  exact ⟨k, o, h1, h2, h3, hQ⟩
theorem lw_frame {s t : State} {o : Outcome} {args : Array Value} (h : Framed s o t [] 600000 7302250) :
    Framed s o t (fieldLocs frame_1_writes args s ++ arrayLocs frame_1_arrays args s ++ staticLocs frame_1_statics s) 600000 7302250 := h
theorem lw_limb (L : Cond) (hL : ∀ (args : Array Value) (s t : State), L.after args s (.returned (some (.int 1))) t = true) :
    ArmFor flags0 classFile x code maxLocals ret World_1 tables_1 room_1 Calls_1 rest_1 Pre_1
      (fun tb e a s o t => postC L tb e a s o t ∧ Framed s o t (fieldLocs frame_1_writes a s ++ arrayLocs frame_1_arrays a s ++ staticLocs frame_1_statics s) 600000 7302250) := by
  intro l hflags _ _ p e ha hc hk s m args below hf hfit hheap happ hpre
  obtain ⟨k, o, h1, h2, h3, rfl, hF⟩ := lw_comes l hflags p e ha hc hk s m args below hf hfit hheap happ hpre
  exact ⟨k, _, h1, h2, h3, hL args s _, lw_frame hF⟩
theorem i_vc : Claimed_1_1 ∧ Claimed_1_2 := ⟨lw_limb limb_1_1 (fun args s t => by simp [limb_1_1, Cond.after, Cond.holds, Cond.value]), lw_limb limb_1_2 (fun args s t => Cond.after_iff.mpr (by
  first | (rw [show limb_1_2 = Cond.eq .result (.int 1) from rfl, Cond.eq_ints (x := 1) (y := 1) rfl rfl]; simp; done) | (simp [limb_1_2, Cond.value, Term.eval]; done)))⟩
