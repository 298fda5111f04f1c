section ZZ2
variable {p : Program} {l : Launch} {e : Env} {R : Room} {s : State} {m : MethodId} {args : Array Value} {below : List Frame} {meth : Method} {c0 : Code} {H : Heap} {locs : List Loc} {cells slots : Nat} {Q : State → Prop}
variable {cc : ByteArray} {pc : Nat} {ls : Array Slot} {rest : List Value} {D : va_G} {c : Nat → ClassId} {A : Nat → Prop} {a : Nat} {ws : va_W} {H0 : Heap}
theorem zpnil : va_P D vwCl [] H := fun k q h => by simp at h
def zz_cp (sp dp n : Int32) (n0 n1 : Nat) : Bool := decide (0 ≤ sp.toInt ∧ 0 ≤ dp.toInt ∧ 0 ≤ n.toInt ∧ sp.toInt + n.toInt ≤ n0 ∧ dp.toInt + n.toInt ≤ n1)
theorem zz_nonneg {x : Int32} (h : 0 ≤ x.toInt) : ¬ x < 0 := fun q => by
  have := Int32.lt_iff_toInt_lt.mp q
  simp at this
  omega
theorem zz_clamp {x : Int32} (h : 0 ≤ x.toInt) : (x.toNatClampNeg : Int) = x.toInt := by
  unfold Int32.toNatClampNeg; omega
theorem zz_cp_1 {sp dp n : Int32} {n0 n1 : Nat} (h : zz_cp sp dp n n0 n1 = true) : ¬ sp < 0 := zz_nonneg (of_decide_eq_true h).1
theorem zz_cp_2 {sp dp n : Int32} {n0 n1 : Nat} (h : zz_cp sp dp n n0 n1 = true) : ¬ dp < 0 := zz_nonneg (of_decide_eq_true h).2.1
theorem zz_cp_3 {sp dp n : Int32} {n0 n1 : Nat} (h : zz_cp sp dp n n0 n1 = true) : ¬ n < 0 := zz_nonneg (of_decide_eq_true h).2.2.1
theorem zz_cp_4 {sp dp n : Int32} {n0 n1 : Nat} (h : zz_cp sp dp n n0 n1 = true) : sp.toNatClampNeg + n.toNatClampNeg ≤ n0 := by
  have h := of_decide_eq_true h
  have := zz_clamp h.1
  have := zz_clamp h.2.2.1
  omega
theorem zz_cp_5 {sp dp n : Int32} {n0 n1 : Nat} (h : zz_cp sp dp n n0 n1 = true) : dp.toNatClampNeg + n.toNatClampNeg ≤ n1 := by
  have h := of_decide_eq_true h
  have := zz_clamp h.2.1
  have := zz_clamp h.2.2.1
  omega
theorem zcpi (hx : p.tables.exec = Jvm.exec) (hb : c0.code = cc) (hml : c0.maxLocals = ls.size) {own : String} {index : Nat} (hown : s.vm.findClass own = some m.cls) (hlink : (Cond.methodLink own index arraycopyName).before args s = true) (hnat : (Cond.native arraycopyName).before args s = true) (hstat : (Cond.static arraycopyName).before args s = true) (hini : (Cond.initialized "java/lang/System").before args s = true) (hE : zE D c s) (hP : va_P D vwCl ws H) (hD : va_D A ws) (hS : va_S A H0 H locs) (q0 q1 : Nat) {a0 : Nat} {n0 n1 : Nat} {f g g1 : Nat → Int32} (wn : va_W) (ha0 : ws[q0]? = some (a0, .inl (c 0, n0, .inl f))) (ha1 : ws[q1]? = some (a, .inl (c 0, n1, .inl g))) (hw : ws.set q1 (a, .inl (c 0, n1, .inl g1)) = wn) {sp dp n : Int32} (hg : va_cpy f g sp.toNatClampNeg dp.toNatClampNeg n.toNatClampNeg = g1) (h1 : ¬ sp < 0) (h2 : ¬ dp < 0) (h3 : ¬ n < 0) (h4 : sp.toNatClampNeg + n.toNatClampNeg ≤ n0) (h5 : dp.toNatClampNeg + n.toNatClampNeg ≤ n1) (hframes : 1 ≤ R.frames) (hlocals : (rest.map fun v => v.category).sum + (nativeFrameWords "java/lang/System" "arraycopy" 5 + 11) ≤ R.locals) (hdg : decode cc pc = .ok (.invokestatic index, 3)) (kk : ∀ (H1 : Heap) (locs1 : List Loc), va_P D vwCl wn H1 → va_D A wn → va_S A H0 H1 locs1 → W p l e R s m args below meth c0 H1 locs1 cells slots Q (F0 m (pc + 3) ls rest)) : W p l e R s m args below meth c0 H locs cells slots Q (F0 m pc ls (.int n :: .int dp :: .ref a :: .int sp :: .ref a0 :: rest)) := by
  subst hg
  exact va_copyi hx hb hml hown hlink hnat hstat hini hE.1 hP hD hS q0 q1 0 0 ha0 ha1 rfl rfl rfl h1 h2 h3 h4 h5 (fun _ _ => rfl) hframes hlocals hdg (fun H1 locs1 hP1 hD1 hS1 => kk H1 locs1 (hw ▸ hP1) (hw ▸ hD1) hS1)
theorem zcpl (hx : p.tables.exec = Jvm.exec) (hb : c0.code = cc) (hml : c0.maxLocals = ls.size) {own : String} {index : Nat} (hown : s.vm.findClass own = some m.cls) (hlink : (Cond.methodLink own index arraycopyName).before args s = true) (hnat : (Cond.native arraycopyName).before args s = true) (hstat : (Cond.static arraycopyName).before args s = true) (hini : (Cond.initialized "java/lang/System").before args s = true) (hE : zE D c s) (hP : va_P D vwCl ws H) (hD : va_D A ws) (hS : va_S A H0 H locs) (q0 q1 : Nat) {a0 : Nat} {n0 n1 : Nat} {f g g1 : Nat → Int64} (wn : va_W) (ha0 : ws[q0]? = some (a0, .inl (c 1, n0, .inr (.inl f)))) (ha1 : ws[q1]? = some (a, .inl (c 1, n1, .inr (.inl g)))) (hw : ws.set q1 (a, .inl (c 1, n1, .inr (.inl g1))) = wn) {sp dp n : Int32} (hg : va_cpy f g sp.toNatClampNeg dp.toNatClampNeg n.toNatClampNeg = g1) (h1 : ¬ sp < 0) (h2 : ¬ dp < 0) (h3 : ¬ n < 0) (h4 : sp.toNatClampNeg + n.toNatClampNeg ≤ n0) (h5 : dp.toNatClampNeg + n.toNatClampNeg ≤ n1) (hframes : 1 ≤ R.frames) (hlocals : (rest.map fun v => v.category).sum + (nativeFrameWords "java/lang/System" "arraycopy" 5 + 11) ≤ R.locals) (hdg : decode cc pc = .ok (.invokestatic index, 3)) (kk : ∀ (H1 : Heap) (locs1 : List Loc), va_P D vwCl wn H1 → va_D A wn → va_S A H0 H1 locs1 → W p l e R s m args below meth c0 H1 locs1 cells slots Q (F0 m (pc + 3) ls rest)) : W p l e R s m args below meth c0 H locs cells slots Q (F0 m pc ls (.int n :: .int dp :: .ref a :: .int sp :: .ref a0 :: rest)) := by
  subst hg
  exact va_copyl hx hb hml hown hlink hnat hstat hini hE.1 hP hD hS q0 q1 1 1 ha0 ha1 rfl rfl rfl h1 h2 h3 h4 h5 (fun _ _ => rfl) hframes hlocals hdg (fun H1 locs1 hP1 hD1 hS1 => kk H1 locs1 (hw ▸ hP1) (hw ▸ hD1) hS1)
end ZZ2
theorem zz_out_0_4 {x : Int32} (h0 : ¬ x = 0) (h1 : ¬ x = 1) (h2 : ¬ x = 2) (h3 : ¬ x = 3) (h4 : ¬ x = 4) : x.toInt < 0 ∨ 4 < x.toInt := by
  have e0 : x.toInt ≠ 0 := fun e => h0 (Int32.toInt_inj.mp e)
  have e1 : x.toInt ≠ 1 := fun e => h1 (Int32.toInt_inj.mp e)
  have e2 : x.toInt ≠ 2 := fun e => h2 (Int32.toInt_inj.mp e)
  have e3 : x.toInt ≠ 3 := fun e => h3 (Int32.toInt_inj.mp e)
  have e4 : x.toInt ≠ 4 := fun e => h4 (Int32.toInt_inj.mp e)
  omega
theorem zz_out_0_6 {x : Int32} (h0 : ¬ x = 0) (h1 : ¬ x = 1) (h2 : ¬ x = 2) (h3 : ¬ x = 3) (h4 : ¬ x = 4) (h5 : ¬ x = 5) (h6 : ¬ x = 6) : x.toInt < 0 ∨ 6 < x.toInt := by
  have e0 : x.toInt ≠ 0 := fun e => h0 (Int32.toInt_inj.mp e)
  have e1 : x.toInt ≠ 1 := fun e => h1 (Int32.toInt_inj.mp e)
  have e2 : x.toInt ≠ 2 := fun e => h2 (Int32.toInt_inj.mp e)
  have e3 : x.toInt ≠ 3 := fun e => h3 (Int32.toInt_inj.mp e)
  have e4 : x.toInt ≠ 4 := fun e => h4 (Int32.toInt_inj.mp e)
  have e5 : x.toInt ≠ 5 := fun e => h5 (Int32.toInt_inj.mp e)
  have e6 : x.toInt ≠ 6 := fun e => h6 (Int32.toInt_inj.mp e)
  omega
theorem zz_out_0_7 {x : Int32} (h0 : ¬ x = 0) (h1 : ¬ x = 1) (h2 : ¬ x = 2) (h3 : ¬ x = 3) (h4 : ¬ x = 4) (h5 : ¬ x = 5) (h6 : ¬ x = 6) (h7 : ¬ x = 7) : x.toInt < 0 ∨ 7 < x.toInt := by
  have e0 : x.toInt ≠ 0 := fun e => h0 (Int32.toInt_inj.mp e)
  have e1 : x.toInt ≠ 1 := fun e => h1 (Int32.toInt_inj.mp e)
  have e2 : x.toInt ≠ 2 := fun e => h2 (Int32.toInt_inj.mp e)
  have e3 : x.toInt ≠ 3 := fun e => h3 (Int32.toInt_inj.mp e)
  have e4 : x.toInt ≠ 4 := fun e => h4 (Int32.toInt_inj.mp e)
  have e5 : x.toInt ≠ 5 := fun e => h5 (Int32.toInt_inj.mp e)
  have e6 : x.toInt ≠ 6 := fun e => h6 (Int32.toInt_inj.mp e)
  have e7 : x.toInt ≠ 7 := fun e => h7 (Int32.toInt_inj.mp e)
  omega
theorem zz_out_1_3 {x : Int32} (h1 : ¬ x = 1) (h2 : ¬ x = 2) (h3 : ¬ x = 3) : x.toInt < 1 ∨ 3 < x.toInt := by
  have e1 : x.toInt ≠ 1 := fun e => h1 (Int32.toInt_inj.mp e)
  have e2 : x.toInt ≠ 2 := fun e => h2 (Int32.toInt_inj.mp e)
  have e3 : x.toInt ≠ 3 := fun e => h3 (Int32.toInt_inj.mp e)
  omega
theorem zz_in_lt {i : Int32} {n : Nat} (h : zz_in i n = true) : i.toNatClampNeg < n := by
  have h := of_decide_eq_true h
  have := zz_clamp h.1
  omega
theorem zapp {A B : va_W} {n k : Nat} {x : Nat × va_E} (hn : A.length = n) (h : B[k]? = some x) : (A ++ B)[n + k]? = some x := by
  subst hn
  rw [List.getElem?_append_right (Nat.le_add_right _ _), Nat.add_sub_cancel_left]; exact h
theorem zapl {A B : va_W} {k : Nat} {x : Nat × va_E} (h : A[k]? = some x) : (A ++ B)[k]? = some x := by
  rw [List.getElem?_append_left (List.getElem?_eq_some_iff.mp h).1]; exact h
theorem zsr {A B B' : va_W} {n k : Nat} {x : Nat × va_E} (hn : A.length = n) (h : B.set k x = B') : (A ++ B).set (n + k) x = A ++ B' := by
  subst hn
  rw [List.set_append_right _ _ (Nat.le_add_right _ _), Nat.add_sub_cancel_left, h]
theorem zsl {A A' B : va_W} {k : Nat} {x : Nat × va_E} (hk : k < A.length) (h : A.set k x = A') : (A ++ B).set k x = A' ++ B := by
  rw [List.set_append_left _ _ hk, h]
abbrev wS (c : Nat → ClassId) (aA : Nat) (ao ai : Nat → Nat) (a_lane a_size : Nat → Int32) (a_items : Nat → Nat → Int32) : va_W := [(aA, .inl (c 3, 3, .inr (.inr (.inr (.inr (fun i => if i < 3 then some (ao i) else none)))))), (ao 0, .inr (4, [.ref (ai 0), .int (a_lane 0), .int (a_size 0)])), (ao 1, .inr (4, [.ref (ai 1), .int (a_lane 1), .int (a_size 1)])), (ao 2, .inr (4, [.ref (ai 2), .int (a_lane 2), .int (a_size 2)])), (ai 0, .inl (c 0, 20, .inl (a_items 0))), (ai 1, .inl (c 0, 20, .inl (a_items 1))), (ai 2, .inl (c 0, 20, .inl (a_items 2)))]
theorem wS_o {c : Nat → ClassId} {aA : Nat} {ao ai : Nat → Nat} {l z : Nat → Int32} {it : Nat → Nat → Int32} {j : Nat} (h : j < 3) : (wS c aA ao ai l z it)[1 + j]? = some (ao j, .inr (4, [.ref (ai j), .int (l j), .int (z j)])) := by
  rcases (show j = 0 ∨ j = 1 ∨ j = 2 by omega) with rfl | rfl | rfl <;> rfl
theorem wS_i {c : Nat → ClassId} {aA : Nat} {ao ai : Nat → Nat} {l z : Nat → Int32} {it : Nat → Nat → Int32} {j : Nat} (h : j < 3) : (wS c aA ao ai l z it)[4 + j]? = some (ai j, .inl (c 0, 20, .inl (it j))) := by
  rcases (show j = 0 ∨ j = 1 ∨ j = 2 by omega) with rfl | rfl | rfl <;> rfl
theorem wS_lane {c : Nat → ClassId} {aA : Nat} {ao ai : Nat → Nat} {l l' z : Nat → Int32} {it : Nat → Nat → Int32} {j : Nat} {x : Int32} (h : j < 3) (e : zz_up2 l j x = l') : (wS c aA ao ai l z it).set (1 + j) (ao j, .inr (4, [.ref (ai j), .int x, .int (z j)])) = wS c aA ao ai l' z it := by
  subst e
  rcases (show j = 0 ∨ j = 1 ∨ j = 2 by omega) with rfl | rfl | rfl <;> rfl
theorem wS_size {c : Nat → ClassId} {aA : Nat} {ao ai : Nat → Nat} {l z z' : Nat → Int32} {it : Nat → Nat → Int32} {j : Nat} {x : Int32} (h : j < 3) (e : zz_up2 z j x = z') : (wS c aA ao ai l z it).set (1 + j) (ao j, .inr (4, [.ref (ai j), .int (l j), .int x])) = wS c aA ao ai l z' it := by
  subst e
  rcases (show j = 0 ∨ j = 1 ∨ j = 2 by omega) with rfl | rfl | rfl <;> rfl
theorem wS_items {c : Nat → ClassId} {aA : Nat} {ao ai : Nat → Nat} {l z : Nat → Int32} {it it' : Nat → Nat → Int32} {j : Nat} {g : Nat → Int32} (h : j < 3) (e : zz_up2 it j g = it') : (wS c aA ao ai l z it).set (4 + j) (ai j, .inl (c 0, 20, .inl g)) = wS c aA ao ai l z it' := by
  subst e
  rcases (show j = 0 ∨ j = 1 ∨ j = 2 by omega) with rfl | rfl | rfl <;> rfl
abbrev wI (c : Nat → ClassId) (aA : Nat) (ir : Nat → Option Nat) : va_W := [(aA, .inl (c 4, 2, .inr (.inr (.inr (.inr ir)))))]
abbrev wG (c : Nat → ClassId) (aA : Nat) (ar : Nat → Nat) (a_m : Nat → Nat → Int32) : va_W := (aA, .inl (c 5, 16, .inr (.inr (.inr (.inr (fun i => if i < 16 then some (ar i) else none)))))) :: (List.range 16).map (fun i => (ar i, .inl (c 0, 5, .inl (a_m i))))
theorem wG_r {c : Nat → ClassId} {aA : Nat} {ar : Nat → Nat} {M : Nat → Nat → Int32} {j : Nat} (h : j < 16) : (wG c aA ar M)[1 + j]? = some (ar j, .inl (c 0, 5, .inl (M j))) := by
  unfold wG
  rw [Nat.add_comm, List.getElem?_cons_succ, List.getElem?_map, List.getElem?_range h]; rfl
theorem wG_s {c : Nat → ClassId} {aA : Nat} {ar : Nat → Nat} {M M' : Nat → Nat → Int32} {j : Nat} {g : Nat → Int32} (h : j < 16) (e : zz_up2 M j g = M') : (wG c aA ar M).set (1 + j) (ar j, .inl (c 0, 5, .inl g)) = wG c aA ar M' := by
  subst e
  unfold wG
  rw [Nat.add_comm, List.set_cons_succ]
  congr 1
  apply List.ext_getElem?
  intro i
  rw [List.getElem?_set, List.getElem?_map, List.getElem?_map]
  by_cases hi : j = i
  · subst hi
    simp [List.getElem?_range h, zz_up2, h]
  · by_cases h2 : i < 16
    · rw [if_neg hi, List.getElem?_range h2]
      simp [zz_up2, Ne.symm hi]
    · rw [if_neg hi, List.getElem?_eq_none (by simp; omega)]
      rfl
section ZZ3
variable {p : Program} {l : Launch} {e : Env} {R : Room} {s : State} {m : MethodId} {args : Array Value} {below : List Frame} {meth : Method} {c0 : Code} {H : Heap} {locs : List Loc} {cells slots : Nat} {Q : State → Prop}
variable {cc : ByteArray} {pc : Nat} {ls : Array Slot} {rest : List Value} {D : va_G} {c : Nat → ClassId} {A : Nat → Prop} {a : Nat} {ws : va_W} {H0 : Heap}
theorem zaS (hx : p.tables.exec = Jvm.exec) (hb : c0.code = cc) (hE : zE D c s) (hP : va_P D vwCl ws H) (q0 : Nat) {f : Nat → Nat} (ha : ws[q0]? = some (a, .inl (c 3, 3, .inr (.inr (.inr (.inr (fun i => if i < 3 then some (f i) else none))))))) {i : Int32} (hin : vp_in i 3) (hdg : decode cc pc = .ok (.aaload, 1)) (kk : W p l e R s m args below meth c0 H locs cells slots Q (F0 m (pc + 1) ls (.ref (f i.toNatClampNeg) :: rest))) : W p l e R s m args below meth c0 H locs cells slots Q (F0 m pc ls (.int i :: .ref a :: rest)) := by
  have hlt : i.toNatClampNeg < 3 := Nat.not_le.mp fun q => hin (Or.inr q)
  refine va_aldq hx hb hE.1 hP q0 3 ha rfl hin hdg ?_
  show W p l e R s m args below meth c0 H locs cells slots Q (F0 m (pc + 1) ls (va_rf (if i.toNatClampNeg < 3 then some (f i.toNatClampNeg) else none) :: rest))
  rw [if_pos hlt]
  exact kk
theorem zaG (hx : p.tables.exec = Jvm.exec) (hb : c0.code = cc) (hE : zE D c s) (hP : va_P D vwCl ws H) (q0 : Nat) {f : Nat → Nat} (ha : ws[q0]? = some (a, .inl (c 5, 16, .inr (.inr (.inr (.inr (fun i => if i < 16 then some (f i) else none))))))) {i : Int32} (hin : vp_in i 16) (hdg : decode cc pc = .ok (.aaload, 1)) (kk : W p l e R s m args below meth c0 H locs cells slots Q (F0 m (pc + 1) ls (.ref (f i.toNatClampNeg) :: rest))) : W p l e R s m args below meth c0 H locs cells slots Q (F0 m pc ls (.int i :: .ref a :: rest)) := by
  have hlt : i.toNatClampNeg < 16 := Nat.not_le.mp fun q => hin (Or.inr q)
  refine W.aald (v := va_rf ((fun i => if i < 16 then some (f i) else none) i.toNatClampNeg)) (ty := .array .int) hx hb (hP q0 _ ha) ((hE.1.2 5 _ rfl).1 16 (fun j => va_rf ((fun i => if i < 16 then some (f i) else none) j))) rfl (fun q => by cases q) (by show ¬ (i < 0 ∨ (arrV _ _ _).slots.size ≤ _); rw [arrV_size]; exact hin) (by show (arrV _ _ _).slots[_]? = _; rw [arrV_read _ _ hlt]) rfl rfl hdg ?_
  show W p l e R s m args below meth c0 H locs cells slots Q (F0 m (pc + 1) ls (va_rf (if i.toNatClampNeg < 16 then some (f i.toNatClampNeg) else none) :: rest))
  rw [if_pos hlt]
  exact kk
theorem zaIs (hx : p.tables.exec = Jvm.exec) (hb : c0.code = cc) (hE : zE D c s) (hP : va_P D vwCl ws H) (q0 : Nat) {n v : Nat} {f : Nat → Option Nat} (ha : ws[q0]? = some (a, .inl (c 4, n, .inr (.inr (.inr (.inr f)))))) {i : Int32} (hir : f i.toNatClampNeg = some v) (hin : vp_in i n) (hdg : decode cc pc = .ok (.aaload, 1)) (kk : W p l e R s m args below meth c0 H locs cells slots Q (F0 m (pc + 1) ls (.ref v :: rest))) : W p l e R s m args below meth c0 H locs cells slots Q (F0 m pc ls (.int i :: .ref a :: rest)) := by
  refine va_aldq hx hb hE.1 hP q0 4 ha rfl hin hdg ?_
  rw [hir]; exact kk
theorem zaIn (hx : p.tables.exec = Jvm.exec) (hb : c0.code = cc) (hE : zE D c s) (hP : va_P D vwCl ws H) (q0 : Nat) {n : Nat} {f : Nat → Option Nat} (ha : ws[q0]? = some (a, .inl (c 4, n, .inr (.inr (.inr (.inr f)))))) {i : Int32} (hir : f i.toNatClampNeg = none) (hin : vp_in i n) (hdg : decode cc pc = .ok (.aaload, 1)) (kk : W p l e R s m args below meth c0 H locs cells slots Q (F0 m (pc + 1) ls (.null :: rest))) : W p l e R s m args below meth c0 H locs cells slots Q (F0 m pc ls (.int i :: .ref a :: rest)) := by
  refine va_aldq hx hb hE.1 hP q0 4 ha rfl hin hdg ?_
  rw [hir]; exact kk
theorem zIPF {y : MethodName} {rm : Room} {maxL : Nat} {ret : Option FieldType} {av : List Value} {wc : va_W} {Qc : Array Value → State → Outcome → State → Prop} (hy : plainFor y = true) (hlen : (lg_sl av).length ≤ maxL)
    (body : ∀ (p : Program) (e : Env) (s : State) (m : MethodId) (args : Array Value) (below : List Frame) (meth : Method) (c0 : Code) (Q : State → Prop), Q = MQ below Qc args s 0 0 (fun _ => False) → p.tables.exec = Jvm.exec → c0.code = cc → meth.sig.returnType = ret → meth.locks = false → c0.maxLocals = maxL → (∀ w ∈ zT, w.before args s = true) → s.vm.findClass y.cls = some m.cls → va_P D vwCl wc s.heap → zE D c s → zX c zF s s.heap → va_S zF s.heap s.heap [] → ∀ ls : Array Slot, lv_has ls maxL (lv_args 0 av) →
      W p l e rm s m args below meth c0 s.heap [] 0 0 Q (F0 m 0 ls [])) : Met l y (zW y cc maxL ret) rm (va_Pc av (zPre D c wc)) Qc 0 0 (fun _ => False) := by
  refine va_MetF hy rfl ?_
  intro p e s m args below meth c0 s₁ B hml hv
  obtain ⟨rfl, hP, hE, hX⟩ := hv
  rw [lg_entry_eq]
  exact body p e s m _ below meth c0 _ rfl B.exec B.bytes B.returns B.notSynchronized hml (fun w hw => atoms_spec (ws := zW y cc maxL ret) B.pre w (List.mem_cons_of_mem _ hw)) (findClass_of_methodNamed B.named) hP hE hX va_S.rf _ (lv_entry av hlen)
end ZZ3
