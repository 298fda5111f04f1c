/-! ===== worlds as lists of blocks ===== -/
theorem zP_app {D : va_G} {X Y : va_W} {H : Heap} : va_P D vwCl (X ++ Y) H ↔ va_P D vwCl X H ∧ va_P D vwCl Y H := by
  constructor
  · intro h
    exact ⟨fun k q hk => h k q (zapl hk), fun k q hk => h (X.length + k) q (zapp rfl hk)⟩
  · intro h k q hk
    by_cases hx : k < X.length
    · rw [List.getElem?_append_left hx] at hk
      exact h.1 k q hk
    · rw [List.getElem?_append_right (by omega)] at hk
      exact h.2 _ q hk
theorem zD_app {A : Nat → Prop} {X Y : va_W} : va_D A (X ++ Y) ↔ va_D A X ∧ va_D A Y ∧ ∀ x ∈ X, ∀ y ∈ Y, x.1 ≠ y.1 := by
  constructor
  · intro h
    refine ⟨⟨fun i j p q hi hj e => h.1 i j p q (zapl hi) (zapl hj) e, fun k q hk => h.2 k q (zapl hk)⟩, ⟨fun i j p q hi hj e => ?_, fun k q hk => h.2 (X.length + k) q (zapp rfl hk)⟩, ?_⟩
    · have := h.1 (X.length + i) (X.length + j) p q (zapp rfl hi) (zapp rfl hj) e
      omega
    · intro x hx y hy e
      obtain ⟨i, hi, hxi⟩ := List.getElem_of_mem hx
      obtain ⟨j, hj, hyj⟩ := List.getElem_of_mem hy
      have h1 := h.1 i (X.length + j) x y (zapl (by rw [List.getElem?_eq_getElem hi, hxi])) (zapp rfl (by rw [List.getElem?_eq_getElem hj, hyj])) e
      omega
  · intro ⟨hX, hY, hd⟩
    have split : ∀ (k : Nat) (q : Nat × va_E), (X ++ Y)[k]? = some q → (k < X.length ∧ X[k]? = some q) ∨ (X.length ≤ k ∧ Y[k - X.length]? = some q) := by
      intro k q hk
      by_cases hx : k < X.length
      · rw [List.getElem?_append_left hx] at hk; exact Or.inl ⟨hx, hk⟩
      · rw [List.getElem?_append_right (by omega)] at hk; exact Or.inr ⟨by omega, hk⟩
    refine ⟨fun i j p q hi hj e => ?_, fun k q hk => ?_⟩
    · rcases split i p hi with ⟨h1, h2⟩ | ⟨h1, h2⟩ <;> rcases split j q hj with ⟨h3, h4⟩ | ⟨h3, h4⟩
      · exact hX.1 i j p q h2 h4 e
      · exact absurd e (hd p (List.mem_of_getElem? h2) q (List.mem_of_getElem? h4))
      · exact absurd e.symm (hd q (List.mem_of_getElem? h4) p (List.mem_of_getElem? h2))
      · have := hY.1 _ _ p q h2 h4 e
        omega
    · rcases split k q hk with ⟨h1, h2⟩ | ⟨h1, h2⟩
      · exact hX.2 k q h2
      · exact hY.2 _ q h2
def zPs (D : va_G) (bs : List va_W) (H : Heap) : Prop := ∀ b ∈ bs, va_P D vwCl b H
def zDs (A : Nat → Prop) (bs : List va_W) : Prop := (∀ b ∈ bs, va_D A b) ∧ bs.Pairwise (fun b b' => ∀ x ∈ b, ∀ y ∈ b', x.1 ≠ y.1)
theorem zPs_iff {D : va_G} {H : Heap} : ∀ {bs : List va_W}, zPs D bs H ↔ va_P D vwCl bs.flatten H
  | [] => ⟨fun _ => zpnil, fun _ _ h => by cases h⟩
  | b :: bs => by
    rw [List.flatten_cons, zP_app, ← zPs_iff (bs := bs)]
    unfold zPs
    rw [List.forall_mem_cons]
theorem zDs_iff {A : Nat → Prop} : ∀ {bs : List va_W}, zDs A bs ↔ va_D A bs.flatten
  | [] => ⟨fun _ => ⟨fun i j p q h => by simp at h, fun k q h => by simp at h⟩, fun _ => ⟨fun _ h => (by cases h), List.Pairwise.nil⟩⟩
  | b :: bs => by
    rw [List.flatten_cons, zD_app, ← zDs_iff (bs := bs)]
    unfold zDs
    rw [List.forall_mem_cons, List.pairwise_cons]
    constructor
    · rintro ⟨⟨h1, h2⟩, h3, h4⟩
      refine ⟨h1, ⟨h2, h4⟩, fun x hx y hy => ?_⟩
      obtain ⟨b', hb', hy'⟩ := List.mem_flatten.mp hy
      exact h3 b' hb' x hx y hy'
    · rintro ⟨h1, ⟨h2, h4⟩, h3⟩
      exact ⟨⟨h1, h2⟩, fun b' hb' x hx y hy => h3 x hx y (List.mem_flatten.mpr ⟨b', hb', hy⟩), h4⟩
theorem zPs.sub {D : va_G} {H : Heap} {bs bz : List va_W} (h : zPs D bs H) (is : List Nat) (hB : is.map (fun i => bs[i]?) = bz.map some) : zPs D bz H := by
  intro b hb
  have h1 : some b ∈ bz.map some := List.mem_map.mpr ⟨b, hb, rfl⟩
  rw [← hB] at h1
  obtain ⟨i, -, hi⟩ := List.mem_map.mp h1
  exact h b (List.mem_of_getElem? hi)
theorem zpick {bs bz : List va_W} {is : List Nat} (hB : is.map (fun i => bs[i]?) = bz.map some) {k : Nat} {b : va_W} (hk : bz[k]? = some b) : ∃ i, is[k]? = some i ∧ bs[i]? = some b := by
  have h1 : (bz.map some)[k]? = some (some b) := by rw [List.getElem?_map, hk]; rfl
  rw [← hB, List.getElem?_map] at h1
  cases h2 : is[k]? with
  | none => rw [h2] at h1; cases h1
  | some i => rw [h2] at h1; exact ⟨i, rfl, Option.some.inj h1⟩
theorem zDs.sub {A : Nat → Prop} {bs bz : List va_W} (h : zDs A bs) (is : List Nat) (hn : va_nd is = true) (hB : is.map (fun i => bs[i]?) = bz.map some) : zDs A bz := by
  have hpw := List.pairwise_iff_getElem.mp h.2
  have hsy : ∀ (i j : Nat) (b b' : va_W), i ≠ j → bs[i]? = some b → bs[j]? = some b' → ∀ x ∈ b, ∀ y ∈ b', x.1 ≠ y.1 := by
    intro i j b b' hij hi hj x hx y hy
    obtain ⟨hi1, hi2⟩ := List.getElem?_eq_some_iff.mp hi
    obtain ⟨hj1, hj2⟩ := List.getElem?_eq_some_iff.mp hj
    rcases Nat.lt_or_gt_of_ne hij with hlt | hlt
    · exact hpw i j hi1 hj1 hlt x (by rw [hi2]; exact hx) y (by rw [hj2]; exact hy)
    · exact (hpw j i hj1 hi1 hlt y (by rw [hj2]; exact hy) x (by rw [hi2]; exact hx)).symm
  refine ⟨fun b hb => ?_, List.pairwise_iff_getElem.mpr fun i j hi hj hij x hx y hy => ?_⟩
  · obtain ⟨k, hk, hbk⟩ := List.getElem_of_mem hb
    obtain ⟨i, -, hi⟩ := zpick hB (show bz[k]? = some b by rw [List.getElem?_eq_getElem hk, hbk])
    exact h.1 b (List.mem_of_getElem? hi)
  · obtain ⟨i', hi1, hi2⟩ := zpick hB (List.getElem?_eq_getElem hi)
    obtain ⟨j', hj1, hj2⟩ := zpick hB (List.getElem?_eq_getElem hj)
    refine hsy i' j' _ _ (fun e => ?_) hi2 hj2 x hx y hy
    subst e
    have := va_nd_inj is hn i j i' hi1 hj1
    omega
theorem zmapl (X Y : va_W) : (List.range X.length).map (fun i => (X ++ Y)[i]?) = X.map some := by
  apply List.ext_getElem?
  intro i
  by_cases h : i < X.length
  · rw [List.getElem?_map, List.getElem?_range h, List.getElem?_map]
    simp [List.getElem?_append_left h, List.getElem?_eq_getElem h]
  · rw [List.getElem?_map, List.getElem?_map, List.getElem?_eq_none (by simp; omega), List.getElem?_eq_none (by omega)]
    rfl
theorem zmapr (X Y : va_W) : ((List.range Y.length).map (X.length + ·)).map (fun i => (X ++ Y)[i]?) = Y.map some := by
  apply List.ext_getElem?
  intro i
  rw [List.map_map]
  by_cases h : i < Y.length
  · rw [List.getElem?_map, List.getElem?_range h, List.getElem?_map]
    simp [List.getElem?_append_right, List.getElem?_eq_getElem h]
  · rw [List.getElem?_map, List.getElem?_map, List.getElem?_eq_none (by simp; omega), List.getElem?_eq_none (by omega)]
    rfl
theorem zndm (n m : Nat) : va_nd ((List.range n).map (m + ·)) = true := by
  have h : ∀ (l : List Nat), l.Nodup → va_nd l = true := by
    intro l
    induction l with
    | nil => intro _; rfl
    | cons a t ih =>
      intro h
      have h2 := List.nodup_cons.mp h
      show (decide (a ∉ t) && va_nd t) = true
      rw [ih h2.2]
      simp [h2.1]
  refine h _ ?_
  rw [List.nodup_iff_pairwise_ne, List.pairwise_map]
  exact (List.nodup_iff_pairwise_ne.mp List.nodup_range).imp (fun h e => h (by omega))
section ZBL
variable {p : Program} {l : Launch} {e : Env} {R : Room} {s : State} {m : MethodId} {args : Array Value} {below : List Frame} {meth : Method} {c0 : Code} {H : Heap} {locs : List Loc} {cells slots : Nat} {Q : State → Prop}
variable {cc : ByteArray} {pc : Nat} {ls : Array Slot} {rest : List Value} {D : va_G} {c : Nat → ClassId} {A : Nat → Prop} {a : Nat} {ws : va_W} {H0 : Heap}
theorem zcBi {y : MethodName} {bytes : ByteArray} {maxL nL n index ci q0 : Nat} {ret : Option FieldType} {rm : Room} {own C : String} {b : Nat} {As st0 : List Value} {wc : va_W} {bs bC : List va_W} {v : Int32} {q : vw_C} {fs : List Value} (isC : List Nat) (S : CallFix p m c0 cc nL s args zT own) (hM : zMPi l D c y bytes maxL ret rm wc (.ref b :: As) v) (mi : zMI C y bytes maxL ret n) (hlink : Cond.methodLink own index y ∈ zT) (hR : rm.frames + 1 ≤ R.frames ∧ 8 + (maxL + 11) + rm.locals ≤ R.locals) (hrm : rm.cells = 0 ∧ rm.slots = 0) (hP : zPs D bs H) (hC : isC.map (fun i => bs[i]?) = bC.map some) (hwc : wc = bC.flatten) (hE : zE D c s) (hX : zX c A s s.heap) (hS : va_S A s.heap H locs) (hc : vwCl[ci]? = some q) (hq : q.1 = C) (he : wc[q0]? = some (b, .inr (ci, fs))) (hn : As.length = n) (hl : ls.size = nL) (hst : st0 = As.reverse ++ .ref b :: rest) (hW : (rest.map fun v => v.category).sum ≤ 8) (hdg : decode cc pc = .ok (.invokevirtual index, 3)) (hf : cells + 0 ≤ R.cells ∧ slots + 0 ≤ R.slots) (kk : W p l e R s m args below meth c0 H locs cells slots Q (F0 m (pc + 3) ls (.int v :: rest))) : W p l e R s m args below meth c0 H locs cells slots Q (F0 m pc ls st0) :=
  zcVi S hM mi hlink hR hrm (hwc ▸ zPs_iff.mp (hP.sub isC hC)) hE hX hS hc hq he hn hl hst hW hdg hf kk
theorem zcBl {y : MethodName} {bytes : ByteArray} {maxL nL n index ci q0 : Nat} {ret : Option FieldType} {rm : Room} {own C : String} {b : Nat} {As st0 : List Value} {wc : va_W} {bs bC : List va_W} {v : Int64} {q : vw_C} {fs : List Value} (isC : List Nat) (S : CallFix p m c0 cc nL s args zT own) (hM : zMPl l D c y bytes maxL ret rm wc (.ref b :: As) v) (mi : zMI C y bytes maxL ret n) (hlink : Cond.methodLink own index y ∈ zT) (hR : rm.frames + 1 ≤ R.frames ∧ 8 + (maxL + 11) + rm.locals ≤ R.locals) (hrm : rm.cells = 0 ∧ rm.slots = 0) (hP : zPs D bs H) (hC : isC.map (fun i => bs[i]?) = bC.map some) (hwc : wc = bC.flatten) (hE : zE D c s) (hX : zX c A s s.heap) (hS : va_S A s.heap H locs) (hc : vwCl[ci]? = some q) (hq : q.1 = C) (he : wc[q0]? = some (b, .inr (ci, fs))) (hn : As.length = n) (hl : ls.size = nL) (hst : st0 = As.reverse ++ .ref b :: rest) (hW : (rest.map fun v => v.category).sum ≤ 8) (hdg : decode cc pc = .ok (.invokevirtual index, 3)) (hf : cells + 0 ≤ R.cells ∧ slots + 0 ≤ R.slots) (kk : W p l e R s m args below meth c0 H locs cells slots Q (F0 m (pc + 3) ls (.long v :: rest))) : W p l e R s m args below meth c0 H locs cells slots Q (F0 m pc ls st0) :=
  zcVl S hM mi hlink hR hrm (hwc ▸ zPs_iff.mp (hP.sub isC hC)) hE hX hS hc hq he hn hl hst hW hdg hf kk
theorem zwBi {y : MethodName} {bytes : ByteArray} {maxL nL n index ci q0 : Nat} {ret : Option FieldType} {rm : Room} {own C : String} {b : Nat} {As st0 : List Value} {wc wn : va_W} {bs bC bR bN : List va_W} {v : Int32} {q : vw_C} {fs : List Value} (bz : List va_W) (isC isR isB : List Nat) (S : CallFix p m c0 cc nL s args zT own) (hM : zMWi l D c y bytes maxL ret rm wc wn (.ref b :: As) v) (mi : zMI C y bytes maxL ret n) (hlink : Cond.methodLink own index y ∈ zT) (hR : rm.frames + 1 ≤ R.frames ∧ 8 + (maxL + 11) + rm.locals ≤ R.locals) (hrm : rm.cells = 0 ∧ rm.slots = 0) (hP : zPs D bs H) (hD : zDs A bs) (hS : va_S A s.heap H locs) (hA : ∀ q, s.heap.size ≤ q → A q) (hCR : (isC ++ isR).map (fun i => bs[i]?) = (bC ++ bR).map some) (hnd : va_nd (isC ++ isR) = true) (hwc : wc = bC.flatten) (hwn : wn = bN.flatten) (hB : isB.map (fun i => (bR ++ bN)[i]?) = bz.map some) (hBn : va_nd isB = true) (hE : zE D c s) (hX : zX c A s s.heap) (hc : vwCl[ci]? = some q) (hq : q.1 = C) (he : wc[q0]? = some (b, .inr (ci, fs))) (hn : As.length = n) (hl : ls.size = nL) (hst : st0 = As.reverse ++ .ref b :: rest) (hW : (rest.map fun v => v.category).sum ≤ 8) (hdg : decode cc pc = .ok (.invokevirtual index, 3)) (hf : cells + 0 ≤ R.cells ∧ slots + 0 ≤ R.slots) (kk : ∀ (H1 : Heap) (locs1 : List Loc), zPs D bz H1 → zDs A bz → va_S A s.heap H1 locs1 → W p l e R s m args below meth c0 H1 locs1 cells slots Q (F0 m (pc + 3) ls (.int v :: rest))) : W p l e R s m args below meth c0 H locs cells slots Q (F0 m pc ls st0) := by
  have hP1 : va_P D vwCl (wc ++ bR.flatten) H := by rw [hwc, ← List.flatten_append]; exact zPs_iff.mp (hP.sub _ hCR)
  have hD1 : va_D A (wc ++ bR.flatten) := by rw [hwc, ← List.flatten_append]; exact zDs_iff.mp (hD.sub _ hnd hCR)
  refine zwVi (wr := bR.flatten) (bR.flatten ++ wn) (List.range wc.length) ((List.range bR.flatten.length).map (wc.length + ·)) (List.range (bR.flatten ++ wn).length) S hM mi hlink hR hrm hP1 hD1 hS hA (zmapl _ _) (zmapr _ _) (zndr _) (zndm _ _) (fun i hi h => by simp at hi h; omega) ?_ (zndr _) hE hX hc hq he hn hl hst hW hdg hf (fun H1 locs1 hP2 hD2 hS2 => ?_)
  · have := zmapl (bR.flatten ++ wn) []
    rw [List.append_nil] at this
    exact this
  · have e : bR.flatten ++ wn = (bR ++ bN).flatten := by rw [hwn, List.flatten_append]
    rw [e] at hP2 hD2
    exact kk H1 locs1 ((zPs_iff.mpr hP2).sub isB hB) ((zDs_iff.mpr hD2).sub isB hBn hB) hS2
theorem zwBl {y : MethodName} {bytes : ByteArray} {maxL nL n index ci q0 : Nat} {ret : Option FieldType} {rm : Room} {own C : String} {b : Nat} {As st0 : List Value} {wc wn : va_W} {bs bC bR bN : List va_W} {v : Int64} {q : vw_C} {fs : List Value} (bz : List va_W) (isC isR isB : List Nat) (S : CallFix p m c0 cc nL s args zT own) (hM : zMWl l D c y bytes maxL ret rm wc wn (.ref b :: As) v) (mi : zMI C y bytes maxL ret n) (hlink : Cond.methodLink own index y ∈ zT) (hR : rm.frames + 1 ≤ R.frames ∧ 8 + (maxL + 11) + rm.locals ≤ R.locals) (hrm : rm.cells = 0 ∧ rm.slots = 0) (hP : zPs D bs H) (hD : zDs A bs) (hS : va_S A s.heap H locs) (hA : ∀ q, s.heap.size ≤ q → A q) (hCR : (isC ++ isR).map (fun i => bs[i]?) = (bC ++ bR).map some) (hnd : va_nd (isC ++ isR) = true) (hwc : wc = bC.flatten) (hwn : wn = bN.flatten) (hB : isB.map (fun i => (bR ++ bN)[i]?) = bz.map some) (hBn : va_nd isB = true) (hE : zE D c s) (hX : zX c A s s.heap) (hc : vwCl[ci]? = some q) (hq : q.1 = C) (he : wc[q0]? = some (b, .inr (ci, fs))) (hn : As.length = n) (hl : ls.size = nL) (hst : st0 = As.reverse ++ .ref b :: rest) (hW : (rest.map fun v => v.category).sum ≤ 8) (hdg : decode cc pc = .ok (.invokevirtual index, 3)) (hf : cells + 0 ≤ R.cells ∧ slots + 0 ≤ R.slots) (kk : ∀ (H1 : Heap) (locs1 : List Loc), zPs D bz H1 → zDs A bz → va_S A s.heap H1 locs1 → W p l e R s m args below meth c0 H1 locs1 cells slots Q (F0 m (pc + 3) ls (.long v :: rest))) : W p l e R s m args below meth c0 H locs cells slots Q (F0 m pc ls st0) := by
  have hP1 : va_P D vwCl (wc ++ bR.flatten) H := by rw [hwc, ← List.flatten_append]; exact zPs_iff.mp (hP.sub _ hCR)
  have hD1 : va_D A (wc ++ bR.flatten) := by rw [hwc, ← List.flatten_append]; exact zDs_iff.mp (hD.sub _ hnd hCR)
  refine zwVl (wr := bR.flatten) (bR.flatten ++ wn) (List.range wc.length) ((List.range bR.flatten.length).map (wc.length + ·)) (List.range (bR.flatten ++ wn).length) S hM mi hlink hR hrm hP1 hD1 hS hA (zmapl _ _) (zmapr _ _) (zndr _) (zndm _ _) (fun i hi h => by simp at hi h; omega) ?_ (zndr _) hE hX hc hq he hn hl hst hW hdg hf (fun H1 locs1 hP2 hD2 hS2 => ?_)
  · have := zmapl (bR.flatten ++ wn) []
    rw [List.append_nil] at this
    exact this
  · have e : bR.flatten ++ wn = (bR ++ bN).flatten := by rw [hwn, List.flatten_append]
    rw [e] at hP2 hD2
    exact kk H1 locs1 ((zPs_iff.mpr hP2).sub isB hB) ((zDs_iff.mpr hD2).sub isB hBn hB) hS2
theorem zwBv {y : MethodName} {bytes : ByteArray} {maxL nL n index ci q0 : Nat} {ret : Option FieldType} {rm : Room} {own C : String} {b : Nat} {As st0 : List Value} {wc wn : va_W} {bs bC bR bN : List va_W} {q : vw_C} {fs : List Value} (bz : List va_W) (isC isR isB : List Nat) (S : CallFix p m c0 cc nL s args zT own) (hM : zMWv l D c y bytes maxL ret rm wc wn (.ref b :: As)) (mi : zMI C y bytes maxL ret n) (hlink : Cond.methodLink own index y ∈ zT) (hR : rm.frames + 1 ≤ R.frames ∧ 8 + (maxL + 11) + rm.locals ≤ R.locals) (hrm : rm.cells = 0 ∧ rm.slots = 0) (hP : zPs D bs H) (hD : zDs A bs) (hS : va_S A s.heap H locs) (hA : ∀ q, s.heap.size ≤ q → A q) (hCR : (isC ++ isR).map (fun i => bs[i]?) = (bC ++ bR).map some) (hnd : va_nd (isC ++ isR) = true) (hwc : wc = bC.flatten) (hwn : wn = bN.flatten) (hB : isB.map (fun i => (bR ++ bN)[i]?) = bz.map some) (hBn : va_nd isB = true) (hE : zE D c s) (hX : zX c A s s.heap) (hc : vwCl[ci]? = some q) (hq : q.1 = C) (he : wc[q0]? = some (b, .inr (ci, fs))) (hn : As.length = n) (hl : ls.size = nL) (hst : st0 = As.reverse ++ .ref b :: rest) (hW : (rest.map fun v => v.category).sum ≤ 8) (hdg : decode cc pc = .ok (.invokevirtual index, 3)) (hf : cells + 0 ≤ R.cells ∧ slots + 0 ≤ R.slots) (kk : ∀ (H1 : Heap) (locs1 : List Loc), zPs D bz H1 → zDs A bz → va_S A s.heap H1 locs1 → W p l e R s m args below meth c0 H1 locs1 cells slots Q (F0 m (pc + 3) ls (rest))) : W p l e R s m args below meth c0 H locs cells slots Q (F0 m pc ls st0) := by
  have hP1 : va_P D vwCl (wc ++ bR.flatten) H := by rw [hwc, ← List.flatten_append]; exact zPs_iff.mp (hP.sub _ hCR)
  have hD1 : va_D A (wc ++ bR.flatten) := by rw [hwc, ← List.flatten_append]; exact zDs_iff.mp (hD.sub _ hnd hCR)
  refine zwVv (wr := bR.flatten) (bR.flatten ++ wn) (List.range wc.length) ((List.range bR.flatten.length).map (wc.length + ·)) (List.range (bR.flatten ++ wn).length) S hM mi hlink hR hrm hP1 hD1 hS hA (zmapl _ _) (zmapr _ _) (zndr _) (zndm _ _) (fun i hi h => by simp at hi h; omega) ?_ (zndr _) hE hX hc hq he hn hl hst hW hdg hf (fun H1 locs1 hP2 hD2 hS2 => ?_)
  · have := zmapl (bR.flatten ++ wn) []
    rw [List.append_nil] at this
    exact this
  · have e : bR.flatten ++ wn = (bR ++ bN).flatten := by rw [hwn, List.flatten_append]
    rw [e] at hP2 hD2
    exact kk H1 locs1 ((zPs_iff.mpr hP2).sub isB hB) ((zDs_iff.mpr hD2).sub isB hBn hB) hS2
end ZBL
