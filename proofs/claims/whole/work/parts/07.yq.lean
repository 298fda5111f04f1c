/-! ===== what a line does to a world ===== -/
def aLet (a : AW) (l v : Nat) : AW := aSet a 0 (nup (a 0) l v)
def aSyl (a : AW) (c : Nat) : AW := aSet (aSet a 1 (fun _ => aSC a + 1)) 2 (nup (a 2) (aSC a) c)
def aCall (a : AW) (p w : Nat) : AW := aSet a 5 (nup (a 5) p w)
def aDeg (a : AW) (d : Nat) : AW := aSet a 11 (fun _ => d)
def aForget (a : AW) : AW := aSet (aSet (aSet a 1 (fun _ => 0)) 3 (fun _ => 0)) 8 (fun _ => 0)
def aBear (a : AW) (x y d w : Nat) : AW := aSet (aSet (aSet (aSet (aSet a 3 (fun _ => aPC a + 1)) 4 (nup (a 4) (aPC a) d)) 5 (nup (a 5) (aPC a) w)) 6 (nup (a 6) (aPC a) x)) 7 (nup (a 7) (aPC a) y)
theorem aTw_congr {a a' : AW} {p : Nat} (h : ∀ k, k ≤ p → aD a' k = aD a k ∧ aP a' k = aP a k ∧ aO a' k = aO a k) : aTw a' p = aTw a p := by
  unfold aTw
  obtain ⟨h1, h2, h3⟩ := h p (Nat.le_refl _)
  rw [h1, h2, h3]
  have : ∀ (n : Nat), n ≤ p → (List.range n).any (fun k => (aD a' k == aD a p) && ((aP a' k == aP a p && aO a' k == aO a p) || (aP a' k == aO a p && aO a' k == aP a p))) = (List.range n).any (fun k => (aD a k == aD a p) && ((aP a k == aP a p && aO a k == aO a p) || (aP a k == aO a p && aO a k == aP a p))) := by
    intro n
    induction n with
    | zero =>
      intro _
      rfl
    | succ n ih =>
      intro hn
      obtain ⟨g1, g2, g3⟩ := h n (by omega)
      rw [List.range_succ, List.any_append, List.any_append, ih (by omega), List.any_cons, List.any_cons, g1, g2, g3]
      rfl
  exact this p (Nat.le_refl _)
theorem aK_congr {a a' : AW} {p : Nat} (h : ∀ k, k ≤ p → aD a' k = aD a k ∧ aP a' k = aP a k ∧ aO a' k = aO a k) : aK a' p = aK a p := by
  unfold aK
  rw [aTw_congr h, (h p (Nat.le_refl _)).2.1]
section
variable {a : AW} {n1 : Nat → Int32} {n2 : Nat → Int64} {n3 : Int32} {n4 : Nat → Int32} {n5 : Nat → Int64} {n6 n7 n8 : Nat → Int32} {n9 : Int32} {n10 n11 : Nat → Int32} {n12 n13 : Int32}
theorem let_w (hok : zOK a) (hw : zWA a n1 n2 n3 n4 n5 n6 n7 n8 n9 n10 n11 n12 n13) {l v : Nat} (hv : v ≤ 99) : zOK (aLet a l v) ∧ zWA (aLet a l v) (upd n1 l (nI v)) n2 n3 n4 n5 n6 n7 n8 n9 n10 n11 n12 n13 := by
  obtain ⟨k1, k2⟩ := hok
  obtain ⟨w1, w2, w3, w4, w5, w6⟩ := hw
  refine ⟨⟨fun i hi => ?_, k2⟩, ⟨fun i hi => ?_, w2, w3, w4, w5, w6⟩⟩
  · show nup (a 0) l v i ≤ 99
    by_cases e : i = l
    · rw [e, nup_s]
      exact hv
    · rw [nup_n e]
      exact k1 i hi
  · show upd n1 l (nI v) i = nI (nup (a 0) l v i)
    by_cases e : i = l
    · rw [e, nup_s, pk_us]
    · rw [nup_n e, pk_un e]
      exact w1 i hi
theorem syl_w (hok : zOK a) (hw : zWA a n1 n2 n3 n4 n5 n6 n7 n8 n9 n10 n11 n12 n13) {c : Nat} (hc : isW 3 c) (hn : ¬ isSy a c) (h10 : aSC a < 10) : zOK (aSyl a c) ∧ zWA (aSyl a c) n1 (vp_updL n2 (aSC a) (lN c)) (nI (aSC a + 1)) n4 n5 n6 n7 n8 n9 n10 n11 n12 n13 := by
  obtain ⟨k1, k2, k3, k4, k5⟩ := hok
  obtain ⟨w1, w2, w3, w4, w5, w6⟩ := hw
  refine ⟨⟨k1, h10, fun i hi => ?_, fun i j hij hj => ?_, k5⟩, ⟨w1, rfl, fun i hi => ?_, w4, w5, w6⟩⟩
  · have hi : i < aSC a + 1 := hi
    show isW 3 (nup (a 2) (aSC a) c i)
    by_cases e : i = aSC a
    · rw [e, nup_s]
      exact hc
    · rw [nup_n e]
      exact k3 i (by omega)
  · have hj : j < aSC a + 1 := hj
    show nup (a 2) (aSC a) c i ≠ nup (a 2) (aSC a) c j
    by_cases e : j = aSC a
    · rw [e, nup_s, nup_n (by omega)]
      exact fun q => hn ⟨i, by omega, q⟩
    · rw [nup_n e, nup_n (by omega)]
      exact k4 i j hij (by omega)
  · have hi : i < aSC a + 1 := hi
    show vp_updL n2 (aSC a) (lN c) i = lN (nup (a 2) (aSC a) c i)
    by_cases e : i = aSC a
    · rw [e, nup_s, pk_uLs]
    · rw [nup_n e, pk_uLn e]
      exact w3 i (by omega)
theorem call_w (hok : zOK a) (hw : zWA a n1 n2 n3 n4 n5 n6 n7 n8 n9 n10 n11 n12 n13) {p w : Nat} (hwd : w = 0 ∨ isW 9 w) : zOK (aCall a p w) ∧ zWA (aCall a p w) n1 n2 n3 n4 (vp_updL n5 p (lN w)) n6 n7 n8 n9 n10 n11 n12 n13 := by
  obtain ⟨k1, k2, k3, k4, k5, k6, k7⟩ := hok
  obtain ⟨w1, w2, w3, w4, w5, w6⟩ := hw
  refine ⟨⟨k1, k2, k3, k4, k5, fun q hq => ?_, k7⟩, ⟨w1, w2, w3, w4, fun q hq => ?_, w6⟩⟩
  · obtain ⟨g1, g2, g3, g4⟩ := k6 q hq
    refine ⟨g1, g2, ?_, g4⟩
    show nup (a 5) p w q = 0 ∨ isW 9 (nup (a 5) p w q)
    by_cases e : q = p
    · rw [e, nup_s]
      exact hwd
    · rw [nup_n e]
      exact g3
  · obtain ⟨g1, g2, g3, g4, g5⟩ := w5 q hq
    refine ⟨g1, ?_, g3, g4, ?_⟩
    · show vp_updL n5 p (lN w) q = lN (nup (a 5) p w q)
      by_cases e : q = p
      · rw [e, nup_s, pk_uLs]
      · rw [nup_n e, pk_uLn e]
        exact g2
    · rw [g5, show aK (aCall a p w) q = aK a q from aK_congr (fun k _ => ⟨rfl, rfl, rfl⟩)]
theorem deg_w (hok : zOK a) (hw : zWA a n1 n2 n3 n4 n5 n6 n7 n8 n9 n10 n11 n12 n13) {d : Nat} (d1 : 1 ≤ d) (d4 : d ≤ 4) : zOK (aDeg a d) ∧ zWA (aDeg a d) n1 n2 n3 n4 n5 n6 n7 n8 n9 n10 n11 n12 (nI d) := by
  obtain ⟨k1, k2, k3, k4, k5, k6, k7, k8, k9, k10⟩ := hok
  obtain ⟨w1, w2, w3, w4, w5, w6, w7, w8⟩ := hw
  exact ⟨⟨k1, k2, k3, k4, k5, k6, k7, k8, d1, d4⟩, ⟨w1, w2, w3, w4, fun q hq => by
    obtain ⟨g1, g2, g3, g4, g5⟩ := w5 q hq
    exact ⟨g1, g2, g3, g4, by rw [g5, show aK (aDeg a d) q = aK a q from aK_congr (fun k _ => ⟨rfl, rfl, rfl⟩)]⟩, w6, w7, rfl⟩⟩
theorem forget_w (hok : zOK a) (hw : zWA a n1 n2 n3 n4 n5 n6 n7 n8 n9 n10 n11 n12 n13) : zOK (aForget a) ∧ zWA (aForget a) n1 n2 0 n4 n5 n6 n7 n8 0 n10 n11 0 n13 := by
  obtain ⟨k1, k2, k3, k4, k5, k6, k7, k8, k9, k10⟩ := hok
  obtain ⟨w1, w2, w3, w4, w5, w6, w7, w8⟩ := hw
  refine ⟨⟨k1, Nat.zero_le _, fun i hi => absurd (show i < 0 from hi) (Nat.not_lt_zero _), fun i j _ hj => absurd (show j < 0 from hj) (Nat.not_lt_zero _), Nat.zero_le _, fun i hi => absurd (show i < 0 from hi) (Nat.not_lt_zero _), Nat.zero_le _, fun i hi => absurd (show i < 0 from hi) (Nat.not_lt_zero _), k9, k10⟩, ⟨w1, rfl, fun i hi => absurd (show i < 0 from hi) (Nat.not_lt_zero _), rfl, fun i hi => absurd (show i < 0 from hi) (Nat.not_lt_zero _), rfl, fun i hi => absurd (show i < 0 from hi) (Nat.not_lt_zero _), w8⟩⟩
theorem hope_w (hok : zOK a) (hw : zWA a n1 n2 n3 n4 n5 n6 n7 n8 n9 n10 n11 n12 n13) (hh : aHC a < 6) {d t : Nat} (d1 : 1 ≤ d) (d2 : d ≤ 400) (ht10 : t ≤ 10) : zOK (aHope a d t) ∧ zWA (aHope a d t) n1 n2 n3 n4 n5 n6 n7 n8 n9 (upd n10 (aHC a) (nI d)) (upd n11 (aHC a) (nI t)) (nI (aHC a + 1)) n13 := by
  obtain ⟨k1, k2, k3, k4, k5, k6, k7, k8, k9, k10⟩ := hok
  obtain ⟨w1, w2, w3, w4, w5, w6, w7, w8⟩ := hw
  refine ⟨⟨k1, k2, k3, k4, k5, k6, hh, fun i hi => ?_, k9, k10⟩, ⟨w1, w2, w3, w4, fun q hq => ?_, rfl, fun i hi => ?_, w8⟩⟩
  · have hi : i < aHC a + 1 := hi
    show 1 ≤ nup (a 9) (aHC a) d i ∧ nup (a 9) (aHC a) d i ≤ 400 ∧ nup (a 10) (aHC a) t i ≤ 10
    by_cases e : i = aHC a
    · subst e
      rw [nup_s, nup_s]
      omega
    · rw [nup_n e, nup_n e]
      exact k8 i (by omega)
  · obtain ⟨g1, g2, g3, g4, g5⟩ := w5 q hq
    exact ⟨g1, g2, g3, g4, by rw [g5, show aK (aHope a d t) q = aK a q from aK_congr (fun k _ => ⟨rfl, rfl, rfl⟩)]⟩
  · have hi : i < aHC a + 1 := hi
    show upd n10 (aHC a) (nI d) i = nI (nup (a 9) (aHC a) d i) ∧ upd n11 (aHC a) (nI t) i = nI (nup (a 10) (aHC a) t i)
    by_cases e : i = aHC a
    · subst e
      rw [nup_s, nup_s, pk_us, pk_us]
      exact ⟨rfl, rfl⟩
    · rw [nup_n e, nup_n e, pk_un e, pk_un e]
      exact w7 i (by omega)
theorem bear_w (hok : zOK a) (hw : zWA a n1 n2 n3 n4 n5 n6 n7 n8 n9 n10 n11 n12 n13) (hh : aPC a < 16) {x y d w : Nat} (hxy : (x = 0 ∧ y = 0) ∨ (1 ≤ x ∧ x ≤ aPC a ∧ 1 ≤ y ∧ y ≤ aPC a ∧ x ≠ y)) (d1 : 1 ≤ d) (d2 : d ≤ 400) (hwd : w = 0 ∨ isW 9 w) : zOK (aBear a x y d w) ∧ zWA (aBear a x y d w) n1 n2 n3 (upd n4 (aPC a) (nI d)) (vp_updL n5 (aPC a) (lN w)) (upd n6 (aPC a) (nI x - 1)) (upd n7 (aPC a) (nI y - 1)) (upd n8 (aPC a) (nI (aK (aBear a x y d w) (aPC a)))) (nI (aPC a + 1)) n10 n11 n12 n13 := by
  obtain ⟨k1, k2, k3, k4, k5, k6, k7⟩ := hok
  obtain ⟨w1, w2, w3, w4, w5, w6⟩ := hw
  refine ⟨⟨k1, k2, k3, k4, hh, fun q hq => ?_, k7⟩, ⟨w1, w2, w3, rfl, fun q hq => ?_, w6⟩⟩
  · have hq : q < aPC a + 1 := hq
    show 1 ≤ nup (a 4) (aPC a) d q ∧ nup (a 4) (aPC a) d q ≤ 400 ∧ (nup (a 5) (aPC a) w q = 0 ∨ isW 9 (nup (a 5) (aPC a) w q)) ∧ ((nup (a 6) (aPC a) x q = 0 ∧ nup (a 7) (aPC a) y q = 0) ∨ (1 ≤ nup (a 6) (aPC a) x q ∧ nup (a 6) (aPC a) x q ≤ q ∧ 1 ≤ nup (a 7) (aPC a) y q ∧ nup (a 7) (aPC a) y q ≤ q ∧ nup (a 6) (aPC a) x q ≠ nup (a 7) (aPC a) y q))
    by_cases e : q = aPC a
    · rw [e, nup_s, nup_s, nup_s, nup_s]
      exact ⟨d1, d2, hwd, hxy⟩
    · rw [nup_n e, nup_n e, nup_n e, nup_n e]
      exact k6 q (by omega)
  · have hq : q < aPC a + 1 := hq
    show upd n4 (aPC a) (nI d) q = nI (nup (a 4) (aPC a) d q) ∧ vp_updL n5 (aPC a) (lN w) q = lN (nup (a 5) (aPC a) w q) ∧ upd n6 (aPC a) (nI x - 1) q = nI (nup (a 6) (aPC a) x q) - 1 ∧ upd n7 (aPC a) (nI y - 1) q = nI (nup (a 7) (aPC a) y q) - 1 ∧ upd n8 (aPC a) (nI (aK (aBear a x y d w) (aPC a))) q = nI (aK (aBear a x y d w) q)
    by_cases e : q = aPC a
    · rw [e, nup_s, nup_s, nup_s, nup_s, pk_us, pk_uLs, pk_us, pk_us, pk_us]
      exact ⟨rfl, rfl, rfl, rfl, rfl⟩
    · rw [nup_n e, nup_n e, nup_n e, nup_n e, pk_un e, pk_uLn e, pk_un e, pk_un e, pk_un e]
      obtain ⟨g1, g2, g3, g4, g5⟩ := w5 q (by omega)
      refine ⟨g1, g2, g3, g4, ?_⟩
      rw [g5, show aK (aBear a x y d w) q = aK a q from aK_congr (fun k hk => ⟨nup_n (by omega), nup_n (by omega), nup_n (by omega)⟩)]
theorem kd6_loop (N : Nat) (hok : zOK a) (hw : zWA a n1 n2 n3 n4 n5 n6 n7 n8 n9 n10 n11 n12 n13) {x y d w : Nat} (hx : x ≤ 16) (hy : y ≤ 16) (hd : d ≤ 400) : ∀ (e i f : Nat), i + e = aPC a → e < f → ∃ z : Bool, f_X5_kindOf_L10 N (some 1) n4 n6 n7 (nI (aPC a)) (nI x - 1) (nI y - 1) (nI d) f (nI i) = some (if z = true then 2 else 1) ∧ (z = true ↔ ∃ k, i ≤ k ∧ k < aPC a ∧ twF (aBear a x y d w) (aPC a) k = true) := by
  have hpc : aPC a ≤ 16 := hok.2.2.2.2.1
  intro e
  induction e with
  | zero =>
    intro i f hi hf
    obtain ⟨f, rfl⟩ : ∃ g, f = g + 1 := ⟨f - 1, by omega⟩
    rw [f_X5_kindOf_L10_s, if_pos (nI_le (by omega) (by omega))]
    exact ⟨false, rfl, fun q => by (cases q), fun ⟨k, k1, k2, _⟩ => by omega⟩
  | succ e ih =>
    intro i f hi hf
    obtain ⟨f, rfl⟩ : ∃ g, f = g + 1 := ⟨f - 1, by omega⟩
    have hi2 : i < aPC a := by omega
    obtain ⟨g1, _, g3, g4, _⟩ := hw.2.2.2.2.1 i hi2
    have bi := hok.2.2.2.2.2.1 i hi2
    obtain ⟨z, z1, z2⟩ := ih (i + 1) f (by omega) (by omega)
    have eF : twF (aBear a x y d w) (aPC a) i = ((aD a i == d) && ((aP a i == x && aO a i == y) || (aP a i == y && aO a i == x))) := by
      have e1 : aD (aBear a x y d w) i = aD a i := nup_n (show i ≠ aPC a by omega)
      have e2 : aP (aBear a x y d w) i = aP a i := nup_n (show i ≠ aPC a by omega)
      have e3 : aO (aBear a x y d w) i = aO a i := nup_n (show i ≠ aPC a by omega)
      have e4 : aD (aBear a x y d w) (aPC a) = d := nup_s
      have e5 : aP (aBear a x y d w) (aPC a) = x := nup_s
      have e6 : aO (aBear a x y d w) (aPC a) = y := nup_s
      unfold twF
      rw [e1, e2, e3, e4, e5, e6]
    have yes : twF (aBear a x y d w) (aPC a) i = true → ∃ z : Bool, (some (2 : Int32)) = some (if z = true then 2 else 1) ∧ (z = true ↔ ∃ k, i ≤ k ∧ k < aPC a ∧ twF (aBear a x y d w) (aPC a) k = true) := fun h => ⟨true, rfl, fun _ => ⟨i, Nat.le_refl _, hi2, h⟩, fun _ => rfl⟩
    have no : ¬ twF (aBear a x y d w) (aPC a) i = true → ∃ z : Bool, f_X5_kindOf_L10 N (some 1) n4 n6 n7 (nI (aPC a)) (nI x - 1) (nI y - 1) (nI d) f (nI (i + 1)) = some (if z = true then 2 else 1) ∧ (z = true ↔ ∃ k, i ≤ k ∧ k < aPC a ∧ twF (aBear a x y d w) (aPC a) k = true) := fun h => by
      refine ⟨z, z1, z2.trans ⟨?_, ?_⟩⟩
      · rintro ⟨k, k1, k2⟩
        exact ⟨k, by omega, k2⟩
      · rintro ⟨k, k1, k2, k3⟩
        refine ⟨k, ?_, k2, k3⟩
        by_cases e : k = i
        · rw [e] at k3
          exact absurd k3 h
        · omega
    rw [f_X5_kindOf_L10_s, if_neg (nI_ge (by omega) (by omega)), zl_gd (zl_inN (show i < 16 by omega) (by decide))]
    simp only [zl_let]
    rw [zl_cl (show i < 2 ^ 31 by omega), g1, g3, g4, nI_1]
    have t1 : (nI (aP a i) - 1 = nI x - 1) = ((aP a i == x) = true) := propext ((nI_par2 (by omega) (by omega)).trans beq_iff_eq.symm)
    have t2 : (nI (aO a i) - 1 = nI y - 1) = ((aO a i == y) = true) := propext ((nI_par2 (by omega) (by omega)).trans beq_iff_eq.symm)
    have t3 : (nI (aP a i) - 1 = nI y - 1) = ((aP a i == y) = true) := propext ((nI_par2 (by omega) (by omega)).trans beq_iff_eq.symm)
    have t4 : (nI (aO a i) - 1 = nI x - 1) = ((aO a i == x) = true) := propext ((nI_par2 (by omega) (by omega)).trans beq_iff_eq.symm)
    have t5 : (nI (aD a i) = nI d) = ((aD a i == d) = true) := propext ((nI_eq (by omega) (by omega)).trans beq_iff_eq.symm)
    simp only [t1, t2, t3, t4, t5]
    have yes2 := fun (h : ((aD a i == d) && ((aP a i == x && aO a i == y) || (aP a i == y && aO a i == x))) = true) => yes (eF.trans h)
    have no2 := fun (h : ¬ ((aD a i == d) && ((aP a i == x && aO a i == y) || (aP a i == y && aO a i == x))) = true) => no (fun q => h (eF.symm.trans q))
    generalize (aP a i == x) = A1 at yes2 no2 ⊢
    generalize (aO a i == y) = A2 at yes2 no2 ⊢
    generalize (aP a i == y) = B1 at yes2 no2 ⊢
    generalize (aO a i == x) = B2 at yes2 no2 ⊢
    generalize (aD a i == d) = C at yes2 no2 ⊢
    cases A1 <;> cases A2 <;> cases B1 <;> cases B2 <;> cases C <;> first | exact yes2 rfl | exact no2 (by decide)
theorem kd6_eq (N : Nat) (hN : 100000 ≤ N) (hok : zOK a) (hw : zWA a n1 n2 n3 n4 n5 n6 n7 n8 n9 n10 n11 n12 n13) {x y d : Nat} (w : Nat) (hx : x ≤ 16) (hy : y ≤ 16) (hd : d ≤ 400) : f_X5_kindOf N n4 n6 n7 (nI (aPC a)) (nI x - 1) (nI y - 1) (nI d) = some (nI (aK (aBear a x y d w) (aPC a))) := by
  have hpc : aPC a ≤ 16 := hok.2.2.2.2.1
  have e5 : aP (aBear a x y d w) (aPC a) = x := nup_s
  unfold f_X5_kindOf
  have t : (nI x - 1 = (-1 : Int32)) ↔ x = 0 := by
    rw [show (-1 : Int32) = nI 0 - 1 from by decide, nI_par2 (by omega) (by omega)]
  unfold aK
  rw [e5]
  by_cases c : x = 0
  · rw [if_pos (t.mpr c), if_pos c]
    rfl
  · obtain ⟨z, z1, z2⟩ := kd6_loop N hok hw (w := w) hx hy hd (aPC a) 0 N (by omega) (by omega)
    rw [if_neg (fun q => c (t.mp q)), if_neg c, zl_let, show (0 : Int32) = nI 0 from rfl, z1]
    have eT : aTw (aBear a x y d w) (aPC a) = true ↔ ∃ k, 0 ≤ k ∧ k < aPC a ∧ twF (aBear a x y d w) (aPC a) k = true := by
      show (List.range (aPC a)).any (twF (aBear a x y d w) (aPC a)) = true ↔ _
      rw [List.any_eq_true]
      constructor
      · rintro ⟨k, k1, k2⟩
        exact ⟨k, by omega, List.mem_range.mp k1, k2⟩
      · rintro ⟨k, _, k1, k2⟩
        exact ⟨k, List.mem_range.mpr k1, k2⟩
    by_cases c2 : aTw (aBear a x y d w) (aPC a) = true
    · rw [if_pos (z2.mpr (eT.mp c2)), if_pos c2]
      rfl
    · rw [if_neg (fun q => c2 (eT.mpr (z2.mp q))), if_neg c2]
      rfl
end
