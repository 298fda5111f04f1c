/-! ===== the sets of persons as bits ===== -/
def zMs (v : Int32) (S : Nat → Prop) : Prop := ∀ x, x < 32 → (bt v x = true ↔ S x)
theorem b_one : ∀ j, j < 32 → bt 1 j = decide (j = 0) := by decide +kernel
theorem b_pow {n i : Nat} (hn : n < 32) (hi : i < 32) : (bt ((1 : Int32) <<< (nI n &&& 31)) i = true) ↔ i = n := by
  rw [b_shl n hn 1 hi, b_one _ (by omega)]
  constructor
  · intro h
    rw [Bool.and_eq_true] at h
    have h1 := of_decide_eq_true h.1
    have h2 := of_decide_eq_true h.2
    omega
  · intro h
    subst h
    rw [Bool.and_eq_true]
    exact ⟨decide_eq_true (by omega), decide_eq_true (by omega)⟩
theorem b_test {v : Int32} {n : Nat} (hn : n < 32) : ((v >>> (nI n &&& 31)) &&& (1 : Int32)) = 0 ↔ bt v n = false := by
  have h0 : bt ((v >>> (nI n &&& 31)) &&& (1 : Int32)) 0 = bt v n := by
    rw [b_and, b_sshr n hn v (by decide), if_pos (by omega), b_one 0 (by decide)]
    rw [show n + 0 = n from rfl, show decide (0 = 0) = true from rfl, Bool.and_true]
  constructor
  · intro h
    rw [h, b_0] at h0
    exact h0.symm
  · intro h
    refine b_ext (fun i hi => ?_)
    rw [b_0]
    by_cases e : i = 0
    · subst e
      rw [h0, h]
    · rw [b_and, b_one i hi, show decide (i = 0) = false from decide_eq_false e, Bool.and_false]
theorem b_none {x y : Int32} : x &&& y = 0 ↔ ∀ i, i < 32 → ¬ (bt x i = true ∧ bt y i = true) := by
  constructor
  · intro h i hi q
    have := congrArg (fun z => bt z i) h
    replace this : bt (x &&& y) i = bt 0 i := this
    rw [b_and, q.1, q.2, b_0] at this
    cases this
  · intro h
    refine b_ext (fun i hi => ?_)
    rw [b_and, b_0]
    have := h i hi
    cases h1 : bt x i with
    | false => rfl
    | true =>
      cases h2 : bt y i with
      | false => rfl
      | true => exact absurd ⟨h1, h2⟩ this
def oS (a : AW) (S : Nat → Prop) (i x : Nat) : Prop := S x ∨ ∃ q, q < i ∧ aP a q ≠ 0 ∧ ((x = q ∧ (S (aP a q - 1) ∨ S (aO a q - 1))) ∨ (S q ∧ (x + 1 = aP a q ∨ x + 1 = aO a q)))
theorem os_loop (N : Nat) {a : AW} {par oth kin : Nat → Int32} (hok : zOK a) (hwa : ∀ p, p < aPC a → par p = nI (aP a p) - 1 ∧ oth p = nI (aO a p) - 1 ∧ kin p = nI (aK a p)) (v : Int32) (S : Nat → Prop) (hS : zMs v S) (k : Int32 → Option Int32) : ∀ (d i f : Nat) (v2 : Int32), i + d = aPC a → d < f → zMs v2 (oS a S i) → ∃ v', f_X5_oneStepMore_L4 N k par oth kin (nI (aPC a)) v f v2 (nI i) = k v' ∧ zMs v' (oS a S (aPC a)) := by
  have hpc : aPC a ≤ 16 := hok.2.2.2.2.1
  intro d
  induction d with
  | zero =>
    intro i f v2 hi hf h
    obtain ⟨f', rfl⟩ : ∃ f', f = f' + 1 := ⟨f - 1, by omega⟩
    refine ⟨v2, ?_, by rw [show aPC a = i by omega]; exact h⟩
    rw [f_X5_oneStepMore_L4_s, if_pos (nI_le (by omega) (by omega))]
  | succ d ih =>
    intro i f v2 hi hf h
    obtain ⟨f', rfl⟩ : ∃ f', f = f' + 1 := ⟨f - 1, by omega⟩
    obtain ⟨e1, e2, e3⟩ := hwa i (by omega)
    have hi16 : i < 16 := by omega
    rw [f_X5_oneStepMore_L4_s, if_neg (nI_ge (by omega) (by omega)), zl_gd (zl_inN hi16 (by decide)), zl_let, zl_cl (by omega), e1, e2, e3, nI_1]
    by_cases c : aP a i = 0
    · have ek : aK a i = 0 := if_pos c
      rw [ek, if_pos (show nI 0 = 0 from rfl)]
      refine ih (i + 1) f' v2 (by omega) (by omega) (fun x hx => ?_)
      rw [h x hx]
      unfold oS
      constructor
      · rintro (q | ⟨q, q1, q2⟩)
        · exact Or.inl q
        · exact Or.inr ⟨q, by omega, q2⟩
      · rintro (q | ⟨q, q1, q2⟩)
        · exact Or.inl q
        · by_cases e : q = i
          · subst e
            exact absurd c q2.1
          · exact Or.inr ⟨q, by omega, q2⟩
    · have hpo := (hok.2.2.2.2.2.1 i (by omega)).2.2.2
      have hpo : 1 ≤ aP a i ∧ aP a i ≤ i ∧ 1 ≤ aO a i ∧ aO a i ≤ i ∧ aP a i ≠ aO a i := by
        rcases hpo with q | q
        · exact absurd q.1 c
        · exact q
      have ek : ¬ nI (aK a i) = 0 := by
        unfold aK
        rw [if_neg c]
        by_cases t : aTw a i = true
        · rw [if_pos t]; decide
        · rw [if_neg t]; decide
      rw [if_neg ek, show (1 : Int32) = nI 1 from rfl, pk_sub hpo.1, pk_sub hpo.2.2.1, show nI 1 = (1 : Int32) from rfl, zl_let, zl_let]
      obtain ⟨w, hw⟩ : ∃ w, (((1 : Int32) <<< (nI (aP a i - 1) &&& 31)) ||| ((1 : Int32) <<< (nI (aO a i - 1) &&& 31))) = w := ⟨_, rfl⟩
      have bw : ∀ x, x < 32 → (bt w x = true ↔ (x + 1 = aP a i ∨ x + 1 = aO a i)) := fun x hx => by
        rw [← hw, b_or, Bool.or_eq_true, b_pow (by omega) hx, b_pow (by omega) hx]
        omega
      rw [hw]
      have c1 : (v &&& w) = 0 ↔ ¬ (S (aP a i - 1) ∨ S (aO a i - 1)) := by
        rw [b_none]
        constructor
        · rintro q (r | r)
          · exact q (aP a i - 1) (by omega) ⟨(hS _ (by omega)).mpr r, (bw _ (by omega)).mpr (by omega)⟩
          · exact q (aO a i - 1) (by omega) ⟨(hS _ (by omega)).mpr r, (bw _ (by omega)).mpr (by omega)⟩
        · intro q x hx r
          have r1 := (hS x hx).mp r.1
          rcases (bw x hx).mp r.2 with e | e
          · exact q (Or.inl (by rw [show aP a i - 1 = x by omega]; exact r1))
          · exact q (Or.inr (by rw [show aO a i - 1 = x by omega]; exact r1))
      have c2 : ((v >>> (nI i &&& 31)) &&& (1 : Int32)) = 0 ↔ ¬ S i := by
        rw [b_test (by omega), ← hS i (by omega)]
        cases bt v i
        · exact ⟨fun _ q => by (cases q), fun _ => rfl⟩
        · exact ⟨fun q => by (cases q), fun q => absurd rfl q⟩
      have fin : ∀ (x10 x14 : Int32), (∀ x, x < 32 → (bt x10 x = true ↔ (x = i ∧ (S (aP a i - 1) ∨ S (aO a i - 1))))) → (∀ x, x < 32 → (bt x14 x = true ↔ (S i ∧ (x + 1 = aP a i ∨ x + 1 = aO a i)))) → ∃ v', f_X5_oneStepMore_L4 N k par oth kin (nI (aPC a)) v f' ((v2 ||| x10) ||| x14) (nI (i + 1)) = k v' ∧ zMs v' (oS a S (aPC a)) := by
        intro x10 x14 h10 h14
        refine ih (i + 1) f' _ (by omega) (by omega) (fun x hx => ?_)
        rw [b_or, b_or, Bool.or_eq_true, Bool.or_eq_true, h x hx, h10 x hx, h14 x hx]
        unfold oS
        constructor
        · rintro (((q | ⟨q, q1, q2⟩) | q) | q)
          · exact Or.inl q
          · exact Or.inr ⟨q, by omega, q2⟩
          · exact Or.inr ⟨i, by omega, c, Or.inl q⟩
          · exact Or.inr ⟨i, by omega, c, Or.inr q⟩
        · rintro (q | ⟨q, q1, q2⟩)
          · exact Or.inl (Or.inl (Or.inl q))
          · by_cases e : q = i
            · subst e
              rcases q2.2 with r | r
              · exact Or.inl (Or.inr r)
              · exact Or.inr r
            · exact Or.inl (Or.inl (Or.inr ⟨q, by omega, q2⟩))
      have h0 : ∀ (Q : Nat → Prop), (∀ x, ¬ Q x) → ∀ x, x < 32 → (bt 0 x = true ↔ Q x) := fun Q hQ x _ => by
        rw [b_0]
        exact ⟨fun q => by (cases q), fun q => absurd q (hQ x)⟩
      by_cases d1 : (v &&& w) = 0
      · rw [if_pos d1]
        dsimp only
        rw [zl_let, zl_let]
        by_cases d2 : ((v >>> (nI i &&& 31)) &&& (1 : Int32)) = 0
        · rw [if_pos d2]
          dsimp only
          rw [zl_let, zl_let]
          exact fin 0 0 (h0 _ (fun x q => c1.mp d1 q.2)) (h0 _ (fun x q => c2.mp d2 q.1))
        · rw [if_neg d2]
          dsimp only
          rw [zl_let, zl_let]
          have hs : S i := Classical.byContradiction (fun q => d2 (c2.mpr q))
          exact fin 0 w (h0 _ (fun x q => c1.mp d1 q.2)) (fun x hx => by rw [bw x hx]; exact ⟨fun q => ⟨hs, q⟩, fun q => q.2⟩)
      · rw [if_neg d1]
        dsimp only
        rw [zl_let, zl_let]
        have hs1 : S (aP a i - 1) ∨ S (aO a i - 1) := Classical.byContradiction (fun q => d1 (c1.mpr q))
        have h10 : ∀ x, x < 32 → (bt ((1 : Int32) <<< (nI i &&& 31)) x = true ↔ (x = i ∧ (S (aP a i - 1) ∨ S (aO a i - 1)))) := fun x hx => by
          rw [b_pow (by omega) hx]
          exact ⟨fun q => ⟨q, hs1⟩, fun q => q.1⟩
        by_cases d2 : ((v >>> (nI i &&& 31)) &&& (1 : Int32)) = 0
        · rw [if_pos d2]
          dsimp only
          rw [zl_let, zl_let]
          exact fin _ 0 h10 (h0 _ (fun x q => c2.mp d2 q.1))
        · rw [if_neg d2]
          dsimp only
          rw [zl_let, zl_let]
          have hs : S i := Classical.byContradiction (fun q => d2 (c2.mpr q))
          exact fin _ w h10 (fun x hx => by rw [bw x hx]; exact ⟨fun q => ⟨hs, q⟩, fun q => q.2⟩)
