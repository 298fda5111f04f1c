/-! ===== who is near, of what kind, how many ===== -/
theorem w7_loop (N : Nat) {a : AW} {row : Nat → Int32} {w : Nat → Int64} (hok : zOK a) (hra : zRA a row w 0) {p D : Nat} (hD : D ≤ 16) {far : Nat → Int32} (hfar : ∀ q, q < 16 → far q = frI (fr a p 16 q)) (K : Int32 → Option (Int32 × (Nat → Int32))) : ∀ (e i f : Nat) (v : Int32), i + e = aPC a → e < f → zMs v (fun x => x < i ∧ ∃ n, n ≤ D ∧ fr a p 16 x = some n) → ∃ v', f_X7_within_L10 N K row (nI D) far f v (nI i) = K v' ∧ zMs v' (fun x => x < aPC a ∧ ∃ n, n ≤ D ∧ fr a p 16 x = some n) := by
  have hpc : aPC a ≤ 16 := hok.2.2.2.2.1
  have h38 : row (38 : Int32).toNatClampNeg = nI (aPC a) := hra.2.2.2.2.1
  intro e
  induction e with
  | zero =>
    intro i f v hi hf h
    obtain ⟨f', rfl⟩ : ∃ f', f = f' + 1 := ⟨f - 1, by omega⟩
    refine ⟨v, ?_, by rw [show aPC a = i by omega]; exact h⟩
    rw [f_X7_within_L10_s, h38, if_pos (nI_le (by omega) (by omega))]
  | succ e ih =>
    intro i f v hi hf h
    obtain ⟨f', rfl⟩ : ∃ f', f = f' + 1 := ⟨f - 1, by omega⟩
    have hi16 : i < 16 := by omega
    have step : ∀ x, (∀ y, y < 32 → (bt x y = true ↔ (y = i ∧ ∃ n, n ≤ D ∧ fr a p 16 i = some n))) → ∃ v', f_X7_within_L10 N K row (nI D) far f' (v ||| x) (nI (i + 1)) = K v' ∧ zMs v' (fun x => x < aPC a ∧ ∃ n, n ≤ D ∧ fr a p 16 x = some n) := fun x hx => ih (i + 1) f' _ (by omega) (by omega) (fun y hy => by
      have h1 := h y hy
      have h2 := hx y hy
      rw [b_or, Bool.or_eq_true, h1, h2]
      constructor
      · rintro (q | q)
        · exact ⟨by omega, q.2⟩
        · exact ⟨by omega, by rw [q.1]; exact q.2⟩
      · rintro ⟨q1, q2⟩
        by_cases e : y = i
        · exact Or.inr ⟨e, by rw [← e]; exact q2⟩
        · exact Or.inl ⟨by omega, q2⟩)
    rw [f_X7_within_L10_s, h38, if_neg (nI_ge (by omega) (by omega)), zl_gd (zl_inN hi16 (by decide)), zl_let, zl_cl (by omega), hfar i hi16]
    have none_ok : (¬ ∃ n, n ≤ D ∧ fr a p 16 i = some n) → ∀ y, y < 32 → (bt 0 y = true ↔ (y = i ∧ ∃ n, n ≤ D ∧ fr a p 16 i = some n)) := fun hno y _ => by
      rw [b_0]
      exact ⟨fun q => by (cases q), fun q => absurd q.2 hno⟩
    cases c : fr a p 16 i with
    | none =>
      rw [if_pos (show frI none = -1 from rfl)]
      dsimp only
      rw [zl_let, zl_let, nI_1]
      exact step 0 (none_ok (by
        rintro ⟨n, _, q⟩
        rw [c] at q
        cases q))
    | some n =>
      have hn := fr_le a p 16 i n c
      rw [if_neg (show ¬ frI (some n) = -1 from zl_nm1 (by omega))]
      by_cases c2 : D < n
      · rw [if_pos (show nI D < frI (some n) from nI_lt c2 (by omega))]
        dsimp only
        rw [zl_let, zl_let, nI_1]
        exact step 0 (none_ok (by
          rintro ⟨m, q1, q⟩
          rw [c] at q
          have := Option.some.inj q
          omega))
      · rw [if_neg (show ¬ nI D < frI (some n) from nI_nlt (by omega) (by omega))]
        dsimp only
        rw [zl_let, zl_let, nI_1]
        refine step _ (fun y hy => ?_)
        rw [b_pow (by omega) hy]
        exact ⟨fun q => ⟨q, n, by omega, c⟩, fun q => q.1⟩
theorem w7_eq (N : Nat) (hN : 100000 ≤ N) {a : AW} {row : Nat → Int32} {w : Nat → Int64} (hok : zOK a) (hra : zRA a row w 0) {p D : Nat} (hp : p < aPC a) (hD : D ≤ 16) (far : Nat → Int32) : ∃ v' far', f_X7_within N row far (nI p) (nI D) = some (v', far') ∧ zMs v' (fun x => x < aPC a ∧ ∃ n, n ≤ D ∧ fr a p 16 x = some n) := by
  have hpc : aPC a ≤ 16 := hok.2.2.2.2.1
  obtain ⟨far', e1, h1⟩ := lf_eq N hN hok hra hp far
  unfold f_X7_within
  rw [zl_b1 e1, zl_let]
  obtain ⟨v', e2, h2⟩ := w7_loop N hok hra hD h1 (fun v3_13 => some (v3_13, far')) (aPC a) 0 N 0 (by omega) (by omega) (fun y _ => by
    rw [b_0]
    exact ⟨fun q => by (cases q), fun q => absurd q.1 (by omega)⟩)
  exact ⟨v', far', e2, h2⟩
theorem fr_within {a : AW} {p D x : Nat} (hp : p < aPC a) (hD : D ≤ 16) : (fr a p D x).isSome = true ↔ (x < aPC a ∧ ∃ n, n ≤ D ∧ fr a p 16 x = some n) := by
  constructor
  · intro h
    obtain ⟨n, hn⟩ := fr_some.mp h
    exact ⟨fr_pc hp D x n hn, n, fr_le a p D x n hn, fr_upto hn hD⟩
  · rintro ⟨_, n, h1, h2⟩
    rw [fr_upto (fr_at a p 16 x n h2) h1]
    rfl
theorem ms_eq {v v' : Int32} {S S' : Nat → Prop} (h : zMs v S) (h' : zMs v' S') (e : ∀ x, x < 32 → (S x ↔ S' x)) : v = v' := b_ext (fun i hi => by
  have := (h i hi).trans ((e i hi).trans (h' i hi).symm)
  cases c : bt v i with
  | false =>
    cases c2 : bt v' i with
    | false => rfl
    | true =>
      rw [c, c2] at this
      exact absurd (this.mpr rfl) (by decide)
  | true => exact (this.mp c).symm)
theorem ms_cut {v : Int32} {S : Nat → Prop} (h : zMs v S) {p : Nat} (hp : p < 32) : zMs (v &&& (((1 : Int32) <<< (nI p &&& 31)) ^^^ (-1 : Int32))) (fun x => x ≠ p ∧ S x) := fun x hx => by
  have h1 := h x hx
  have h2 := b_pow hp hx
  rw [b_and, b_xor, b_m1 x hx, Bool.and_eq_true, h1]
  cases c : bt ((1 : Int32) <<< (nI p &&& 31)) x with
  | false =>
    rw [c] at h2
    exact ⟨fun q => ⟨fun e => absurd (h2.mpr e) (by decide), q.1⟩, fun q => ⟨q.2, rfl⟩⟩
  | true =>
    rw [c] at h2
    exact ⟨fun q => absurd q.2 (by decide), fun q => absurd (h2.mp rfl) q.1⟩
theorem near_eq (N : Nat) (hN : 100000 ≤ N) {a : AW} {row : Nat → Int32} {w : Nat → Int64} {par oth kin : Nat → Int32} (hok : zOK a) (hra : zRA a row w 0) (hwa : zKin a par oth kin) {p : Nat} (hp : p < aPC a) (far : Nat → Int32) : ∃ m far', f_X5_nearOf N par oth kin (nI (aPC a)) (nI (aDT a)) (nI p) = some m ∧ f_X7_near N row far (nI p) = some (m, far') ∧ zMs m (fun x => x ≠ p ∧ x < aPC a ∧ ∃ n, n ≤ aDT a ∧ fr a p 16 x = some n) := by
  have hpc : aPC a ≤ 16 := hok.2.2.2.2.1
  have hdt : aDT a ≤ 4 := hok.2.2.2.2.2.2.2.2.2
  have h37 : row (37 : Int32).toNatClampNeg = nI (aDT a) := hra.2.2.2.1
  obtain ⟨v, e1, h1⟩ := wi_eq N hN hok hwa hp (show aDT a ≤ 16 by omega)
  obtain ⟨v', far', e2, h2⟩ := w7_eq N hN hok hra hp (show aDT a ≤ 16 by omega) far
  have e : v = v' := ms_eq h1 h2 (fun x _ => fr_within hp (by omega))
  subst e
  refine ⟨_, far', ?_, ?_, ms_cut h2 (show p < 32 by omega)⟩
  · unfold f_X5_nearOf
    rw [zl_b1 e1]
  · unfold f_X7_near
    rw [h37, zl_b2 e2]
def twF (a : AW) (p k : Nat) : Bool := (aD a k == aD a p) && ((aP a k == aP a p && aO a k == aO a p) || (aP a k == aO a p && aO a k == aP a p))
theorem tw_s (a : AW) (p i : Nat) : (List.range (i + 1)).any (twF a p) = ((List.range i).any (twF a p) || twF a p i) := by
  rw [List.range_succ, List.any_append]
  simp
theorem kd_loop (N : Nat) {a : AW} {row : Nat → Int32} {w : Nat → Int64} (hok : zOK a) (hra : zRA a row w 0) {p : Nat} (hp : p < aPC a) (K : Int32 → Option Int32) : ∀ (e i f : Nat), i + e = p → e < f → f_X7_kindOf_L19 N K row (nI p) f (if (List.range i).any (twF a p) = true then 2 else 1) (nI i) = K (if (List.range p).any (twF a p) = true then 2 else 1) := by
  have hpc : aPC a ≤ 16 := hok.2.2.2.2.1
  intro e
  induction e with
  | zero =>
    intro i f hi hf
    obtain ⟨f', rfl⟩ : ∃ f', f = f' + 1 := ⟨f - 1, by omega⟩
    rw [f_X7_kindOf_L19_s, if_pos (nI_le (by omega) (by omega)), show i = p by omega]
  | succ e ih =>
    intro i f hi hf
    obtain ⟨f', rfl⟩ : ∃ f', f = f' + 1 := ⟨f - 1, by omega⟩
    have ih := ih (i + 1) f' (by omega) (by omega)
    rw [tw_s] at ih
    have bi := hok.2.2.2.2.2.1 i (by omega)
    have bp := hok.2.2.2.2.2.1 p hp
    obtain ⟨i0, i1, i2, _⟩ := zl_p55 hra (show i < aPC a by omega)
    obtain ⟨p0, p1, p2, _⟩ := zl_p55 hra hp
    rw [f_X7_kindOf_L19_s, if_neg (nI_ge (by omega) (by omega))]
    simp only [zl_let]
    rw [show (55 : Int32) = nI 55 from rfl, show (71 : Int32) = nI 71 from rfl, show (39 : Int32) = nI 39 from rfl, nI_add 55 i, nI_add 55 p, nI_add 71 i, nI_add 71 p, nI_add 39 i, nI_add 39 p]
    simp only [zl_gd (zl_inN (show 55 + i < 300 by omega) (by decide)), zl_gd (zl_inN (show 71 + i < 300 by omega) (by decide)), zl_gd (zl_inN (show 55 + p < 300 by omega) (by decide)), zl_gd (zl_inN (show 71 + p < 300 by omega) (by decide)), zl_gd (zl_inN (show 39 + i < 300 by omega) (by decide)), zl_gd (zl_inN (show 39 + p < 300 by omega) (by decide))]
    rw [zl_cl (show 55 + i < 2 ^ 31 by omega), zl_cl (show 71 + i < 2 ^ 31 by omega), zl_cl (show 55 + p < 2 ^ 31 by omega), zl_cl (show 71 + p < 2 ^ 31 by omega), zl_cl (show 39 + i < 2 ^ 31 by omega), zl_cl (show 39 + p < 2 ^ 31 by omega), i0, i1, i2, p0, p1, p2, nI_1]
    have t1 : (nI (aP a i) - 1 = nI (aP a p) - 1) = ((aP a i == aP a p) = true) := propext ((nI_par2 (by omega) (by omega)).trans beq_iff_eq.symm)
    have t2 : (nI (aO a i) - 1 = nI (aO a p) - 1) = ((aO a i == aO a p) = true) := propext ((nI_par2 (by omega) (by omega)).trans beq_iff_eq.symm)
    have t3 : (nI (aP a i) - 1 = nI (aO a p) - 1) = ((aP a i == aO a p) = true) := propext ((nI_par2 (by omega) (by omega)).trans beq_iff_eq.symm)
    have t4 : (nI (aO a i) - 1 = nI (aP a p) - 1) = ((aO a i == aP a p) = true) := propext ((nI_par2 (by omega) (by omega)).trans beq_iff_eq.symm)
    have t5 : (nI (aD a i) = nI (aD a p)) = ((aD a i == aD a p) = true) := propext ((nI_eq (by omega) (by omega)).trans beq_iff_eq.symm)
    simp only [t1, t2, t3, t4, t5]
    unfold twF at ih ⊢
    generalize (aP a i == aP a p) = A1 at ih ⊢
    generalize (aO a i == aO a p) = A2 at ih ⊢
    generalize (aP a i == aO a p) = B1 at ih ⊢
    generalize (aO a i == aP a p) = B2 at ih ⊢
    generalize (aD a i == aD a p) = C at ih ⊢
    generalize ((List.range i).any fun k => aD a k == aD a p && (aP a k == aP a p && aO a k == aO a p || aP a k == aO a p && aO a k == aP a p)) = Z at ih ⊢
    have h10 : ¬ (1 : Int32) = 0 := by decide
    cases A1 <;> cases A2 <;> cases B1 <;> cases B2 <;> cases C <;> cases Z <;> simp [h10] at ih ⊢ <;> exact ih
theorem kd_eq (N : Nat) (hN : 100000 ≤ N) {a : AW} {row : Nat → Int32} {w : Nat → Int64} (hok : zOK a) (hra : zRA a row w 0) {p : Nat} (hp : p < aPC a) : f_X7_kindOf N row (nI p) = some (nI (aK a p)) := by
  have hpc : aPC a ≤ 16 := hok.2.2.2.2.1
  have bp := hok.2.2.2.2.2.1 p hp
  obtain ⟨p0, p1, p2, _⟩ := zl_p55 hra hp
  unfold f_X7_kindOf
  rw [show (55 : Int32) = nI 55 from rfl, nI_add 55 p, zl_gd (zl_inN (show 55 + p < 300 by omega) (by decide)), zl_cl (show 55 + p < 2 ^ 31 by omega), p1]
  have t : (nI (aP a p) - 1 = (-1 : Int32)) ↔ aP a p = 0 := by
    rw [show (-1 : Int32) = nI 0 - 1 from by decide, nI_par2 (by omega) (by omega)]
  unfold aK
  by_cases c : aP a p = 0
  · rw [if_pos (t.mpr c), if_pos c]
    rfl
  · rw [if_neg (fun q => c (t.mp q)), if_neg c, zl_let, show (0 : Int32) = nI 0 from rfl]
    rw [show (1 : Int32) = (if (List.range 0).any (twF a p) = true then 2 else 1) from rfl, kd_loop N hok hra hp (fun v => some v) p 0 N (by omega) (by omega)]
    have e : aTw a p = (List.range p).any (twF a p) := rfl
    rw [e]
    by_cases z : (List.range p).any (twF a p) = true
    · rw [if_pos z, if_pos z]
      rfl
    · rw [if_neg z, if_neg z]
      rfl
