/-! ===== pure rows: who is how far from whom ===== -/
abbrev aNx (a : AW) (p q : Nat) : Prop := aP a p = q + 1 ∨ aO a p = q + 1 ∨ aP a q = p + 1 ∨ aO a q = p + 1
def fr (a : AW) (p : Nat) : Nat → Nat → Option Nat
  | 0, q => if q = p then some 0 else none
  | d + 1, q => if (fr a p d q).isSome then fr a p d q else if q < aPC a ∧ ((List.range (aPC a)).any (fun r => decide (fr a p d r = some d ∧ aNx a r q))) = true then some (d + 1) else none
theorem fr_any (a : AW) (p d q : Nat) : ((List.range (aPC a)).any (fun r => decide (fr a p d r = some d ∧ aNx a r q))) = true ↔ ∃ r, r < aPC a ∧ fr a p d r = some d ∧ aNx a r q := by
  rw [List.any_eq_true]
  constructor
  · rintro ⟨r, h1, h2⟩
    exact ⟨r, List.mem_range.mp h1, of_decide_eq_true h2⟩
  · rintro ⟨r, h1, h2⟩
    exact ⟨r, List.mem_range.mpr h1, decide_eq_true h2⟩
theorem fr_old {a : AW} {p d q n : Nat} (h : fr a p d q = some n) : fr a p (d + 1) q = some n := by
  unfold fr
  rw [if_pos (by rw [h]; rfl), h]
theorem fr_new {a : AW} {p d q r : Nat} (h : fr a p d q = none) (hq : q < aPC a) (hr : r < aPC a) (h1 : fr a p d r = some d) (h2 : aNx a r q) : fr a p (d + 1) q = some (d + 1) := by
  unfold fr
  rw [if_neg (by rw [h]; decide), if_pos ⟨hq, (fr_any a p d q).mpr ⟨r, hr, h1, h2⟩⟩]
theorem fr_not {a : AW} {p d q : Nat} (h : fr a p d q = none) (h1 : ¬ (q < aPC a ∧ ∃ r, r < aPC a ∧ fr a p d r = some d ∧ aNx a r q)) : fr a p (d + 1) q = none := by
  unfold fr
  rw [if_neg (by rw [h]; decide), if_neg (fun w => h1 ⟨w.1, (fr_any a p d q).mp w.2⟩)]
theorem fr_cases (a : AW) (p d q : Nat) : (∃ n, fr a p d q = some n ∧ fr a p (d + 1) q = some n) ∨ (fr a p d q = none ∧ q < aPC a ∧ (∃ r, r < aPC a ∧ fr a p d r = some d ∧ aNx a r q) ∧ fr a p (d + 1) q = some (d + 1)) ∨ (fr a p d q = none ∧ ¬ (q < aPC a ∧ ∃ r, r < aPC a ∧ fr a p d r = some d ∧ aNx a r q) ∧ fr a p (d + 1) q = none) := by
  cases h : fr a p d q with
  | some n => exact Or.inl ⟨n, rfl, fr_old h⟩
  | none =>
    by_cases w : q < aPC a ∧ ∃ r, r < aPC a ∧ fr a p d r = some d ∧ aNx a r q
    · obtain ⟨w1, r, w2, w3, w4⟩ := id w
      exact Or.inr (Or.inl ⟨rfl, w1, w.2, fr_new h w1 w2 w3 w4⟩)
    · exact Or.inr (Or.inr ⟨rfl, w, fr_not h w⟩)
theorem fr_le (a : AW) (p : Nat) : ∀ d q n, fr a p d q = some n → n ≤ d := by
  intro d
  induction d with
  | zero =>
    intro q n h
    unfold fr at h
    by_cases e : q = p
    · rw [if_pos e] at h
      cases h
      exact Nat.le_refl 0
    · rw [if_neg e] at h
      cases h
  | succ d ih =>
    intro q n h
    rcases fr_cases a p d q with ⟨m, h1, h2⟩ | ⟨_, _, _, h2⟩ | ⟨_, _, h2⟩
    · rw [h2] at h
      have e := Option.some.inj h
      exact Nat.le_succ_of_le (ih q n (e ▸ h1))
    · rw [h2] at h
      cases h
      exact Nat.le_refl _
    · rw [h2] at h
      cases h
theorem fr_up {a : AW} {p d q n : Nat} (h : fr a p d q = some n) : ∀ k, fr a p (d + k) q = some n := by
  intro k
  induction k with
  | zero => exact h
  | succ k ih => exact fr_old ih
theorem fr_upto {a : AW} {p d q n e : Nat} (h : fr a p d q = some n) (he : d ≤ e) : fr a p e q = some n := by
  have := fr_up h (e - d)
  rwa [show d + (e - d) = e by omega] at this
theorem fr_at (a : AW) (p : Nat) : ∀ d q n, fr a p d q = some n → fr a p n q = some n := by
  intro d
  induction d with
  | zero =>
    intro q n h
    have := fr_le a p 0 q n h
    rwa [show n = 0 by omega] at h ⊢
  | succ d ih =>
    intro q n h
    rcases fr_cases a p d q with ⟨m, h1, h2⟩ | ⟨_, _, _, h2⟩ | ⟨_, _, h2⟩
    · rw [h2] at h
      have e := Option.some.inj h
      exact ih q n (e ▸ h1)
    · have e := h2.symm.trans h
      have e := Option.some.inj e
      rw [← e]
      exact h2
    · rw [h2] at h
      cases h
theorem fr_pc {a : AW} {p : Nat} (hp : p < aPC a) : ∀ d q n, fr a p d q = some n → q < aPC a := by
  intro d
  induction d with
  | zero =>
    intro q n h
    unfold fr at h
    by_cases e : q = p
    · omega
    · rw [if_neg e] at h
      cases h
  | succ d ih =>
    intro q n h
    rcases fr_cases a p d q with ⟨m, h1, h2⟩ | ⟨_, h1, _, h2⟩ | ⟨_, _, h2⟩
    · exact ih q m h1
    · exact h1
    · rw [h2] at h
      cases h
theorem fr_some {x : Option Nat} : x.isSome = true ↔ ∃ n, x = some n := by
  cases x with
  | none => exact ⟨fun h => by (cases h), fun ⟨n, h⟩ => by (cases h)⟩
  | some n => exact ⟨fun _ => ⟨n, rfl⟩, fun _ => rfl⟩
theorem fr_step {a : AW} {p d q : Nat} (hq : q < aPC a) : (fr a p (d + 1) q).isSome = true ↔ ((fr a p d q).isSome = true ∨ ∃ r, r < aPC a ∧ (fr a p d r).isSome = true ∧ aNx a r q) := by
  constructor
  · intro h
    rcases fr_cases a p d q with ⟨m, h1, h2⟩ | ⟨_, _, ⟨r, r1, r2, r3⟩, h2⟩ | ⟨_, _, h2⟩
    · exact Or.inl (by rw [h1]; rfl)
    · exact Or.inr ⟨r, r1, by rw [r2]; rfl, r3⟩
    · rw [h2] at h
      cases h
  · rintro (h | ⟨r, r1, r2, r3⟩)
    · obtain ⟨n, h⟩ := fr_some.mp h
      rw [fr_old h]
      rfl
    · obtain ⟨m, r2⟩ := fr_some.mp r2
      have hm := fr_le a p d r m r2
      have r4 := fr_at a p d r m r2
      have key : ∃ n, fr a p (m + 1) q = some n := by
        cases h : fr a p m q with
        | some n => exact ⟨n, fr_old h⟩
        | none => exact ⟨m + 1, fr_new h hq r1 r4 r3⟩
      obtain ⟨n, key⟩ := key
      rw [fr_upto key (show m + 1 ≤ d + 1 by omega)]
      rfl
theorem fr_way {a : AW} {p : Nat} (hp : p < aPC a) : ∀ n, (∃ q, fr a p n q = some n) → ∀ i, i ≤ n → ∃ r, r < aPC a ∧ fr a p i r = some i := by
  intro n
  induction n with
  | zero =>
    rintro ⟨q, h⟩ i hi
    rw [show i = 0 by omega]
    exact ⟨q, fr_pc hp 0 q 0 h, h⟩
  | succ n ih =>
    rintro ⟨q, h⟩ i hi
    by_cases e : i = n + 1
    · subst e
      exact ⟨q, fr_pc hp _ q _ h, h⟩
    · rcases fr_cases a p n q with ⟨m, h1, h2⟩ | ⟨_, _, ⟨r, r1, r2, r3⟩, h2⟩ | ⟨_, _, h2⟩
      · rw [h2] at h
        have := fr_le a p n q m h1
        cases h
        omega
      · exact ih ⟨r, r2⟩ i (by omega)
      · rw [h2] at h
        cases h
theorem fr_small {a : AW} {p d q n : Nat} (hp : p < aPC a) (h : fr a p d q = some n) : n < aPC a := by
  have h0 := fr_way hp n ⟨q, fr_at a p d q n h⟩
  have h1 : ∀ i, ∃ r, i ≤ n → (r < aPC a ∧ fr a p i r = some i) := fun i => by
    by_cases hi : i ≤ n
    · obtain ⟨r, hr⟩ := h0 i hi
      exact ⟨r, fun _ => hr⟩
    · exact ⟨0, fun q => absurd q hi⟩
  obtain ⟨f, hf⟩ := Classical.axiomOfChoice h1
  have := fb_holes (aPC a) (n + 1) f (fun i hi => (hf i (by omega)).1) (fun i j hij hj e => by
    have e1 := fr_upto (hf i (by omega)).2 (show i ≤ j by omega)
    have e2 := (hf j (by omega)).2
    rw [e, e2] at e1
    cases e1
    omega)
  omega
