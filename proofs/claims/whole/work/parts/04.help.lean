/-! ===== pure programs: what a method computes, as a partial function; 'some' says that nothing is thrown and every loop ends within its fuel ===== -/
def zz_fuel : Nat := 1048576
def zz_let {α β : Type} (a : α) (k : α → β) : β := k a
def zz_gd {α : Type} (b : Bool) (k : Option α) : Option α := if b = true then k else none
def zz_in (i : Int32) (n : Nat) : Bool := decide (0 ≤ i.toInt ∧ i.toInt < n)
def zz_isB (v : Int32) : Bool := decide (v = 0 ∨ v = 1)
theorem zz_let_eq {α β : Type} {a x : α} {k : α → β} {o : β} (h : zz_let a k = o) (e : x = a) : k x = o := by subst e; exact h
theorem zz_let_use {α β : Type} {a : α} {k : α → β} {o : β} (h : zz_let a k = o) : ∃ x, a = x ∧ k x = o := ⟨a, rfl, h⟩
theorem zz_gd_use {α : Type} {b : Bool} {k : Option α} {o : α} (h : zz_gd b k = some o) : b = true ∧ k = some o := by
  unfold zz_gd at h
  by_cases hb : b = true
  · rw [if_pos hb] at h; exact ⟨hb, h⟩
  · rw [if_neg hb] at h; cases h
theorem zz_it {α : Type} {c : Prop} {h : Decidable c} {a b o : α} (hf : @ite α c h a b = o) (hc : c) : a = o := by rw [← hf, if_pos hc]
theorem zz_if {α : Type} {c : Prop} {h : Decidable c} {a b o : α} (hf : @ite α c h a b = o) (hc : ¬ c) : b = o := by rw [← hf, if_neg hc]
theorem zz_in_ok {i : Int32} {n : Nat} (h : zz_in i n = true) : vp_in i n := vp_in_iff.mpr (of_decide_eq_true h)
theorem zz_isB_ok {v : Int32} (h : zz_isB v = true) : narrow .boolean (.int v) = .int v := by
  rcases of_decide_eq_true h with e | e <;> subst e <;> rfl
theorem zz_isB_fit {v : Int32} (h : zz_isB v = true) : fits .boolean (.int v) = true := by
  rcases of_decide_eq_true h with e | e <;> subst e <;> rfl
theorem zz_ne_of {b : Bool} {c : Prop} {h : Decidable c} (hb : b = @decide c h) (ht : b = true) : c := of_decide_eq_true (hb ▸ ht)
def zz_b1 {A1 B : Type} (x : Option (A1)) (k : A1 → Option B) : Option B := x.bind (fun q => k q)
theorem zz_b1_use {A1 B : Type} {x : Option (A1)} {k : A1 → Option B} {o : B} (h : zz_b1 x k = some o) : ∃ a1, x = some a1 ∧ k a1 = some o := by
  cases x with
  | none => cases h
  | some q => exact ⟨q, rfl, h⟩
theorem zz_b1_some {A1 B : Type} {a1 : A1} {k : A1 → Option B} : zz_b1 (some a1) k = k a1 := rfl
def zz_s1 {A1 B : Type} (x : Option (B ⊕ (A1))) (k : A1 → Option B) : Option B := x.bind (fun q => match q with | .inl b => some b | .inr q => k q)
theorem zz_s1_use {A1 B : Type} {x : Option (B ⊕ (A1))} {k : A1 → Option B} {o : B} (h : zz_s1 x k = some o) : ∃ r, x = some r ∧ zz_s1 (some r) k = some o := by
  cases x with
  | none => cases h
  | some q => exact ⟨q, rfl, h⟩
theorem zz_s1_r {A1 B : Type} {a1 : A1} {k : A1 → Option B} {o : B} {r : B ⊕ (A1)} (h : zz_s1 (some r) k = some o) (e : r = .inr a1) : k a1 = some o := by subst e; exact h
theorem zz_s1_l {A1 B : Type} {b : B} {k : A1 → Option B} {o : B} {r : B ⊕ (A1)} (h : zz_s1 (some r) k = some o) (e : r = .inl b) : b = o := by subst e; exact Option.some.inj h
def zz_b2 {A1 A2 B : Type} (x : Option (A1 × A2)) (k : A1 → A2 → Option B) : Option B := x.bind (fun q => k q.1 q.2)
theorem zz_b2_use {A1 A2 B : Type} {x : Option (A1 × A2)} {k : A1 → A2 → Option B} {o : B} (h : zz_b2 x k = some o) : ∃ a1 a2, x = some (a1, a2) ∧ k a1 a2 = some o := by
  cases x with
  | none => cases h
  | some q => exact ⟨q.1, q.2, rfl, h⟩
theorem zz_b2_some {A1 A2 B : Type} {a1 : A1} {a2 : A2} {k : A1 → A2 → Option B} : zz_b2 (some (a1, a2)) k = k a1 a2 := rfl
def zz_s2 {A1 A2 B : Type} (x : Option (B ⊕ (A1 × A2))) (k : A1 → A2 → Option B) : Option B := x.bind (fun q => match q with | .inl b => some b | .inr q => k q.1 q.2)
theorem zz_s2_use {A1 A2 B : Type} {x : Option (B ⊕ (A1 × A2))} {k : A1 → A2 → Option B} {o : B} (h : zz_s2 x k = some o) : ∃ r, x = some r ∧ zz_s2 (some r) k = some o := by
  cases x with
  | none => cases h
  | some q => exact ⟨q, rfl, h⟩
theorem zz_s2_r {A1 A2 B : Type} {a1 : A1} {a2 : A2} {k : A1 → A2 → Option B} {o : B} {r : B ⊕ (A1 × A2)} (h : zz_s2 (some r) k = some o) (e : r = .inr (a1, a2)) : k a1 a2 = some o := by subst e; exact h
theorem zz_s2_l {A1 A2 B : Type} {b : B} {k : A1 → A2 → Option B} {o : B} {r : B ⊕ (A1 × A2)} (h : zz_s2 (some r) k = some o) (e : r = .inl b) : b = o := by subst e; exact Option.some.inj h
def zz_b3 {A1 A2 A3 B : Type} (x : Option (A1 × A2 × A3)) (k : A1 → A2 → A3 → Option B) : Option B := x.bind (fun q => k q.1 q.2.1 q.2.2)
theorem zz_b3_use {A1 A2 A3 B : Type} {x : Option (A1 × A2 × A3)} {k : A1 → A2 → A3 → Option B} {o : B} (h : zz_b3 x k = some o) : ∃ a1 a2 a3, x = some (a1, a2, a3) ∧ k a1 a2 a3 = some o := by
  cases x with
  | none => cases h
  | some q => exact ⟨q.1, q.2.1, q.2.2, rfl, h⟩
theorem zz_b3_some {A1 A2 A3 B : Type} {a1 : A1} {a2 : A2} {a3 : A3} {k : A1 → A2 → A3 → Option B} : zz_b3 (some (a1, a2, a3)) k = k a1 a2 a3 := rfl
def zz_s3 {A1 A2 A3 B : Type} (x : Option (B ⊕ (A1 × A2 × A3))) (k : A1 → A2 → A3 → Option B) : Option B := x.bind (fun q => match q with | .inl b => some b | .inr q => k q.1 q.2.1 q.2.2)
theorem zz_s3_use {A1 A2 A3 B : Type} {x : Option (B ⊕ (A1 × A2 × A3))} {k : A1 → A2 → A3 → Option B} {o : B} (h : zz_s3 x k = some o) : ∃ r, x = some r ∧ zz_s3 (some r) k = some o := by
  cases x with
  | none => cases h
  | some q => exact ⟨q, rfl, h⟩
theorem zz_s3_r {A1 A2 A3 B : Type} {a1 : A1} {a2 : A2} {a3 : A3} {k : A1 → A2 → A3 → Option B} {o : B} {r : B ⊕ (A1 × A2 × A3)} (h : zz_s3 (some r) k = some o) (e : r = .inr (a1, a2, a3)) : k a1 a2 a3 = some o := by subst e; exact h
theorem zz_s3_l {A1 A2 A3 B : Type} {b : B} {k : A1 → A2 → A3 → Option B} {o : B} {r : B ⊕ (A1 × A2 × A3)} (h : zz_s3 (some r) k = some o) (e : r = .inl b) : b = o := by subst e; exact Option.some.inj h
def zz_b4 {A1 A2 A3 A4 B : Type} (x : Option (A1 × A2 × A3 × A4)) (k : A1 → A2 → A3 → A4 → Option B) : Option B := x.bind (fun q => k q.1 q.2.1 q.2.2.1 q.2.2.2)
theorem zz_b4_use {A1 A2 A3 A4 B : Type} {x : Option (A1 × A2 × A3 × A4)} {k : A1 → A2 → A3 → A4 → Option B} {o : B} (h : zz_b4 x k = some o) : ∃ a1 a2 a3 a4, x = some (a1, a2, a3, a4) ∧ k a1 a2 a3 a4 = some o := by
  cases x with
  | none => cases h
  | some q => exact ⟨q.1, q.2.1, q.2.2.1, q.2.2.2, rfl, h⟩
theorem zz_b4_some {A1 A2 A3 A4 B : Type} {a1 : A1} {a2 : A2} {a3 : A3} {a4 : A4} {k : A1 → A2 → A3 → A4 → Option B} : zz_b4 (some (a1, a2, a3, a4)) k = k a1 a2 a3 a4 := rfl
def zz_s4 {A1 A2 A3 A4 B : Type} (x : Option (B ⊕ (A1 × A2 × A3 × A4))) (k : A1 → A2 → A3 → A4 → Option B) : Option B := x.bind (fun q => match q with | .inl b => some b | .inr q => k q.1 q.2.1 q.2.2.1 q.2.2.2)
theorem zz_s4_use {A1 A2 A3 A4 B : Type} {x : Option (B ⊕ (A1 × A2 × A3 × A4))} {k : A1 → A2 → A3 → A4 → Option B} {o : B} (h : zz_s4 x k = some o) : ∃ r, x = some r ∧ zz_s4 (some r) k = some o := by
  cases x with
  | none => cases h
  | some q => exact ⟨q, rfl, h⟩
theorem zz_s4_r {A1 A2 A3 A4 B : Type} {a1 : A1} {a2 : A2} {a3 : A3} {a4 : A4} {k : A1 → A2 → A3 → A4 → Option B} {o : B} {r : B ⊕ (A1 × A2 × A3 × A4)} (h : zz_s4 (some r) k = some o) (e : r = .inr (a1, a2, a3, a4)) : k a1 a2 a3 a4 = some o := by subst e; exact h
theorem zz_s4_l {A1 A2 A3 A4 B : Type} {b : B} {k : A1 → A2 → A3 → A4 → Option B} {o : B} {r : B ⊕ (A1 × A2 × A3 × A4)} (h : zz_s4 (some r) k = some o) (e : r = .inl b) : b = o := by subst e; exact Option.some.inj h
def zz_b5 {A1 A2 A3 A4 A5 B : Type} (x : Option (A1 × A2 × A3 × A4 × A5)) (k : A1 → A2 → A3 → A4 → A5 → Option B) : Option B := x.bind (fun q => k q.1 q.2.1 q.2.2.1 q.2.2.2.1 q.2.2.2.2)
theorem zz_b5_use {A1 A2 A3 A4 A5 B : Type} {x : Option (A1 × A2 × A3 × A4 × A5)} {k : A1 → A2 → A3 → A4 → A5 → Option B} {o : B} (h : zz_b5 x k = some o) : ∃ a1 a2 a3 a4 a5, x = some (a1, a2, a3, a4, a5) ∧ k a1 a2 a3 a4 a5 = some o := by
  cases x with
  | none => cases h
  | some q => exact ⟨q.1, q.2.1, q.2.2.1, q.2.2.2.1, q.2.2.2.2, rfl, h⟩
theorem zz_b5_some {A1 A2 A3 A4 A5 B : Type} {a1 : A1} {a2 : A2} {a3 : A3} {a4 : A4} {a5 : A5} {k : A1 → A2 → A3 → A4 → A5 → Option B} : zz_b5 (some (a1, a2, a3, a4, a5)) k = k a1 a2 a3 a4 a5 := rfl
def zz_s5 {A1 A2 A3 A4 A5 B : Type} (x : Option (B ⊕ (A1 × A2 × A3 × A4 × A5))) (k : A1 → A2 → A3 → A4 → A5 → Option B) : Option B := x.bind (fun q => match q with | .inl b => some b | .inr q => k q.1 q.2.1 q.2.2.1 q.2.2.2.1 q.2.2.2.2)
theorem zz_s5_use {A1 A2 A3 A4 A5 B : Type} {x : Option (B ⊕ (A1 × A2 × A3 × A4 × A5))} {k : A1 → A2 → A3 → A4 → A5 → Option B} {o : B} (h : zz_s5 x k = some o) : ∃ r, x = some r ∧ zz_s5 (some r) k = some o := by
  cases x with
  | none => cases h
  | some q => exact ⟨q, rfl, h⟩
theorem zz_s5_r {A1 A2 A3 A4 A5 B : Type} {a1 : A1} {a2 : A2} {a3 : A3} {a4 : A4} {a5 : A5} {k : A1 → A2 → A3 → A4 → A5 → Option B} {o : B} {r : B ⊕ (A1 × A2 × A3 × A4 × A5)} (h : zz_s5 (some r) k = some o) (e : r = .inr (a1, a2, a3, a4, a5)) : k a1 a2 a3 a4 a5 = some o := by subst e; exact h
theorem zz_s5_l {A1 A2 A3 A4 A5 B : Type} {b : B} {k : A1 → A2 → A3 → A4 → A5 → Option B} {o : B} {r : B ⊕ (A1 × A2 × A3 × A4 × A5)} (h : zz_s5 (some r) k = some o) (e : r = .inl b) : b = o := by subst e; exact Option.some.inj h
def zz_b6 {A1 A2 A3 A4 A5 A6 B : Type} (x : Option (A1 × A2 × A3 × A4 × A5 × A6)) (k : A1 → A2 → A3 → A4 → A5 → A6 → Option B) : Option B := x.bind (fun q => k q.1 q.2.1 q.2.2.1 q.2.2.2.1 q.2.2.2.2.1 q.2.2.2.2.2)
theorem zz_b6_use {A1 A2 A3 A4 A5 A6 B : Type} {x : Option (A1 × A2 × A3 × A4 × A5 × A6)} {k : A1 → A2 → A3 → A4 → A5 → A6 → Option B} {o : B} (h : zz_b6 x k = some o) : ∃ a1 a2 a3 a4 a5 a6, x = some (a1, a2, a3, a4, a5, a6) ∧ k a1 a2 a3 a4 a5 a6 = some o := by
  cases x with
  | none => cases h
  | some q => exact ⟨q.1, q.2.1, q.2.2.1, q.2.2.2.1, q.2.2.2.2.1, q.2.2.2.2.2, rfl, h⟩
theorem zz_b6_some {A1 A2 A3 A4 A5 A6 B : Type} {a1 : A1} {a2 : A2} {a3 : A3} {a4 : A4} {a5 : A5} {a6 : A6} {k : A1 → A2 → A3 → A4 → A5 → A6 → Option B} : zz_b6 (some (a1, a2, a3, a4, a5, a6)) k = k a1 a2 a3 a4 a5 a6 := rfl
def zz_s6 {A1 A2 A3 A4 A5 A6 B : Type} (x : Option (B ⊕ (A1 × A2 × A3 × A4 × A5 × A6))) (k : A1 → A2 → A3 → A4 → A5 → A6 → Option B) : Option B := x.bind (fun q => match q with | .inl b => some b | .inr q => k q.1 q.2.1 q.2.2.1 q.2.2.2.1 q.2.2.2.2.1 q.2.2.2.2.2)
theorem zz_s6_use {A1 A2 A3 A4 A5 A6 B : Type} {x : Option (B ⊕ (A1 × A2 × A3 × A4 × A5 × A6))} {k : A1 → A2 → A3 → A4 → A5 → A6 → Option B} {o : B} (h : zz_s6 x k = some o) : ∃ r, x = some r ∧ zz_s6 (some r) k = some o := by
  cases x with
  | none => cases h
  | some q => exact ⟨q, rfl, h⟩
theorem zz_s6_r {A1 A2 A3 A4 A5 A6 B : Type} {a1 : A1} {a2 : A2} {a3 : A3} {a4 : A4} {a5 : A5} {a6 : A6} {k : A1 → A2 → A3 → A4 → A5 → A6 → Option B} {o : B} {r : B ⊕ (A1 × A2 × A3 × A4 × A5 × A6)} (h : zz_s6 (some r) k = some o) (e : r = .inr (a1, a2, a3, a4, a5, a6)) : k a1 a2 a3 a4 a5 a6 = some o := by subst e; exact h
theorem zz_s6_l {A1 A2 A3 A4 A5 A6 B : Type} {b : B} {k : A1 → A2 → A3 → A4 → A5 → A6 → Option B} {o : B} {r : B ⊕ (A1 × A2 × A3 × A4 × A5 × A6)} (h : zz_s6 (some r) k = some o) (e : r = .inl b) : b = o := by subst e; exact Option.some.inj h
def zz_b7 {A1 A2 A3 A4 A5 A6 A7 B : Type} (x : Option (A1 × A2 × A3 × A4 × A5 × A6 × A7)) (k : A1 → A2 → A3 → A4 → A5 → A6 → A7 → Option B) : Option B := x.bind (fun q => k q.1 q.2.1 q.2.2.1 q.2.2.2.1 q.2.2.2.2.1 q.2.2.2.2.2.1 q.2.2.2.2.2.2)
theorem zz_b7_use {A1 A2 A3 A4 A5 A6 A7 B : Type} {x : Option (A1 × A2 × A3 × A4 × A5 × A6 × A7)} {k : A1 → A2 → A3 → A4 → A5 → A6 → A7 → Option B} {o : B} (h : zz_b7 x k = some o) : ∃ a1 a2 a3 a4 a5 a6 a7, x = some (a1, a2, a3, a4, a5, a6, a7) ∧ k a1 a2 a3 a4 a5 a6 a7 = some o := by
  cases x with
  | none => cases h
  | some q => exact ⟨q.1, q.2.1, q.2.2.1, q.2.2.2.1, q.2.2.2.2.1, q.2.2.2.2.2.1, q.2.2.2.2.2.2, rfl, h⟩
theorem zz_b7_some {A1 A2 A3 A4 A5 A6 A7 B : Type} {a1 : A1} {a2 : A2} {a3 : A3} {a4 : A4} {a5 : A5} {a6 : A6} {a7 : A7} {k : A1 → A2 → A3 → A4 → A5 → A6 → A7 → Option B} : zz_b7 (some (a1, a2, a3, a4, a5, a6, a7)) k = k a1 a2 a3 a4 a5 a6 a7 := rfl
def zz_s7 {A1 A2 A3 A4 A5 A6 A7 B : Type} (x : Option (B ⊕ (A1 × A2 × A3 × A4 × A5 × A6 × A7))) (k : A1 → A2 → A3 → A4 → A5 → A6 → A7 → Option B) : Option B := x.bind (fun q => match q with | .inl b => some b | .inr q => k q.1 q.2.1 q.2.2.1 q.2.2.2.1 q.2.2.2.2.1 q.2.2.2.2.2.1 q.2.2.2.2.2.2)
theorem zz_s7_use {A1 A2 A3 A4 A5 A6 A7 B : Type} {x : Option (B ⊕ (A1 × A2 × A3 × A4 × A5 × A6 × A7))} {k : A1 → A2 → A3 → A4 → A5 → A6 → A7 → Option B} {o : B} (h : zz_s7 x k = some o) : ∃ r, x = some r ∧ zz_s7 (some r) k = some o := by
  cases x with
  | none => cases h
  | some q => exact ⟨q, rfl, h⟩
theorem zz_s7_r {A1 A2 A3 A4 A5 A6 A7 B : Type} {a1 : A1} {a2 : A2} {a3 : A3} {a4 : A4} {a5 : A5} {a6 : A6} {a7 : A7} {k : A1 → A2 → A3 → A4 → A5 → A6 → A7 → Option B} {o : B} {r : B ⊕ (A1 × A2 × A3 × A4 × A5 × A6 × A7)} (h : zz_s7 (some r) k = some o) (e : r = .inr (a1, a2, a3, a4, a5, a6, a7)) : k a1 a2 a3 a4 a5 a6 a7 = some o := by subst e; exact h
theorem zz_s7_l {A1 A2 A3 A4 A5 A6 A7 B : Type} {b : B} {k : A1 → A2 → A3 → A4 → A5 → A6 → A7 → Option B} {o : B} {r : B ⊕ (A1 × A2 × A3 × A4 × A5 × A6 × A7)} (h : zz_s7 (some r) k = some o) (e : r = .inl b) : b = o := by subst e; exact Option.some.inj h
def zz_b8 {A1 A2 A3 A4 A5 A6 A7 A8 B : Type} (x : Option (A1 × A2 × A3 × A4 × A5 × A6 × A7 × A8)) (k : A1 → A2 → A3 → A4 → A5 → A6 → A7 → A8 → Option B) : Option B := x.bind (fun q => k q.1 q.2.1 q.2.2.1 q.2.2.2.1 q.2.2.2.2.1 q.2.2.2.2.2.1 q.2.2.2.2.2.2.1 q.2.2.2.2.2.2.2)
theorem zz_b8_use {A1 A2 A3 A4 A5 A6 A7 A8 B : Type} {x : Option (A1 × A2 × A3 × A4 × A5 × A6 × A7 × A8)} {k : A1 → A2 → A3 → A4 → A5 → A6 → A7 → A8 → Option B} {o : B} (h : zz_b8 x k = some o) : ∃ a1 a2 a3 a4 a5 a6 a7 a8, x = some (a1, a2, a3, a4, a5, a6, a7, a8) ∧ k a1 a2 a3 a4 a5 a6 a7 a8 = some o := by
  cases x with
  | none => cases h
  | some q => exact ⟨q.1, q.2.1, q.2.2.1, q.2.2.2.1, q.2.2.2.2.1, q.2.2.2.2.2.1, q.2.2.2.2.2.2.1, q.2.2.2.2.2.2.2, rfl, h⟩
theorem zz_b8_some {A1 A2 A3 A4 A5 A6 A7 A8 B : Type} {a1 : A1} {a2 : A2} {a3 : A3} {a4 : A4} {a5 : A5} {a6 : A6} {a7 : A7} {a8 : A8} {k : A1 → A2 → A3 → A4 → A5 → A6 → A7 → A8 → Option B} : zz_b8 (some (a1, a2, a3, a4, a5, a6, a7, a8)) k = k a1 a2 a3 a4 a5 a6 a7 a8 := rfl
def zz_s8 {A1 A2 A3 A4 A5 A6 A7 A8 B : Type} (x : Option (B ⊕ (A1 × A2 × A3 × A4 × A5 × A6 × A7 × A8))) (k : A1 → A2 → A3 → A4 → A5 → A6 → A7 → A8 → Option B) : Option B := x.bind (fun q => match q with | .inl b => some b | .inr q => k q.1 q.2.1 q.2.2.1 q.2.2.2.1 q.2.2.2.2.1 q.2.2.2.2.2.1 q.2.2.2.2.2.2.1 q.2.2.2.2.2.2.2)
theorem zz_s8_use {A1 A2 A3 A4 A5 A6 A7 A8 B : Type} {x : Option (B ⊕ (A1 × A2 × A3 × A4 × A5 × A6 × A7 × A8))} {k : A1 → A2 → A3 → A4 → A5 → A6 → A7 → A8 → Option B} {o : B} (h : zz_s8 x k = some o) : ∃ r, x = some r ∧ zz_s8 (some r) k = some o := by
  cases x with
  | none => cases h
  | some q => exact ⟨q, rfl, h⟩
theorem zz_s8_r {A1 A2 A3 A4 A5 A6 A7 A8 B : Type} {a1 : A1} {a2 : A2} {a3 : A3} {a4 : A4} {a5 : A5} {a6 : A6} {a7 : A7} {a8 : A8} {k : A1 → A2 → A3 → A4 → A5 → A6 → A7 → A8 → Option B} {o : B} {r : B ⊕ (A1 × A2 × A3 × A4 × A5 × A6 × A7 × A8)} (h : zz_s8 (some r) k = some o) (e : r = .inr (a1, a2, a3, a4, a5, a6, a7, a8)) : k a1 a2 a3 a4 a5 a6 a7 a8 = some o := by subst e; exact h
theorem zz_s8_l {A1 A2 A3 A4 A5 A6 A7 A8 B : Type} {b : B} {k : A1 → A2 → A3 → A4 → A5 → A6 → A7 → A8 → Option B} {o : B} {r : B ⊕ (A1 × A2 × A3 × A4 × A5 × A6 × A7 × A8)} (h : zz_s8 (some r) k = some o) (e : r = .inl b) : b = o := by subst e; exact Option.some.inj h
def zz_b9 {A1 A2 A3 A4 A5 A6 A7 A8 A9 B : Type} (x : Option (A1 × A2 × A3 × A4 × A5 × A6 × A7 × A8 × A9)) (k : A1 → A2 → A3 → A4 → A5 → A6 → A7 → A8 → A9 → Option B) : Option B := x.bind (fun q => k q.1 q.2.1 q.2.2.1 q.2.2.2.1 q.2.2.2.2.1 q.2.2.2.2.2.1 q.2.2.2.2.2.2.1 q.2.2.2.2.2.2.2.1 q.2.2.2.2.2.2.2.2)
theorem zz_b9_use {A1 A2 A3 A4 A5 A6 A7 A8 A9 B : Type} {x : Option (A1 × A2 × A3 × A4 × A5 × A6 × A7 × A8 × A9)} {k : A1 → A2 → A3 → A4 → A5 → A6 → A7 → A8 → A9 → Option B} {o : B} (h : zz_b9 x k = some o) : ∃ a1 a2 a3 a4 a5 a6 a7 a8 a9, x = some (a1, a2, a3, a4, a5, a6, a7, a8, a9) ∧ k a1 a2 a3 a4 a5 a6 a7 a8 a9 = some o := by
  cases x with
  | none => cases h
  | some q => exact ⟨q.1, q.2.1, q.2.2.1, q.2.2.2.1, q.2.2.2.2.1, q.2.2.2.2.2.1, q.2.2.2.2.2.2.1, q.2.2.2.2.2.2.2.1, q.2.2.2.2.2.2.2.2, rfl, h⟩
theorem zz_b9_some {A1 A2 A3 A4 A5 A6 A7 A8 A9 B : Type} {a1 : A1} {a2 : A2} {a3 : A3} {a4 : A4} {a5 : A5} {a6 : A6} {a7 : A7} {a8 : A8} {a9 : A9} {k : A1 → A2 → A3 → A4 → A5 → A6 → A7 → A8 → A9 → Option B} : zz_b9 (some (a1, a2, a3, a4, a5, a6, a7, a8, a9)) k = k a1 a2 a3 a4 a5 a6 a7 a8 a9 := rfl
def zz_s9 {A1 A2 A3 A4 A5 A6 A7 A8 A9 B : Type} (x : Option (B ⊕ (A1 × A2 × A3 × A4 × A5 × A6 × A7 × A8 × A9))) (k : A1 → A2 → A3 → A4 → A5 → A6 → A7 → A8 → A9 → Option B) : Option B := x.bind (fun q => match q with | .inl b => some b | .inr q => k q.1 q.2.1 q.2.2.1 q.2.2.2.1 q.2.2.2.2.1 q.2.2.2.2.2.1 q.2.2.2.2.2.2.1 q.2.2.2.2.2.2.2.1 q.2.2.2.2.2.2.2.2)
theorem zz_s9_use {A1 A2 A3 A4 A5 A6 A7 A8 A9 B : Type} {x : Option (B ⊕ (A1 × A2 × A3 × A4 × A5 × A6 × A7 × A8 × A9))} {k : A1 → A2 → A3 → A4 → A5 → A6 → A7 → A8 → A9 → Option B} {o : B} (h : zz_s9 x k = some o) : ∃ r, x = some r ∧ zz_s9 (some r) k = some o := by
  cases x with
  | none => cases h
  | some q => exact ⟨q, rfl, h⟩
theorem zz_s9_r {A1 A2 A3 A4 A5 A6 A7 A8 A9 B : Type} {a1 : A1} {a2 : A2} {a3 : A3} {a4 : A4} {a5 : A5} {a6 : A6} {a7 : A7} {a8 : A8} {a9 : A9} {k : A1 → A2 → A3 → A4 → A5 → A6 → A7 → A8 → A9 → Option B} {o : B} {r : B ⊕ (A1 × A2 × A3 × A4 × A5 × A6 × A7 × A8 × A9)} (h : zz_s9 (some r) k = some o) (e : r = .inr (a1, a2, a3, a4, a5, a6, a7, a8, a9)) : k a1 a2 a3 a4 a5 a6 a7 a8 a9 = some o := by subst e; exact h
theorem zz_s9_l {A1 A2 A3 A4 A5 A6 A7 A8 A9 B : Type} {b : B} {k : A1 → A2 → A3 → A4 → A5 → A6 → A7 → A8 → A9 → Option B} {o : B} {r : B ⊕ (A1 × A2 × A3 × A4 × A5 × A6 × A7 × A8 × A9)} (h : zz_s9 (some r) k = some o) (e : r = .inl b) : b = o := by subst e; exact Option.some.inj h
def zz_b10 {A1 A2 A3 A4 A5 A6 A7 A8 A9 A10 B : Type} (x : Option (A1 × A2 × A3 × A4 × A5 × A6 × A7 × A8 × A9 × A10)) (k : A1 → A2 → A3 → A4 → A5 → A6 → A7 → A8 → A9 → A10 → Option B) : Option B := x.bind (fun q => k q.1 q.2.1 q.2.2.1 q.2.2.2.1 q.2.2.2.2.1 q.2.2.2.2.2.1 q.2.2.2.2.2.2.1 q.2.2.2.2.2.2.2.1 q.2.2.2.2.2.2.2.2.1 q.2.2.2.2.2.2.2.2.2)
theorem zz_b10_use {A1 A2 A3 A4 A5 A6 A7 A8 A9 A10 B : Type} {x : Option (A1 × A2 × A3 × A4 × A5 × A6 × A7 × A8 × A9 × A10)} {k : A1 → A2 → A3 → A4 → A5 → A6 → A7 → A8 → A9 → A10 → Option B} {o : B} (h : zz_b10 x k = some o) : ∃ a1 a2 a3 a4 a5 a6 a7 a8 a9 a10, x = some (a1, a2, a3, a4, a5, a6, a7, a8, a9, a10) ∧ k a1 a2 a3 a4 a5 a6 a7 a8 a9 a10 = some o := by
  cases x with
  | none => cases h
  | some q => exact ⟨q.1, q.2.1, q.2.2.1, q.2.2.2.1, q.2.2.2.2.1, q.2.2.2.2.2.1, q.2.2.2.2.2.2.1, q.2.2.2.2.2.2.2.1, q.2.2.2.2.2.2.2.2.1, q.2.2.2.2.2.2.2.2.2, rfl, h⟩
theorem zz_b10_some {A1 A2 A3 A4 A5 A6 A7 A8 A9 A10 B : Type} {a1 : A1} {a2 : A2} {a3 : A3} {a4 : A4} {a5 : A5} {a6 : A6} {a7 : A7} {a8 : A8} {a9 : A9} {a10 : A10} {k : A1 → A2 → A3 → A4 → A5 → A6 → A7 → A8 → A9 → A10 → Option B} : zz_b10 (some (a1, a2, a3, a4, a5, a6, a7, a8, a9, a10)) k = k a1 a2 a3 a4 a5 a6 a7 a8 a9 a10 := rfl
def zz_s10 {A1 A2 A3 A4 A5 A6 A7 A8 A9 A10 B : Type} (x : Option (B ⊕ (A1 × A2 × A3 × A4 × A5 × A6 × A7 × A8 × A9 × A10))) (k : A1 → A2 → A3 → A4 → A5 → A6 → A7 → A8 → A9 → A10 → Option B) : Option B := x.bind (fun q => match q with | .inl b => some b | .inr q => k q.1 q.2.1 q.2.2.1 q.2.2.2.1 q.2.2.2.2.1 q.2.2.2.2.2.1 q.2.2.2.2.2.2.1 q.2.2.2.2.2.2.2.1 q.2.2.2.2.2.2.2.2.1 q.2.2.2.2.2.2.2.2.2)
theorem zz_s10_use {A1 A2 A3 A4 A5 A6 A7 A8 A9 A10 B : Type} {x : Option (B ⊕ (A1 × A2 × A3 × A4 × A5 × A6 × A7 × A8 × A9 × A10))} {k : A1 → A2 → A3 → A4 → A5 → A6 → A7 → A8 → A9 → A10 → Option B} {o : B} (h : zz_s10 x k = some o) : ∃ r, x = some r ∧ zz_s10 (some r) k = some o := by
  cases x with
  | none => cases h
  | some q => exact ⟨q, rfl, h⟩
theorem zz_s10_r {A1 A2 A3 A4 A5 A6 A7 A8 A9 A10 B : Type} {a1 : A1} {a2 : A2} {a3 : A3} {a4 : A4} {a5 : A5} {a6 : A6} {a7 : A7} {a8 : A8} {a9 : A9} {a10 : A10} {k : A1 → A2 → A3 → A4 → A5 → A6 → A7 → A8 → A9 → A10 → Option B} {o : B} {r : B ⊕ (A1 × A2 × A3 × A4 × A5 × A6 × A7 × A8 × A9 × A10)} (h : zz_s10 (some r) k = some o) (e : r = .inr (a1, a2, a3, a4, a5, a6, a7, a8, a9, a10)) : k a1 a2 a3 a4 a5 a6 a7 a8 a9 a10 = some o := by subst e; exact h
theorem zz_s10_l {A1 A2 A3 A4 A5 A6 A7 A8 A9 A10 B : Type} {b : B} {k : A1 → A2 → A3 → A4 → A5 → A6 → A7 → A8 → A9 → A10 → Option B} {o : B} {r : B ⊕ (A1 × A2 × A3 × A4 × A5 × A6 × A7 × A8 × A9 × A10)} (h : zz_s10 (some r) k = some o) (e : r = .inl b) : b = o := by subst e; exact Option.some.inj h
def zz_b11 {A1 A2 A3 A4 A5 A6 A7 A8 A9 A10 A11 B : Type} (x : Option (A1 × A2 × A3 × A4 × A5 × A6 × A7 × A8 × A9 × A10 × A11)) (k : A1 → A2 → A3 → A4 → A5 → A6 → A7 → A8 → A9 → A10 → A11 → Option B) : Option B := x.bind (fun q => k q.1 q.2.1 q.2.2.1 q.2.2.2.1 q.2.2.2.2.1 q.2.2.2.2.2.1 q.2.2.2.2.2.2.1 q.2.2.2.2.2.2.2.1 q.2.2.2.2.2.2.2.2.1 q.2.2.2.2.2.2.2.2.2.1 q.2.2.2.2.2.2.2.2.2.2)
theorem zz_b11_use {A1 A2 A3 A4 A5 A6 A7 A8 A9 A10 A11 B : Type} {x : Option (A1 × A2 × A3 × A4 × A5 × A6 × A7 × A8 × A9 × A10 × A11)} {k : A1 → A2 → A3 → A4 → A5 → A6 → A7 → A8 → A9 → A10 → A11 → Option B} {o : B} (h : zz_b11 x k = some o) : ∃ a1 a2 a3 a4 a5 a6 a7 a8 a9 a10 a11, x = some (a1, a2, a3, a4, a5, a6, a7, a8, a9, a10, a11) ∧ k a1 a2 a3 a4 a5 a6 a7 a8 a9 a10 a11 = some o := by
  cases x with
  | none => cases h
  | some q => exact ⟨q.1, q.2.1, q.2.2.1, q.2.2.2.1, q.2.2.2.2.1, q.2.2.2.2.2.1, q.2.2.2.2.2.2.1, q.2.2.2.2.2.2.2.1, q.2.2.2.2.2.2.2.2.1, q.2.2.2.2.2.2.2.2.2.1, q.2.2.2.2.2.2.2.2.2.2, rfl, h⟩
theorem zz_b11_some {A1 A2 A3 A4 A5 A6 A7 A8 A9 A10 A11 B : Type} {a1 : A1} {a2 : A2} {a3 : A3} {a4 : A4} {a5 : A5} {a6 : A6} {a7 : A7} {a8 : A8} {a9 : A9} {a10 : A10} {a11 : A11} {k : A1 → A2 → A3 → A4 → A5 → A6 → A7 → A8 → A9 → A10 → A11 → Option B} : zz_b11 (some (a1, a2, a3, a4, a5, a6, a7, a8, a9, a10, a11)) k = k a1 a2 a3 a4 a5 a6 a7 a8 a9 a10 a11 := rfl
def zz_s11 {A1 A2 A3 A4 A5 A6 A7 A8 A9 A10 A11 B : Type} (x : Option (B ⊕ (A1 × A2 × A3 × A4 × A5 × A6 × A7 × A8 × A9 × A10 × A11))) (k : A1 → A2 → A3 → A4 → A5 → A6 → A7 → A8 → A9 → A10 → A11 → Option B) : Option B := x.bind (fun q => match q with | .inl b => some b | .inr q => k q.1 q.2.1 q.2.2.1 q.2.2.2.1 q.2.2.2.2.1 q.2.2.2.2.2.1 q.2.2.2.2.2.2.1 q.2.2.2.2.2.2.2.1 q.2.2.2.2.2.2.2.2.1 q.2.2.2.2.2.2.2.2.2.1 q.2.2.2.2.2.2.2.2.2.2)
theorem zz_s11_use {A1 A2 A3 A4 A5 A6 A7 A8 A9 A10 A11 B : Type} {x : Option (B ⊕ (A1 × A2 × A3 × A4 × A5 × A6 × A7 × A8 × A9 × A10 × A11))} {k : A1 → A2 → A3 → A4 → A5 → A6 → A7 → A8 → A9 → A10 → A11 → Option B} {o : B} (h : zz_s11 x k = some o) : ∃ r, x = some r ∧ zz_s11 (some r) k = some o := by
  cases x with
  | none => cases h
  | some q => exact ⟨q, rfl, h⟩
theorem zz_s11_r {A1 A2 A3 A4 A5 A6 A7 A8 A9 A10 A11 B : Type} {a1 : A1} {a2 : A2} {a3 : A3} {a4 : A4} {a5 : A5} {a6 : A6} {a7 : A7} {a8 : A8} {a9 : A9} {a10 : A10} {a11 : A11} {k : A1 → A2 → A3 → A4 → A5 → A6 → A7 → A8 → A9 → A10 → A11 → Option B} {o : B} {r : B ⊕ (A1 × A2 × A3 × A4 × A5 × A6 × A7 × A8 × A9 × A10 × A11)} (h : zz_s11 (some r) k = some o) (e : r = .inr (a1, a2, a3, a4, a5, a6, a7, a8, a9, a10, a11)) : k a1 a2 a3 a4 a5 a6 a7 a8 a9 a10 a11 = some o := by subst e; exact h
theorem zz_s11_l {A1 A2 A3 A4 A5 A6 A7 A8 A9 A10 A11 B : Type} {b : B} {k : A1 → A2 → A3 → A4 → A5 → A6 → A7 → A8 → A9 → A10 → A11 → Option B} {o : B} {r : B ⊕ (A1 × A2 × A3 × A4 × A5 × A6 × A7 × A8 × A9 × A10 × A11)} (h : zz_s11 (some r) k = some o) (e : r = .inl b) : b = o := by subst e; exact Option.some.inj h
def zz_b12 {A1 A2 A3 A4 A5 A6 A7 A8 A9 A10 A11 A12 B : Type} (x : Option (A1 × A2 × A3 × A4 × A5 × A6 × A7 × A8 × A9 × A10 × A11 × A12)) (k : A1 → A2 → A3 → A4 → A5 → A6 → A7 → A8 → A9 → A10 → A11 → A12 → Option B) : Option B := x.bind (fun q => k q.1 q.2.1 q.2.2.1 q.2.2.2.1 q.2.2.2.2.1 q.2.2.2.2.2.1 q.2.2.2.2.2.2.1 q.2.2.2.2.2.2.2.1 q.2.2.2.2.2.2.2.2.1 q.2.2.2.2.2.2.2.2.2.1 q.2.2.2.2.2.2.2.2.2.2.1 q.2.2.2.2.2.2.2.2.2.2.2)
theorem zz_b12_use {A1 A2 A3 A4 A5 A6 A7 A8 A9 A10 A11 A12 B : Type} {x : Option (A1 × A2 × A3 × A4 × A5 × A6 × A7 × A8 × A9 × A10 × A11 × A12)} {k : A1 → A2 → A3 → A4 → A5 → A6 → A7 → A8 → A9 → A10 → A11 → A12 → Option B} {o : B} (h : zz_b12 x k = some o) : ∃ a1 a2 a3 a4 a5 a6 a7 a8 a9 a10 a11 a12, x = some (a1, a2, a3, a4, a5, a6, a7, a8, a9, a10, a11, a12) ∧ k a1 a2 a3 a4 a5 a6 a7 a8 a9 a10 a11 a12 = some o := by
  cases x with
  | none => cases h
  | some q => exact ⟨q.1, q.2.1, q.2.2.1, q.2.2.2.1, q.2.2.2.2.1, q.2.2.2.2.2.1, q.2.2.2.2.2.2.1, q.2.2.2.2.2.2.2.1, q.2.2.2.2.2.2.2.2.1, q.2.2.2.2.2.2.2.2.2.1, q.2.2.2.2.2.2.2.2.2.2.1, q.2.2.2.2.2.2.2.2.2.2.2, rfl, h⟩
theorem zz_b12_some {A1 A2 A3 A4 A5 A6 A7 A8 A9 A10 A11 A12 B : Type} {a1 : A1} {a2 : A2} {a3 : A3} {a4 : A4} {a5 : A5} {a6 : A6} {a7 : A7} {a8 : A8} {a9 : A9} {a10 : A10} {a11 : A11} {a12 : A12} {k : A1 → A2 → A3 → A4 → A5 → A6 → A7 → A8 → A9 → A10 → A11 → A12 → Option B} : zz_b12 (some (a1, a2, a3, a4, a5, a6, a7, a8, a9, a10, a11, a12)) k = k a1 a2 a3 a4 a5 a6 a7 a8 a9 a10 a11 a12 := rfl
def zz_s12 {A1 A2 A3 A4 A5 A6 A7 A8 A9 A10 A11 A12 B : Type} (x : Option (B ⊕ (A1 × A2 × A3 × A4 × A5 × A6 × A7 × A8 × A9 × A10 × A11 × A12))) (k : A1 → A2 → A3 → A4 → A5 → A6 → A7 → A8 → A9 → A10 → A11 → A12 → Option B) : Option B := x.bind (fun q => match q with | .inl b => some b | .inr q => k q.1 q.2.1 q.2.2.1 q.2.2.2.1 q.2.2.2.2.1 q.2.2.2.2.2.1 q.2.2.2.2.2.2.1 q.2.2.2.2.2.2.2.1 q.2.2.2.2.2.2.2.2.1 q.2.2.2.2.2.2.2.2.2.1 q.2.2.2.2.2.2.2.2.2.2.1 q.2.2.2.2.2.2.2.2.2.2.2)
theorem zz_s12_use {A1 A2 A3 A4 A5 A6 A7 A8 A9 A10 A11 A12 B : Type} {x : Option (B ⊕ (A1 × A2 × A3 × A4 × A5 × A6 × A7 × A8 × A9 × A10 × A11 × A12))} {k : A1 → A2 → A3 → A4 → A5 → A6 → A7 → A8 → A9 → A10 → A11 → A12 → Option B} {o : B} (h : zz_s12 x k = some o) : ∃ r, x = some r ∧ zz_s12 (some r) k = some o := by
  cases x with
  | none => cases h
  | some q => exact ⟨q, rfl, h⟩
theorem zz_s12_r {A1 A2 A3 A4 A5 A6 A7 A8 A9 A10 A11 A12 B : Type} {a1 : A1} {a2 : A2} {a3 : A3} {a4 : A4} {a5 : A5} {a6 : A6} {a7 : A7} {a8 : A8} {a9 : A9} {a10 : A10} {a11 : A11} {a12 : A12} {k : A1 → A2 → A3 → A4 → A5 → A6 → A7 → A8 → A9 → A10 → A11 → A12 → Option B} {o : B} {r : B ⊕ (A1 × A2 × A3 × A4 × A5 × A6 × A7 × A8 × A9 × A10 × A11 × A12)} (h : zz_s12 (some r) k = some o) (e : r = .inr (a1, a2, a3, a4, a5, a6, a7, a8, a9, a10, a11, a12)) : k a1 a2 a3 a4 a5 a6 a7 a8 a9 a10 a11 a12 = some o := by subst e; exact h
theorem zz_s12_l {A1 A2 A3 A4 A5 A6 A7 A8 A9 A10 A11 A12 B : Type} {b : B} {k : A1 → A2 → A3 → A4 → A5 → A6 → A7 → A8 → A9 → A10 → A11 → A12 → Option B} {o : B} {r : B ⊕ (A1 × A2 × A3 × A4 × A5 × A6 × A7 × A8 × A9 × A10 × A11 × A12)} (h : zz_s12 (some r) k = some o) (e : r = .inl b) : b = o := by subst e; exact Option.some.inj h
def zz_b13 {A1 A2 A3 A4 A5 A6 A7 A8 A9 A10 A11 A12 A13 B : Type} (x : Option (A1 × A2 × A3 × A4 × A5 × A6 × A7 × A8 × A9 × A10 × A11 × A12 × A13)) (k : A1 → A2 → A3 → A4 → A5 → A6 → A7 → A8 → A9 → A10 → A11 → A12 → A13 → Option B) : Option B := x.bind (fun q => k q.1 q.2.1 q.2.2.1 q.2.2.2.1 q.2.2.2.2.1 q.2.2.2.2.2.1 q.2.2.2.2.2.2.1 q.2.2.2.2.2.2.2.1 q.2.2.2.2.2.2.2.2.1 q.2.2.2.2.2.2.2.2.2.1 q.2.2.2.2.2.2.2.2.2.2.1 q.2.2.2.2.2.2.2.2.2.2.2.1 q.2.2.2.2.2.2.2.2.2.2.2.2)
theorem zz_b13_use {A1 A2 A3 A4 A5 A6 A7 A8 A9 A10 A11 A12 A13 B : Type} {x : Option (A1 × A2 × A3 × A4 × A5 × A6 × A7 × A8 × A9 × A10 × A11 × A12 × A13)} {k : A1 → A2 → A3 → A4 → A5 → A6 → A7 → A8 → A9 → A10 → A11 → A12 → A13 → Option B} {o : B} (h : zz_b13 x k = some o) : ∃ a1 a2 a3 a4 a5 a6 a7 a8 a9 a10 a11 a12 a13, x = some (a1, a2, a3, a4, a5, a6, a7, a8, a9, a10, a11, a12, a13) ∧ k a1 a2 a3 a4 a5 a6 a7 a8 a9 a10 a11 a12 a13 = some o := by
  cases x with
  | none => cases h
  | some q => exact ⟨q.1, q.2.1, q.2.2.1, q.2.2.2.1, q.2.2.2.2.1, q.2.2.2.2.2.1, q.2.2.2.2.2.2.1, q.2.2.2.2.2.2.2.1, q.2.2.2.2.2.2.2.2.1, q.2.2.2.2.2.2.2.2.2.1, q.2.2.2.2.2.2.2.2.2.2.1, q.2.2.2.2.2.2.2.2.2.2.2.1, q.2.2.2.2.2.2.2.2.2.2.2.2, rfl, h⟩
theorem zz_b13_some {A1 A2 A3 A4 A5 A6 A7 A8 A9 A10 A11 A12 A13 B : Type} {a1 : A1} {a2 : A2} {a3 : A3} {a4 : A4} {a5 : A5} {a6 : A6} {a7 : A7} {a8 : A8} {a9 : A9} {a10 : A10} {a11 : A11} {a12 : A12} {a13 : A13} {k : A1 → A2 → A3 → A4 → A5 → A6 → A7 → A8 → A9 → A10 → A11 → A12 → A13 → Option B} : zz_b13 (some (a1, a2, a3, a4, a5, a6, a7, a8, a9, a10, a11, a12, a13)) k = k a1 a2 a3 a4 a5 a6 a7 a8 a9 a10 a11 a12 a13 := rfl
def zz_s13 {A1 A2 A3 A4 A5 A6 A7 A8 A9 A10 A11 A12 A13 B : Type} (x : Option (B ⊕ (A1 × A2 × A3 × A4 × A5 × A6 × A7 × A8 × A9 × A10 × A11 × A12 × A13))) (k : A1 → A2 → A3 → A4 → A5 → A6 → A7 → A8 → A9 → A10 → A11 → A12 → A13 → Option B) : Option B := x.bind (fun q => match q with | .inl b => some b | .inr q => k q.1 q.2.1 q.2.2.1 q.2.2.2.1 q.2.2.2.2.1 q.2.2.2.2.2.1 q.2.2.2.2.2.2.1 q.2.2.2.2.2.2.2.1 q.2.2.2.2.2.2.2.2.1 q.2.2.2.2.2.2.2.2.2.1 q.2.2.2.2.2.2.2.2.2.2.1 q.2.2.2.2.2.2.2.2.2.2.2.1 q.2.2.2.2.2.2.2.2.2.2.2.2)
theorem zz_s13_use {A1 A2 A3 A4 A5 A6 A7 A8 A9 A10 A11 A12 A13 B : Type} {x : Option (B ⊕ (A1 × A2 × A3 × A4 × A5 × A6 × A7 × A8 × A9 × A10 × A11 × A12 × A13))} {k : A1 → A2 → A3 → A4 → A5 → A6 → A7 → A8 → A9 → A10 → A11 → A12 → A13 → Option B} {o : B} (h : zz_s13 x k = some o) : ∃ r, x = some r ∧ zz_s13 (some r) k = some o := by
  cases x with
  | none => cases h
  | some q => exact ⟨q, rfl, h⟩
theorem zz_s13_r {A1 A2 A3 A4 A5 A6 A7 A8 A9 A10 A11 A12 A13 B : Type} {a1 : A1} {a2 : A2} {a3 : A3} {a4 : A4} {a5 : A5} {a6 : A6} {a7 : A7} {a8 : A8} {a9 : A9} {a10 : A10} {a11 : A11} {a12 : A12} {a13 : A13} {k : A1 → A2 → A3 → A4 → A5 → A6 → A7 → A8 → A9 → A10 → A11 → A12 → A13 → Option B} {o : B} {r : B ⊕ (A1 × A2 × A3 × A4 × A5 × A6 × A7 × A8 × A9 × A10 × A11 × A12 × A13)} (h : zz_s13 (some r) k = some o) (e : r = .inr (a1, a2, a3, a4, a5, a6, a7, a8, a9, a10, a11, a12, a13)) : k a1 a2 a3 a4 a5 a6 a7 a8 a9 a10 a11 a12 a13 = some o := by subst e; exact h
theorem zz_s13_l {A1 A2 A3 A4 A5 A6 A7 A8 A9 A10 A11 A12 A13 B : Type} {b : B} {k : A1 → A2 → A3 → A4 → A5 → A6 → A7 → A8 → A9 → A10 → A11 → A12 → A13 → Option B} {o : B} {r : B ⊕ (A1 × A2 × A3 × A4 × A5 × A6 × A7 × A8 × A9 × A10 × A11 × A12 × A13)} (h : zz_s13 (some r) k = some o) (e : r = .inl b) : b = o := by subst e; exact Option.some.inj h
def zz_b14 {A1 A2 A3 A4 A5 A6 A7 A8 A9 A10 A11 A12 A13 A14 B : Type} (x : Option (A1 × A2 × A3 × A4 × A5 × A6 × A7 × A8 × A9 × A10 × A11 × A12 × A13 × A14)) (k : A1 → A2 → A3 → A4 → A5 → A6 → A7 → A8 → A9 → A10 → A11 → A12 → A13 → A14 → Option B) : Option B := x.bind (fun q => k q.1 q.2.1 q.2.2.1 q.2.2.2.1 q.2.2.2.2.1 q.2.2.2.2.2.1 q.2.2.2.2.2.2.1 q.2.2.2.2.2.2.2.1 q.2.2.2.2.2.2.2.2.1 q.2.2.2.2.2.2.2.2.2.1 q.2.2.2.2.2.2.2.2.2.2.1 q.2.2.2.2.2.2.2.2.2.2.2.1 q.2.2.2.2.2.2.2.2.2.2.2.2.1 q.2.2.2.2.2.2.2.2.2.2.2.2.2)
theorem zz_b14_use {A1 A2 A3 A4 A5 A6 A7 A8 A9 A10 A11 A12 A13 A14 B : Type} {x : Option (A1 × A2 × A3 × A4 × A5 × A6 × A7 × A8 × A9 × A10 × A11 × A12 × A13 × A14)} {k : A1 → A2 → A3 → A4 → A5 → A6 → A7 → A8 → A9 → A10 → A11 → A12 → A13 → A14 → Option B} {o : B} (h : zz_b14 x k = some o) : ∃ a1 a2 a3 a4 a5 a6 a7 a8 a9 a10 a11 a12 a13 a14, x = some (a1, a2, a3, a4, a5, a6, a7, a8, a9, a10, a11, a12, a13, a14) ∧ k a1 a2 a3 a4 a5 a6 a7 a8 a9 a10 a11 a12 a13 a14 = some o := by
  cases x with
  | none => cases h
  | some q => exact ⟨q.1, q.2.1, q.2.2.1, q.2.2.2.1, q.2.2.2.2.1, q.2.2.2.2.2.1, q.2.2.2.2.2.2.1, q.2.2.2.2.2.2.2.1, q.2.2.2.2.2.2.2.2.1, q.2.2.2.2.2.2.2.2.2.1, q.2.2.2.2.2.2.2.2.2.2.1, q.2.2.2.2.2.2.2.2.2.2.2.1, q.2.2.2.2.2.2.2.2.2.2.2.2.1, q.2.2.2.2.2.2.2.2.2.2.2.2.2, rfl, h⟩
theorem zz_b14_some {A1 A2 A3 A4 A5 A6 A7 A8 A9 A10 A11 A12 A13 A14 B : Type} {a1 : A1} {a2 : A2} {a3 : A3} {a4 : A4} {a5 : A5} {a6 : A6} {a7 : A7} {a8 : A8} {a9 : A9} {a10 : A10} {a11 : A11} {a12 : A12} {a13 : A13} {a14 : A14} {k : A1 → A2 → A3 → A4 → A5 → A6 → A7 → A8 → A9 → A10 → A11 → A12 → A13 → A14 → Option B} : zz_b14 (some (a1, a2, a3, a4, a5, a6, a7, a8, a9, a10, a11, a12, a13, a14)) k = k a1 a2 a3 a4 a5 a6 a7 a8 a9 a10 a11 a12 a13 a14 := rfl
def zz_s14 {A1 A2 A3 A4 A5 A6 A7 A8 A9 A10 A11 A12 A13 A14 B : Type} (x : Option (B ⊕ (A1 × A2 × A3 × A4 × A5 × A6 × A7 × A8 × A9 × A10 × A11 × A12 × A13 × A14))) (k : A1 → A2 → A3 → A4 → A5 → A6 → A7 → A8 → A9 → A10 → A11 → A12 → A13 → A14 → Option B) : Option B := x.bind (fun q => match q with | .inl b => some b | .inr q => k q.1 q.2.1 q.2.2.1 q.2.2.2.1 q.2.2.2.2.1 q.2.2.2.2.2.1 q.2.2.2.2.2.2.1 q.2.2.2.2.2.2.2.1 q.2.2.2.2.2.2.2.2.1 q.2.2.2.2.2.2.2.2.2.1 q.2.2.2.2.2.2.2.2.2.2.1 q.2.2.2.2.2.2.2.2.2.2.2.1 q.2.2.2.2.2.2.2.2.2.2.2.2.1 q.2.2.2.2.2.2.2.2.2.2.2.2.2)
theorem zz_s14_use {A1 A2 A3 A4 A5 A6 A7 A8 A9 A10 A11 A12 A13 A14 B : Type} {x : Option (B ⊕ (A1 × A2 × A3 × A4 × A5 × A6 × A7 × A8 × A9 × A10 × A11 × A12 × A13 × A14))} {k : A1 → A2 → A3 → A4 → A5 → A6 → A7 → A8 → A9 → A10 → A11 → A12 → A13 → A14 → Option B} {o : B} (h : zz_s14 x k = some o) : ∃ r, x = some r ∧ zz_s14 (some r) k = some o := by
  cases x with
  | none => cases h
  | some q => exact ⟨q, rfl, h⟩
theorem zz_s14_r {A1 A2 A3 A4 A5 A6 A7 A8 A9 A10 A11 A12 A13 A14 B : Type} {a1 : A1} {a2 : A2} {a3 : A3} {a4 : A4} {a5 : A5} {a6 : A6} {a7 : A7} {a8 : A8} {a9 : A9} {a10 : A10} {a11 : A11} {a12 : A12} {a13 : A13} {a14 : A14} {k : A1 → A2 → A3 → A4 → A5 → A6 → A7 → A8 → A9 → A10 → A11 → A12 → A13 → A14 → Option B} {o : B} {r : B ⊕ (A1 × A2 × A3 × A4 × A5 × A6 × A7 × A8 × A9 × A10 × A11 × A12 × A13 × A14)} (h : zz_s14 (some r) k = some o) (e : r = .inr (a1, a2, a3, a4, a5, a6, a7, a8, a9, a10, a11, a12, a13, a14)) : k a1 a2 a3 a4 a5 a6 a7 a8 a9 a10 a11 a12 a13 a14 = some o := by subst e; exact h
theorem zz_s14_l {A1 A2 A3 A4 A5 A6 A7 A8 A9 A10 A11 A12 A13 A14 B : Type} {b : B} {k : A1 → A2 → A3 → A4 → A5 → A6 → A7 → A8 → A9 → A10 → A11 → A12 → A13 → A14 → Option B} {o : B} {r : B ⊕ (A1 × A2 × A3 × A4 × A5 × A6 × A7 × A8 × A9 × A10 × A11 × A12 × A13 × A14)} (h : zz_s14 (some r) k = some o) (e : r = .inl b) : b = o := by subst e; exact Option.some.inj h
def zz_b15 {A1 A2 A3 A4 A5 A6 A7 A8 A9 A10 A11 A12 A13 A14 A15 B : Type} (x : Option (A1 × A2 × A3 × A4 × A5 × A6 × A7 × A8 × A9 × A10 × A11 × A12 × A13 × A14 × A15)) (k : A1 → A2 → A3 → A4 → A5 → A6 → A7 → A8 → A9 → A10 → A11 → A12 → A13 → A14 → A15 → Option B) : Option B := x.bind (fun q => k q.1 q.2.1 q.2.2.1 q.2.2.2.1 q.2.2.2.2.1 q.2.2.2.2.2.1 q.2.2.2.2.2.2.1 q.2.2.2.2.2.2.2.1 q.2.2.2.2.2.2.2.2.1 q.2.2.2.2.2.2.2.2.2.1 q.2.2.2.2.2.2.2.2.2.2.1 q.2.2.2.2.2.2.2.2.2.2.2.1 q.2.2.2.2.2.2.2.2.2.2.2.2.1 q.2.2.2.2.2.2.2.2.2.2.2.2.2.1 q.2.2.2.2.2.2.2.2.2.2.2.2.2.2)
theorem zz_b15_use {A1 A2 A3 A4 A5 A6 A7 A8 A9 A10 A11 A12 A13 A14 A15 B : Type} {x : Option (A1 × A2 × A3 × A4 × A5 × A6 × A7 × A8 × A9 × A10 × A11 × A12 × A13 × A14 × A15)} {k : A1 → A2 → A3 → A4 → A5 → A6 → A7 → A8 → A9 → A10 → A11 → A12 → A13 → A14 → A15 → Option B} {o : B} (h : zz_b15 x k = some o) : ∃ a1 a2 a3 a4 a5 a6 a7 a8 a9 a10 a11 a12 a13 a14 a15, x = some (a1, a2, a3, a4, a5, a6, a7, a8, a9, a10, a11, a12, a13, a14, a15) ∧ k a1 a2 a3 a4 a5 a6 a7 a8 a9 a10 a11 a12 a13 a14 a15 = some o := by
  cases x with
  | none => cases h
  | some q => exact ⟨q.1, q.2.1, q.2.2.1, q.2.2.2.1, q.2.2.2.2.1, q.2.2.2.2.2.1, q.2.2.2.2.2.2.1, q.2.2.2.2.2.2.2.1, q.2.2.2.2.2.2.2.2.1, q.2.2.2.2.2.2.2.2.2.1, q.2.2.2.2.2.2.2.2.2.2.1, q.2.2.2.2.2.2.2.2.2.2.2.1, q.2.2.2.2.2.2.2.2.2.2.2.2.1, q.2.2.2.2.2.2.2.2.2.2.2.2.2.1, q.2.2.2.2.2.2.2.2.2.2.2.2.2.2, rfl, h⟩
theorem zz_b15_some {A1 A2 A3 A4 A5 A6 A7 A8 A9 A10 A11 A12 A13 A14 A15 B : Type} {a1 : A1} {a2 : A2} {a3 : A3} {a4 : A4} {a5 : A5} {a6 : A6} {a7 : A7} {a8 : A8} {a9 : A9} {a10 : A10} {a11 : A11} {a12 : A12} {a13 : A13} {a14 : A14} {a15 : A15} {k : A1 → A2 → A3 → A4 → A5 → A6 → A7 → A8 → A9 → A10 → A11 → A12 → A13 → A14 → A15 → Option B} : zz_b15 (some (a1, a2, a3, a4, a5, a6, a7, a8, a9, a10, a11, a12, a13, a14, a15)) k = k a1 a2 a3 a4 a5 a6 a7 a8 a9 a10 a11 a12 a13 a14 a15 := rfl
def zz_s15 {A1 A2 A3 A4 A5 A6 A7 A8 A9 A10 A11 A12 A13 A14 A15 B : Type} (x : Option (B ⊕ (A1 × A2 × A3 × A4 × A5 × A6 × A7 × A8 × A9 × A10 × A11 × A12 × A13 × A14 × A15))) (k : A1 → A2 → A3 → A4 → A5 → A6 → A7 → A8 → A9 → A10 → A11 → A12 → A13 → A14 → A15 → Option B) : Option B := x.bind (fun q => match q with | .inl b => some b | .inr q => k q.1 q.2.1 q.2.2.1 q.2.2.2.1 q.2.2.2.2.1 q.2.2.2.2.2.1 q.2.2.2.2.2.2.1 q.2.2.2.2.2.2.2.1 q.2.2.2.2.2.2.2.2.1 q.2.2.2.2.2.2.2.2.2.1 q.2.2.2.2.2.2.2.2.2.2.1 q.2.2.2.2.2.2.2.2.2.2.2.1 q.2.2.2.2.2.2.2.2.2.2.2.2.1 q.2.2.2.2.2.2.2.2.2.2.2.2.2.1 q.2.2.2.2.2.2.2.2.2.2.2.2.2.2)
theorem zz_s15_use {A1 A2 A3 A4 A5 A6 A7 A8 A9 A10 A11 A12 A13 A14 A15 B : Type} {x : Option (B ⊕ (A1 × A2 × A3 × A4 × A5 × A6 × A7 × A8 × A9 × A10 × A11 × A12 × A13 × A14 × A15))} {k : A1 → A2 → A3 → A4 → A5 → A6 → A7 → A8 → A9 → A10 → A11 → A12 → A13 → A14 → A15 → Option B} {o : B} (h : zz_s15 x k = some o) : ∃ r, x = some r ∧ zz_s15 (some r) k = some o := by
  cases x with
  | none => cases h
  | some q => exact ⟨q, rfl, h⟩
theorem zz_s15_r {A1 A2 A3 A4 A5 A6 A7 A8 A9 A10 A11 A12 A13 A14 A15 B : Type} {a1 : A1} {a2 : A2} {a3 : A3} {a4 : A4} {a5 : A5} {a6 : A6} {a7 : A7} {a8 : A8} {a9 : A9} {a10 : A10} {a11 : A11} {a12 : A12} {a13 : A13} {a14 : A14} {a15 : A15} {k : A1 → A2 → A3 → A4 → A5 → A6 → A7 → A8 → A9 → A10 → A11 → A12 → A13 → A14 → A15 → Option B} {o : B} {r : B ⊕ (A1 × A2 × A3 × A4 × A5 × A6 × A7 × A8 × A9 × A10 × A11 × A12 × A13 × A14 × A15)} (h : zz_s15 (some r) k = some o) (e : r = .inr (a1, a2, a3, a4, a5, a6, a7, a8, a9, a10, a11, a12, a13, a14, a15)) : k a1 a2 a3 a4 a5 a6 a7 a8 a9 a10 a11 a12 a13 a14 a15 = some o := by subst e; exact h
theorem zz_s15_l {A1 A2 A3 A4 A5 A6 A7 A8 A9 A10 A11 A12 A13 A14 A15 B : Type} {b : B} {k : A1 → A2 → A3 → A4 → A5 → A6 → A7 → A8 → A9 → A10 → A11 → A12 → A13 → A14 → A15 → Option B} {o : B} {r : B ⊕ (A1 × A2 × A3 × A4 × A5 × A6 × A7 × A8 × A9 × A10 × A11 × A12 × A13 × A14 × A15)} (h : zz_s15 (some r) k = some o) (e : r = .inl b) : b = o := by subst e; exact Option.some.inj h
def zz_b16 {A1 A2 A3 A4 A5 A6 A7 A8 A9 A10 A11 A12 A13 A14 A15 A16 B : Type} (x : Option (A1 × A2 × A3 × A4 × A5 × A6 × A7 × A8 × A9 × A10 × A11 × A12 × A13 × A14 × A15 × A16)) (k : A1 → A2 → A3 → A4 → A5 → A6 → A7 → A8 → A9 → A10 → A11 → A12 → A13 → A14 → A15 → A16 → Option B) : Option B := x.bind (fun q => k q.1 q.2.1 q.2.2.1 q.2.2.2.1 q.2.2.2.2.1 q.2.2.2.2.2.1 q.2.2.2.2.2.2.1 q.2.2.2.2.2.2.2.1 q.2.2.2.2.2.2.2.2.1 q.2.2.2.2.2.2.2.2.2.1 q.2.2.2.2.2.2.2.2.2.2.1 q.2.2.2.2.2.2.2.2.2.2.2.1 q.2.2.2.2.2.2.2.2.2.2.2.2.1 q.2.2.2.2.2.2.2.2.2.2.2.2.2.1 q.2.2.2.2.2.2.2.2.2.2.2.2.2.2.1 q.2.2.2.2.2.2.2.2.2.2.2.2.2.2.2)
theorem zz_b16_use {A1 A2 A3 A4 A5 A6 A7 A8 A9 A10 A11 A12 A13 A14 A15 A16 B : Type} {x : Option (A1 × A2 × A3 × A4 × A5 × A6 × A7 × A8 × A9 × A10 × A11 × A12 × A13 × A14 × A15 × A16)} {k : A1 → A2 → A3 → A4 → A5 → A6 → A7 → A8 → A9 → A10 → A11 → A12 → A13 → A14 → A15 → A16 → Option B} {o : B} (h : zz_b16 x k = some o) : ∃ a1 a2 a3 a4 a5 a6 a7 a8 a9 a10 a11 a12 a13 a14 a15 a16, x = some (a1, a2, a3, a4, a5, a6, a7, a8, a9, a10, a11, a12, a13, a14, a15, a16) ∧ k a1 a2 a3 a4 a5 a6 a7 a8 a9 a10 a11 a12 a13 a14 a15 a16 = some o := by
  cases x with
  | none => cases h
  | some q => exact ⟨q.1, q.2.1, q.2.2.1, q.2.2.2.1, q.2.2.2.2.1, q.2.2.2.2.2.1, q.2.2.2.2.2.2.1, q.2.2.2.2.2.2.2.1, q.2.2.2.2.2.2.2.2.1, q.2.2.2.2.2.2.2.2.2.1, q.2.2.2.2.2.2.2.2.2.2.1, q.2.2.2.2.2.2.2.2.2.2.2.1, q.2.2.2.2.2.2.2.2.2.2.2.2.1, q.2.2.2.2.2.2.2.2.2.2.2.2.2.1, q.2.2.2.2.2.2.2.2.2.2.2.2.2.2.1, q.2.2.2.2.2.2.2.2.2.2.2.2.2.2.2, rfl, h⟩
theorem zz_b16_some {A1 A2 A3 A4 A5 A6 A7 A8 A9 A10 A11 A12 A13 A14 A15 A16 B : Type} {a1 : A1} {a2 : A2} {a3 : A3} {a4 : A4} {a5 : A5} {a6 : A6} {a7 : A7} {a8 : A8} {a9 : A9} {a10 : A10} {a11 : A11} {a12 : A12} {a13 : A13} {a14 : A14} {a15 : A15} {a16 : A16} {k : A1 → A2 → A3 → A4 → A5 → A6 → A7 → A8 → A9 → A10 → A11 → A12 → A13 → A14 → A15 → A16 → Option B} : zz_b16 (some (a1, a2, a3, a4, a5, a6, a7, a8, a9, a10, a11, a12, a13, a14, a15, a16)) k = k a1 a2 a3 a4 a5 a6 a7 a8 a9 a10 a11 a12 a13 a14 a15 a16 := rfl
def zz_s16 {A1 A2 A3 A4 A5 A6 A7 A8 A9 A10 A11 A12 A13 A14 A15 A16 B : Type} (x : Option (B ⊕ (A1 × A2 × A3 × A4 × A5 × A6 × A7 × A8 × A9 × A10 × A11 × A12 × A13 × A14 × A15 × A16))) (k : A1 → A2 → A3 → A4 → A5 → A6 → A7 → A8 → A9 → A10 → A11 → A12 → A13 → A14 → A15 → A16 → Option B) : Option B := x.bind (fun q => match q with | .inl b => some b | .inr q => k q.1 q.2.1 q.2.2.1 q.2.2.2.1 q.2.2.2.2.1 q.2.2.2.2.2.1 q.2.2.2.2.2.2.1 q.2.2.2.2.2.2.2.1 q.2.2.2.2.2.2.2.2.1 q.2.2.2.2.2.2.2.2.2.1 q.2.2.2.2.2.2.2.2.2.2.1 q.2.2.2.2.2.2.2.2.2.2.2.1 q.2.2.2.2.2.2.2.2.2.2.2.2.1 q.2.2.2.2.2.2.2.2.2.2.2.2.2.1 q.2.2.2.2.2.2.2.2.2.2.2.2.2.2.1 q.2.2.2.2.2.2.2.2.2.2.2.2.2.2.2)
theorem zz_s16_use {A1 A2 A3 A4 A5 A6 A7 A8 A9 A10 A11 A12 A13 A14 A15 A16 B : Type} {x : Option (B ⊕ (A1 × A2 × A3 × A4 × A5 × A6 × A7 × A8 × A9 × A10 × A11 × A12 × A13 × A14 × A15 × A16))} {k : A1 → A2 → A3 → A4 → A5 → A6 → A7 → A8 → A9 → A10 → A11 → A12 → A13 → A14 → A15 → A16 → Option B} {o : B} (h : zz_s16 x k = some o) : ∃ r, x = some r ∧ zz_s16 (some r) k = some o := by
  cases x with
  | none => cases h
  | some q => exact ⟨q, rfl, h⟩
theorem zz_s16_r {A1 A2 A3 A4 A5 A6 A7 A8 A9 A10 A11 A12 A13 A14 A15 A16 B : Type} {a1 : A1} {a2 : A2} {a3 : A3} {a4 : A4} {a5 : A5} {a6 : A6} {a7 : A7} {a8 : A8} {a9 : A9} {a10 : A10} {a11 : A11} {a12 : A12} {a13 : A13} {a14 : A14} {a15 : A15} {a16 : A16} {k : A1 → A2 → A3 → A4 → A5 → A6 → A7 → A8 → A9 → A10 → A11 → A12 → A13 → A14 → A15 → A16 → Option B} {o : B} {r : B ⊕ (A1 × A2 × A3 × A4 × A5 × A6 × A7 × A8 × A9 × A10 × A11 × A12 × A13 × A14 × A15 × A16)} (h : zz_s16 (some r) k = some o) (e : r = .inr (a1, a2, a3, a4, a5, a6, a7, a8, a9, a10, a11, a12, a13, a14, a15, a16)) : k a1 a2 a3 a4 a5 a6 a7 a8 a9 a10 a11 a12 a13 a14 a15 a16 = some o := by subst e; exact h
theorem zz_s16_l {A1 A2 A3 A4 A5 A6 A7 A8 A9 A10 A11 A12 A13 A14 A15 A16 B : Type} {b : B} {k : A1 → A2 → A3 → A4 → A5 → A6 → A7 → A8 → A9 → A10 → A11 → A12 → A13 → A14 → A15 → A16 → Option B} {o : B} {r : B ⊕ (A1 × A2 × A3 × A4 × A5 × A6 × A7 × A8 × A9 × A10 × A11 × A12 × A13 × A14 × A15 × A16)} (h : zz_s16 (some r) k = some o) (e : r = .inl b) : b = o := by subst e; exact Option.some.inj h
def zz_b0 {B : Type} (x : Option Unit) (k : Option B) : Option B := x.bind (fun _ => k)
theorem zz_b0_use {B : Type} {x : Option Unit} {k : Option B} {o : B} (h : zz_b0 x k = some o) : x = some () ∧ k = some o := by
  cases x with
  | none => cases h
  | some q => exact ⟨rfl, h⟩
theorem zz_b0_some {B : Type} {k : Option B} : zz_b0 (some ()) k = k := rfl
def zz_s0 {B : Type} (x : Option (B ⊕ Unit)) (k : Option B) : Option B := x.bind (fun q => match q with | .inl b => some b | .inr _ => k)
theorem zz_s0_use {B : Type} {x : Option (B ⊕ Unit)} {k : Option B} {o : B} (h : zz_s0 x k = some o) : ∃ r, x = some r ∧ zz_s0 (some r) k = some o := by
  cases x with
  | none => cases h
  | some q => exact ⟨q, rfl, h⟩
theorem zz_s0_r {B : Type} {k : Option B} {o : B} {r : B ⊕ Unit} (h : zz_s0 (some r) k = some o) (e : r = .inr ()) : k = some o := by subst e; exact h
theorem zz_s0_l {B : Type} {b : B} {k : Option B} {o : B} {r : B ⊕ Unit} (h : zz_s0 (some r) k = some o) (e : r = .inl b) : b = o := by subst e; exact Option.some.inj h
/-! ===== rows over the kit's ===== -/
/-- the start of a method that writes nothing; of one that does -/
def zz_pre (D : va_G) (cl : List vw_C) (tys : List (ClassId × FieldType)) (wc : va_W) : State → Prop := fun U => va_P D cl wc U.heap ∧ va_K D cl tys U
def zz_preW (D : va_G) (cl : List vw_C) (tys : List (ClassId × FieldType)) (wc : va_W) (sz : Nat) : State → Prop := fun U => U.heap.size = sz ∧ va_P D cl wc U.heap ∧ va_K D cl tys U ∧ va_D (fun _ => True) wc
theorem zz_blind {av : List Value} {D : va_G} {cl : List vw_C} {tys : List (ClassId × FieldType)} {wc : va_W} : FrameBlind (va_Pc av (zz_pre D cl tys wc)) := fun a U g mk q => by
  obtain ⟨q0, qP, qK⟩ := q
  exact ⟨q0, qP, va_K.moved (u := U) (U := U.calling g mk a) (Vm.Alike.refl U.vm) qK⟩
theorem zz_blindW {av : List Value} {D : va_G} {cl : List vw_C} {tys : List (ClassId × FieldType)} {wc : va_W} {sz : Nat} : FrameBlind (va_Pc av (zz_preW D cl tys wc sz)) := fun a U g mk q => by
  obtain ⟨q0, q1, qP, qK, qD⟩ := q
  exact ⟨q0, q1, qP, va_K.moved (u := U) (U := U.calling g mk a) (Vm.Alike.refl U.vm) qK, qD⟩
/-- contracts: P writes nothing, W writes; i, l, v: what it answers -/
abbrev zz_MPi (l : Launch) (y : MethodName) (ws : List Cond) (rm : Room) (D : va_G) (cl : List vw_C) (tys : List (ClassId × FieldType)) (wc : va_W) (av : List Value) (v : Int32) : Prop := Met l y ws rm (va_Pc av (zz_pre D cl tys wc)) (vp_Si (fun r => r = v)) 0 0 (fun _ => False)
abbrev zz_MPl (l : Launch) (y : MethodName) (ws : List Cond) (rm : Room) (D : va_G) (cl : List vw_C) (tys : List (ClassId × FieldType)) (wc : va_W) (av : List Value) (v : Int64) : Prop := Met l y ws rm (va_Pc av (zz_pre D cl tys wc)) (vp_Sl (fun r => r = v)) 0 0 (fun _ => False)
abbrev zz_B (D : va_G) (cl : List vw_C) (wn : va_W) (A : Nat → Prop) : Unit → State → Prop := fun _ t => va_P D cl wn t.heap ∧ va_D A wn
abbrev zz_MWi (l : Launch) (y : MethodName) (ws : List Cond) (rm : Room) (D : va_G) (cl : List vw_C) (tys : List (ClassId × FieldType)) (wc wn : va_W) (av : List Value) (v : Int32) : Prop := ∀ sz : Nat, Met l y ws rm (va_Pc av (zz_preW D cl tys wc sz)) (va_Qi (fun r _ => r = v) (zz_B D cl wn (va_A wc sz)) (va_A wc sz)) 0 0 (va_A wc sz)
abbrev zz_MWl (l : Launch) (y : MethodName) (ws : List Cond) (rm : Room) (D : va_G) (cl : List vw_C) (tys : List (ClassId × FieldType)) (wc wn : va_W) (av : List Value) (v : Int64) : Prop := ∀ sz : Nat, Met l y ws rm (va_Pc av (zz_preW D cl tys wc sz)) (va_Ql (fun r _ => r = v) (zz_B D cl wn (va_A wc sz)) (va_A wc sz)) 0 0 (va_A wc sz)
abbrev zz_MWv (l : Launch) (y : MethodName) (ws : List Cond) (rm : Room) (D : va_G) (cl : List vw_C) (tys : List (ClassId × FieldType)) (wc wn : va_W) (av : List Value) : Prop := ∀ sz : Nat, Met l y ws rm (va_Pc av (zz_preW D cl tys wc sz)) (va_Qv (fun _ => True) (zz_B D cl wn (va_A wc sz)) (va_A wc sz)) 0 0 (va_A wc sz)
theorem zz_psub {D : va_G} {cl : List vw_C} {ws wz : va_W} {H : Heap} {is : List Nat} (hP : va_P D cl ws H) (hB : is.map (fun i => ws[i]?) = wz.map some) : va_P D cl wz H := fun k x hk => by
  have h1 : (wz.map some)[k]? = some (some x) := by rw [List.getElem?_map, hk]; rfl
  rw [← hB, List.getElem?_map] at h1
  cases h2 : is[k]? with
  | none => rw [h2] at h1; cases h1
  | some i => rw [h2] at h1; exact hP i x (Option.some.inj h1)
section ZZ
variable {p : Program} {l : Launch} {e : Env} {R : Room} {s : State} {m : MethodId} {args : Array Value} {below : List Frame} {meth : Method} {c : Code} {H : Heap} {locs : List Loc} {cells slots : Nat} {Q : State → Prop}
variable {cc : ByteArray} {pc : Nat} {ls : Array Slot} {rest : List Value} {D : va_G} {cl : List vw_C} {A : Nat → Prop} {a : Nat} {tys : List (ClassId × FieldType)} {ws : va_W} {H0 : Heap}
/-- the entry of a method that writes nothing -/
theorem zz_inP {y : MethodName} {wd wd' : List Cond} {rm : Room} {maxL : Nat} {ret : Option FieldType} {av : List Value} {wc : va_W} {Qc : Array Value → State → Outcome → State → Prop} (hy : plainName y.cls = true) (hw : wd = Cond.code y cc maxL ret :: wd') (hlen : (lg_sl av).length ≤ maxL)
    (body : ∀ (p : Program) (e : Env) (s : State) (m : MethodId) (below : List Frame) (meth : Method) (c : Code), p.tables.exec = Jvm.exec → c.code = cc → meth.sig.returnType = ret → meth.locks = false → c.maxLocals = maxL → (∀ w ∈ wd, w.before av.toArray s = true) → s.vm.findClass y.cls = some m.cls → va_P D cl wc s.heap → va_K D cl tys s → ∀ ls : Array Slot, lv_has ls maxL (lv_args 0 av) →
      W p l e (headSpec wd rm).room s m av.toArray below meth c s.heap [] 0 0 (MQ below Qc av.toArray s 0 0 (fun _ => False)) (F0 m 0 ls [])) : Met l y wd rm (va_Pc av (zz_pre D cl tys wc)) Qc 0 0 (fun _ => False) := by
  refine Met.ofW hy hw ?_
  intro p e s m args below meth c s₁ B hml hv
  obtain ⟨rfl, hP, hK⟩ := hv
  rw [lg_entry_eq]
  exact body p e s m below meth c B.exec B.bytes B.returns B.notSynchronized hml (atoms_spec (ws := wd) B.pre) (findClass_of_methodNamed B.named) hP hK _ (lv_entry av hlen)
theorem zz_inW {y : MethodName} {wd wd' : List Cond} {rm : Room} {maxL : Nat} {ret : Option FieldType} {av : List Value} {wc : va_W} {sz : Nat} {Qc : Array Value → State → Outcome → State → Prop} {mc ms : Nat} (hy : plainName y.cls = true) (hw : wd = Cond.code y cc maxL ret :: wd') (hlen : (lg_sl av).length ≤ maxL)
    (body : ∀ (p : Program) (e : Env) (s : State) (m : MethodId) (below : List Frame) (meth : Method) (c : Code), p.tables.exec = Jvm.exec → c.code = cc → meth.sig.returnType = ret → meth.locks = false → c.maxLocals = maxL → (∀ w ∈ wd, w.before av.toArray s = true) → s.vm.findClass y.cls = some m.cls → s.heap.size = sz → va_P D cl wc s.heap → va_K D cl tys s → va_D (va_A wc sz) wc → va_S (va_A wc sz) s.heap s.heap [] → (∀ q : Nat, s.heap.size ≤ q → va_A wc sz q) → meth.name = y.name → ∀ ls : Array Slot, lv_has ls maxL (lv_args 0 av) →
      W p l e (headSpec wd rm).room s m av.toArray below meth c s.heap [] 0 0 (MQ below Qc av.toArray s mc ms (va_A wc sz)) (F0 m 0 ls [])) : Met l y wd rm (va_Pc av (zz_preW D cl tys wc sz)) Qc mc ms (va_A wc sz) := by
  refine Met.ofW hy hw ?_
  intro p e s m args below meth c s₁ B hml hv
  obtain ⟨rfl, hsz, hP, hK, hD0⟩ := hv
  rw [lg_entry_eq]
  exact body p e s m below meth c B.exec B.bytes B.returns B.notSynchronized hml (atoms_spec (ws := wd) B.pre) (findClass_of_methodNamed B.named) hsz hP hK (hD0.self) va_S.rf (fun q h => Or.inr (hsz ▸ h)) (name_of_methodNamed B.named B.method).1 _ (lv_entry av hlen)
/-- returns -/
theorem zz_rPi {v0 v : Int32} (hx : p.tables.exec = Jvm.exec) (hb : c.code = cc) (hr : meth.sig.returnType = some .int) (hlk : meth.locks = false) (hv : v0 = v) (hdg : decode cc pc = .ok (.ireturn, 1)) : W p l e R s m args below meth c s.heap [] cells slots (MQ below (vp_Si (fun r => r = v)) args s cells slots (fun _ => False)) (F0 m pc ls [.int v0]) :=
  W.iret hx hb hr (fun t ht _ => ⟨v0, rfl, hv, ht⟩) (fun q hq => nomatch hq) hdg hlk
theorem zz_rPz {v0 v : Int32} (hx : p.tables.exec = Jvm.exec) (hb : c.code = cc) (hr : meth.sig.returnType = some .boolean) (hlk : meth.locks = false) (hn : narrow .boolean (.int v0) = .int v0) (hv : v0 = v) (hdg : decode cc pc = .ok (.ireturn, 1)) : W p l e R s m args below meth c s.heap [] cells slots (MQ below (vp_Si (fun r => r = v)) args s cells slots (fun _ => False)) (F0 m pc ls [.int v0]) :=
  W.zret hx hb hr hn (fun t ht _ => ⟨v0, rfl, hv, ht⟩) (fun q hq => nomatch hq) hdg hlk
theorem zz_rPl {v0 v : Int64} (hx : p.tables.exec = Jvm.exec) (hb : c.code = cc) (hr : meth.sig.returnType = some .long) (hlk : meth.locks = false) (hv : v0 = v) (hdg : decode cc pc = .ok (.lreturn, 1)) : W p l e R s m args below meth c s.heap [] cells slots (MQ below (vp_Sl (fun r => r = v)) args s cells slots (fun _ => False)) (F0 m pc ls [.long v0]) :=
  W.lret hx hb hr (fun t ht _ => ⟨v0, rfl, hv, ht⟩) (fun q hq => nomatch hq) hdg hlk
theorem zz_rWi {v0 v : Int32} {wn : va_W} (hx : p.tables.exec = Jvm.exec) (hb : c.code = cc) (hr : meth.sig.returnType = some .int) (hlk : meth.locks = false) (hv : v0 = v) (hP : va_P D cl wn H) (hD : va_D A wn) (hS : va_S A s.heap H locs) (hdg : decode cc pc = .ok (.ireturn, 1)) : W p l e R s m args below meth c H locs cells slots (MQ below (va_Qi (fun r _ => r = v) (zz_B D cl wn A) A) args s cells slots A) (F0 m pc ls [.int v0]) :=
  W.iret hx hb hr (fun t ht _ => ⟨⟨v0, (), rfl, hv, by rw [ht]; exact hP, hD⟩, hS.F ht⟩) hS.2.2 hdg hlk
theorem zz_rWz {v0 v : Int32} {wn : va_W} (hx : p.tables.exec = Jvm.exec) (hb : c.code = cc) (hr : meth.sig.returnType = some .boolean) (hlk : meth.locks = false) (hn : narrow .boolean (.int v0) = .int v0) (hv : v0 = v) (hP : va_P D cl wn H) (hD : va_D A wn) (hS : va_S A s.heap H locs) (hdg : decode cc pc = .ok (.ireturn, 1)) : W p l e R s m args below meth c H locs cells slots (MQ below (va_Qi (fun r _ => r = v) (zz_B D cl wn A) A) args s cells slots A) (F0 m pc ls [.int v0]) :=
  W.zret hx hb hr hn (fun t ht _ => ⟨⟨v0, (), rfl, hv, by rw [ht]; exact hP, hD⟩, hS.F ht⟩) hS.2.2 hdg hlk
theorem zz_rWl {v0 v : Int64} {wn : va_W} (hx : p.tables.exec = Jvm.exec) (hb : c.code = cc) (hr : meth.sig.returnType = some .long) (hlk : meth.locks = false) (hv : v0 = v) (hP : va_P D cl wn H) (hD : va_D A wn) (hS : va_S A s.heap H locs) (hdg : decode cc pc = .ok (.lreturn, 1)) : W p l e R s m args below meth c H locs cells slots (MQ below (va_Ql (fun r _ => r = v) (zz_B D cl wn A) A) args s cells slots A) (F0 m pc ls [.long v0]) :=
  W.lret hx hb hr (fun t ht _ => ⟨⟨v0, (), rfl, hv, by rw [ht]; exact hP, hD⟩, hS.F ht⟩) hS.2.2 hdg hlk
theorem zz_rWv {wn : va_W} (hx : p.tables.exec = Jvm.exec) (hb : c.code = cc) (hr : meth.sig.returnType = none) (hlk : meth.locks = false) (hP : va_P D cl wn H) (hD : va_D A wn) (hS : va_S A s.heap H locs) (hdg : decode cc pc = .ok (.return_, 1)) : W p l e R s m args below meth c H locs cells slots (MQ below (va_Qv (fun _ => True) (zz_B D cl wn A) A) args s cells slots A) (F0 m pc ls []) :=
  W.vret hx hb hr (fun t ht _ => ⟨⟨(), rfl, trivial, by rw [ht]; exact hP, hD⟩, hS.F ht⟩) hS.2.2 hdg hlk
/-- a place where ways meet: proved once -/
theorem zz_j {g : JFrame} {H1 : Heap} {locs1 : List Loc} (pcJ : Nat) (st : List Value) (I : Heap → List Loc → Array Slot → Prop) (hJ : ∀ (H : Heap) (locs : List Loc) (ls : Array Slot), I H locs ls → W p l e R s m args below meth c H locs cells slots Q (F0 m pcJ ls st)) (k : (∀ (H : Heap) (locs : List Loc) (ls : Array Slot), I H locs ls → W p l e R s m args below meth c H locs cells slots Q (F0 m pcJ ls st)) → W p l e R s m args below meth c H1 locs1 cells slots Q g) : W p l e R s m args below meth c H1 locs1 cells slots Q g := k hJ
theorem zz_jp {g : JFrame} (pcJ : Nat) (st : List Value) (I : Array Slot → Prop) (hJ : ∀ ls : Array Slot, I ls → W p l e R s m args below meth c H locs cells slots Q (F0 m pcJ ls st)) (k : (∀ ls : Array Slot, I ls → W p l e R s m args below meth c H locs cells slots Q (F0 m pcJ ls st)) → W p l e R s m args below meth c H locs cells slots Q g) : W p l e R s m args below meth c H locs cells slots Q g := k hJ
theorem zz_l0 (pcH : Nat) (I : Nat → Heap → List Loc → Array Slot → Prop) (h0 : ∀ (H : Heap) (locs : List Loc) (ls : Array Slot), I 0  H locs ls → False) (hs : ∀ n : Nat, (∀ (H : Heap) (locs : List Loc) (ls : Array Slot), I n  H locs ls → W p l e R s m args below meth c H locs cells slots Q (F0 m pcH ls [])) → ∀ (H : Heap) (locs : List Loc) (ls : Array Slot), I (n + 1)  H locs ls → W p l e R s m args below meth c H locs cells slots Q (F0 m pcH ls [])) : ∀ (n : Nat) (H : Heap) (locs : List Loc) (ls : Array Slot), I n  H locs ls → W p l e R s m args below meth c H locs cells slots Q (F0 m pcH ls []) := by
  intro n
  induction n with
  | zero => intro  H locs ls h; exact (h0  H locs ls h).elim
  | succ n ih => exact hs n ih
theorem zz_lp0 (pcH : Nat) (I : Nat → Array Slot → Prop) (h0 : ∀ (ls : Array Slot), I 0  ls → False) (hs : ∀ n : Nat, (∀ (ls : Array Slot), I n  ls → W p l e R s m args below meth c H locs cells slots Q (F0 m pcH ls [])) → ∀ (ls : Array Slot), I (n + 1)  ls → W p l e R s m args below meth c H locs cells slots Q (F0 m pcH ls [])) : ∀ (n : Nat) (ls : Array Slot), I n  ls → W p l e R s m args below meth c H locs cells slots Q (F0 m pcH ls []) := by
  intro n
  induction n with
  | zero => intro  ls h; exact (h0  ls h).elim
  | succ n ih => exact hs n ih
theorem zz_l1 {A1 : Type} (pcH : Nat) (I : Nat → A1 → Heap → List Loc → Array Slot → Prop) (h0 : ∀ (a1 : A1) (H : Heap) (locs : List Loc) (ls : Array Slot), I 0 a1 H locs ls → False) (hs : ∀ n : Nat, (∀ (a1 : A1) (H : Heap) (locs : List Loc) (ls : Array Slot), I n a1 H locs ls → W p l e R s m args below meth c H locs cells slots Q (F0 m pcH ls [])) → ∀ (a1 : A1) (H : Heap) (locs : List Loc) (ls : Array Slot), I (n + 1) a1 H locs ls → W p l e R s m args below meth c H locs cells slots Q (F0 m pcH ls [])) : ∀ (n : Nat) (a1 : A1) (H : Heap) (locs : List Loc) (ls : Array Slot), I n a1 H locs ls → W p l e R s m args below meth c H locs cells slots Q (F0 m pcH ls []) := by
  intro n
  induction n with
  | zero => intro a1 H locs ls h; exact (h0 a1 H locs ls h).elim
  | succ n ih => exact hs n ih
theorem zz_lp1 {A1 : Type} (pcH : Nat) (I : Nat → A1 → Array Slot → Prop) (h0 : ∀ (a1 : A1) (ls : Array Slot), I 0 a1 ls → False) (hs : ∀ n : Nat, (∀ (a1 : A1) (ls : Array Slot), I n a1 ls → W p l e R s m args below meth c H locs cells slots Q (F0 m pcH ls [])) → ∀ (a1 : A1) (ls : Array Slot), I (n + 1) a1 ls → W p l e R s m args below meth c H locs cells slots Q (F0 m pcH ls [])) : ∀ (n : Nat) (a1 : A1) (ls : Array Slot), I n a1 ls → W p l e R s m args below meth c H locs cells slots Q (F0 m pcH ls []) := by
  intro n
  induction n with
  | zero => intro a1 ls h; exact (h0 a1 ls h).elim
  | succ n ih => exact hs n ih
theorem zz_l2 {A1 A2 : Type} (pcH : Nat) (I : Nat → A1 → A2 → Heap → List Loc → Array Slot → Prop) (h0 : ∀ (a1 : A1) (a2 : A2) (H : Heap) (locs : List Loc) (ls : Array Slot), I 0 a1 a2 H locs ls → False) (hs : ∀ n : Nat, (∀ (a1 : A1) (a2 : A2) (H : Heap) (locs : List Loc) (ls : Array Slot), I n a1 a2 H locs ls → W p l e R s m args below meth c H locs cells slots Q (F0 m pcH ls [])) → ∀ (a1 : A1) (a2 : A2) (H : Heap) (locs : List Loc) (ls : Array Slot), I (n + 1) a1 a2 H locs ls → W p l e R s m args below meth c H locs cells slots Q (F0 m pcH ls [])) : ∀ (n : Nat) (a1 : A1) (a2 : A2) (H : Heap) (locs : List Loc) (ls : Array Slot), I n a1 a2 H locs ls → W p l e R s m args below meth c H locs cells slots Q (F0 m pcH ls []) := by
  intro n
  induction n with
  | zero => intro a1 a2 H locs ls h; exact (h0 a1 a2 H locs ls h).elim
  | succ n ih => exact hs n ih
theorem zz_lp2 {A1 A2 : Type} (pcH : Nat) (I : Nat → A1 → A2 → Array Slot → Prop) (h0 : ∀ (a1 : A1) (a2 : A2) (ls : Array Slot), I 0 a1 a2 ls → False) (hs : ∀ n : Nat, (∀ (a1 : A1) (a2 : A2) (ls : Array Slot), I n a1 a2 ls → W p l e R s m args below meth c H locs cells slots Q (F0 m pcH ls [])) → ∀ (a1 : A1) (a2 : A2) (ls : Array Slot), I (n + 1) a1 a2 ls → W p l e R s m args below meth c H locs cells slots Q (F0 m pcH ls [])) : ∀ (n : Nat) (a1 : A1) (a2 : A2) (ls : Array Slot), I n a1 a2 ls → W p l e R s m args below meth c H locs cells slots Q (F0 m pcH ls []) := by
  intro n
  induction n with
  | zero => intro a1 a2 ls h; exact (h0 a1 a2 ls h).elim
  | succ n ih => exact hs n ih
theorem zz_l3 {A1 A2 A3 : Type} (pcH : Nat) (I : Nat → A1 → A2 → A3 → Heap → List Loc → Array Slot → Prop) (h0 : ∀ (a1 : A1) (a2 : A2) (a3 : A3) (H : Heap) (locs : List Loc) (ls : Array Slot), I 0 a1 a2 a3 H locs ls → False) (hs : ∀ n : Nat, (∀ (a1 : A1) (a2 : A2) (a3 : A3) (H : Heap) (locs : List Loc) (ls : Array Slot), I n a1 a2 a3 H locs ls → W p l e R s m args below meth c H locs cells slots Q (F0 m pcH ls [])) → ∀ (a1 : A1) (a2 : A2) (a3 : A3) (H : Heap) (locs : List Loc) (ls : Array Slot), I (n + 1) a1 a2 a3 H locs ls → W p l e R s m args below meth c H locs cells slots Q (F0 m pcH ls [])) : ∀ (n : Nat) (a1 : A1) (a2 : A2) (a3 : A3) (H : Heap) (locs : List Loc) (ls : Array Slot), I n a1 a2 a3 H locs ls → W p l e R s m args below meth c H locs cells slots Q (F0 m pcH ls []) := by
  intro n
  induction n with
  | zero => intro a1 a2 a3 H locs ls h; exact (h0 a1 a2 a3 H locs ls h).elim
  | succ n ih => exact hs n ih
theorem zz_lp3 {A1 A2 A3 : Type} (pcH : Nat) (I : Nat → A1 → A2 → A3 → Array Slot → Prop) (h0 : ∀ (a1 : A1) (a2 : A2) (a3 : A3) (ls : Array Slot), I 0 a1 a2 a3 ls → False) (hs : ∀ n : Nat, (∀ (a1 : A1) (a2 : A2) (a3 : A3) (ls : Array Slot), I n a1 a2 a3 ls → W p l e R s m args below meth c H locs cells slots Q (F0 m pcH ls [])) → ∀ (a1 : A1) (a2 : A2) (a3 : A3) (ls : Array Slot), I (n + 1) a1 a2 a3 ls → W p l e R s m args below meth c H locs cells slots Q (F0 m pcH ls [])) : ∀ (n : Nat) (a1 : A1) (a2 : A2) (a3 : A3) (ls : Array Slot), I n a1 a2 a3 ls → W p l e R s m args below meth c H locs cells slots Q (F0 m pcH ls []) := by
  intro n
  induction n with
  | zero => intro a1 a2 a3 ls h; exact (h0 a1 a2 a3 ls h).elim
  | succ n ih => exact hs n ih
theorem zz_l4 {A1 A2 A3 A4 : Type} (pcH : Nat) (I : Nat → A1 → A2 → A3 → A4 → Heap → List Loc → Array Slot → Prop) (h0 : ∀ (a1 : A1) (a2 : A2) (a3 : A3) (a4 : A4) (H : Heap) (locs : List Loc) (ls : Array Slot), I 0 a1 a2 a3 a4 H locs ls → False) (hs : ∀ n : Nat, (∀ (a1 : A1) (a2 : A2) (a3 : A3) (a4 : A4) (H : Heap) (locs : List Loc) (ls : Array Slot), I n a1 a2 a3 a4 H locs ls → W p l e R s m args below meth c H locs cells slots Q (F0 m pcH ls [])) → ∀ (a1 : A1) (a2 : A2) (a3 : A3) (a4 : A4) (H : Heap) (locs : List Loc) (ls : Array Slot), I (n + 1) a1 a2 a3 a4 H locs ls → W p l e R s m args below meth c H locs cells slots Q (F0 m pcH ls [])) : ∀ (n : Nat) (a1 : A1) (a2 : A2) (a3 : A3) (a4 : A4) (H : Heap) (locs : List Loc) (ls : Array Slot), I n a1 a2 a3 a4 H locs ls → W p l e R s m args below meth c H locs cells slots Q (F0 m pcH ls []) := by
  intro n
  induction n with
  | zero => intro a1 a2 a3 a4 H locs ls h; exact (h0 a1 a2 a3 a4 H locs ls h).elim
  | succ n ih => exact hs n ih
theorem zz_lp4 {A1 A2 A3 A4 : Type} (pcH : Nat) (I : Nat → A1 → A2 → A3 → A4 → Array Slot → Prop) (h0 : ∀ (a1 : A1) (a2 : A2) (a3 : A3) (a4 : A4) (ls : Array Slot), I 0 a1 a2 a3 a4 ls → False) (hs : ∀ n : Nat, (∀ (a1 : A1) (a2 : A2) (a3 : A3) (a4 : A4) (ls : Array Slot), I n a1 a2 a3 a4 ls → W p l e R s m args below meth c H locs cells slots Q (F0 m pcH ls [])) → ∀ (a1 : A1) (a2 : A2) (a3 : A3) (a4 : A4) (ls : Array Slot), I (n + 1) a1 a2 a3 a4 ls → W p l e R s m args below meth c H locs cells slots Q (F0 m pcH ls [])) : ∀ (n : Nat) (a1 : A1) (a2 : A2) (a3 : A3) (a4 : A4) (ls : Array Slot), I n a1 a2 a3 a4 ls → W p l e R s m args below meth c H locs cells slots Q (F0 m pcH ls []) := by
  intro n
  induction n with
  | zero => intro a1 a2 a3 a4 ls h; exact (h0 a1 a2 a3 a4 ls h).elim
  | succ n ih => exact hs n ih
theorem zz_l5 {A1 A2 A3 A4 A5 : Type} (pcH : Nat) (I : Nat → A1 → A2 → A3 → A4 → A5 → Heap → List Loc → Array Slot → Prop) (h0 : ∀ (a1 : A1) (a2 : A2) (a3 : A3) (a4 : A4) (a5 : A5) (H : Heap) (locs : List Loc) (ls : Array Slot), I 0 a1 a2 a3 a4 a5 H locs ls → False) (hs : ∀ n : Nat, (∀ (a1 : A1) (a2 : A2) (a3 : A3) (a4 : A4) (a5 : A5) (H : Heap) (locs : List Loc) (ls : Array Slot), I n a1 a2 a3 a4 a5 H locs ls → W p l e R s m args below meth c H locs cells slots Q (F0 m pcH ls [])) → ∀ (a1 : A1) (a2 : A2) (a3 : A3) (a4 : A4) (a5 : A5) (H : Heap) (locs : List Loc) (ls : Array Slot), I (n + 1) a1 a2 a3 a4 a5 H locs ls → W p l e R s m args below meth c H locs cells slots Q (F0 m pcH ls [])) : ∀ (n : Nat) (a1 : A1) (a2 : A2) (a3 : A3) (a4 : A4) (a5 : A5) (H : Heap) (locs : List Loc) (ls : Array Slot), I n a1 a2 a3 a4 a5 H locs ls → W p l e R s m args below meth c H locs cells slots Q (F0 m pcH ls []) := by
  intro n
  induction n with
  | zero => intro a1 a2 a3 a4 a5 H locs ls h; exact (h0 a1 a2 a3 a4 a5 H locs ls h).elim
  | succ n ih => exact hs n ih
theorem zz_lp5 {A1 A2 A3 A4 A5 : Type} (pcH : Nat) (I : Nat → A1 → A2 → A3 → A4 → A5 → Array Slot → Prop) (h0 : ∀ (a1 : A1) (a2 : A2) (a3 : A3) (a4 : A4) (a5 : A5) (ls : Array Slot), I 0 a1 a2 a3 a4 a5 ls → False) (hs : ∀ n : Nat, (∀ (a1 : A1) (a2 : A2) (a3 : A3) (a4 : A4) (a5 : A5) (ls : Array Slot), I n a1 a2 a3 a4 a5 ls → W p l e R s m args below meth c H locs cells slots Q (F0 m pcH ls [])) → ∀ (a1 : A1) (a2 : A2) (a3 : A3) (a4 : A4) (a5 : A5) (ls : Array Slot), I (n + 1) a1 a2 a3 a4 a5 ls → W p l e R s m args below meth c H locs cells slots Q (F0 m pcH ls [])) : ∀ (n : Nat) (a1 : A1) (a2 : A2) (a3 : A3) (a4 : A4) (a5 : A5) (ls : Array Slot), I n a1 a2 a3 a4 a5 ls → W p l e R s m args below meth c H locs cells slots Q (F0 m pcH ls []) := by
  intro n
  induction n with
  | zero => intro a1 a2 a3 a4 a5 ls h; exact (h0 a1 a2 a3 a4 a5 ls h).elim
  | succ n ih => exact hs n ih
theorem zz_l6 {A1 A2 A3 A4 A5 A6 : Type} (pcH : Nat) (I : Nat → A1 → A2 → A3 → A4 → A5 → A6 → Heap → List Loc → Array Slot → Prop) (h0 : ∀ (a1 : A1) (a2 : A2) (a3 : A3) (a4 : A4) (a5 : A5) (a6 : A6) (H : Heap) (locs : List Loc) (ls : Array Slot), I 0 a1 a2 a3 a4 a5 a6 H locs ls → False) (hs : ∀ n : Nat, (∀ (a1 : A1) (a2 : A2) (a3 : A3) (a4 : A4) (a5 : A5) (a6 : A6) (H : Heap) (locs : List Loc) (ls : Array Slot), I n a1 a2 a3 a4 a5 a6 H locs ls → W p l e R s m args below meth c H locs cells slots Q (F0 m pcH ls [])) → ∀ (a1 : A1) (a2 : A2) (a3 : A3) (a4 : A4) (a5 : A5) (a6 : A6) (H : Heap) (locs : List Loc) (ls : Array Slot), I (n + 1) a1 a2 a3 a4 a5 a6 H locs ls → W p l e R s m args below meth c H locs cells slots Q (F0 m pcH ls [])) : ∀ (n : Nat) (a1 : A1) (a2 : A2) (a3 : A3) (a4 : A4) (a5 : A5) (a6 : A6) (H : Heap) (locs : List Loc) (ls : Array Slot), I n a1 a2 a3 a4 a5 a6 H locs ls → W p l e R s m args below meth c H locs cells slots Q (F0 m pcH ls []) := by
  intro n
  induction n with
  | zero => intro a1 a2 a3 a4 a5 a6 H locs ls h; exact (h0 a1 a2 a3 a4 a5 a6 H locs ls h).elim
  | succ n ih => exact hs n ih
theorem zz_lp6 {A1 A2 A3 A4 A5 A6 : Type} (pcH : Nat) (I : Nat → A1 → A2 → A3 → A4 → A5 → A6 → Array Slot → Prop) (h0 : ∀ (a1 : A1) (a2 : A2) (a3 : A3) (a4 : A4) (a5 : A5) (a6 : A6) (ls : Array Slot), I 0 a1 a2 a3 a4 a5 a6 ls → False) (hs : ∀ n : Nat, (∀ (a1 : A1) (a2 : A2) (a3 : A3) (a4 : A4) (a5 : A5) (a6 : A6) (ls : Array Slot), I n a1 a2 a3 a4 a5 a6 ls → W p l e R s m args below meth c H locs cells slots Q (F0 m pcH ls [])) → ∀ (a1 : A1) (a2 : A2) (a3 : A3) (a4 : A4) (a5 : A5) (a6 : A6) (ls : Array Slot), I (n + 1) a1 a2 a3 a4 a5 a6 ls → W p l e R s m args below meth c H locs cells slots Q (F0 m pcH ls [])) : ∀ (n : Nat) (a1 : A1) (a2 : A2) (a3 : A3) (a4 : A4) (a5 : A5) (a6 : A6) (ls : Array Slot), I n a1 a2 a3 a4 a5 a6 ls → W p l e R s m args below meth c H locs cells slots Q (F0 m pcH ls []) := by
  intro n
  induction n with
  | zero => intro a1 a2 a3 a4 a5 a6 ls h; exact (h0 a1 a2 a3 a4 a5 a6 ls h).elim
  | succ n ih => exact hs n ih
theorem zz_l7 {A1 A2 A3 A4 A5 A6 A7 : Type} (pcH : Nat) (I : Nat → A1 → A2 → A3 → A4 → A5 → A6 → A7 → Heap → List Loc → Array Slot → Prop) (h0 : ∀ (a1 : A1) (a2 : A2) (a3 : A3) (a4 : A4) (a5 : A5) (a6 : A6) (a7 : A7) (H : Heap) (locs : List Loc) (ls : Array Slot), I 0 a1 a2 a3 a4 a5 a6 a7 H locs ls → False) (hs : ∀ n : Nat, (∀ (a1 : A1) (a2 : A2) (a3 : A3) (a4 : A4) (a5 : A5) (a6 : A6) (a7 : A7) (H : Heap) (locs : List Loc) (ls : Array Slot), I n a1 a2 a3 a4 a5 a6 a7 H locs ls → W p l e R s m args below meth c H locs cells slots Q (F0 m pcH ls [])) → ∀ (a1 : A1) (a2 : A2) (a3 : A3) (a4 : A4) (a5 : A5) (a6 : A6) (a7 : A7) (H : Heap) (locs : List Loc) (ls : Array Slot), I (n + 1) a1 a2 a3 a4 a5 a6 a7 H locs ls → W p l e R s m args below meth c H locs cells slots Q (F0 m pcH ls [])) : ∀ (n : Nat) (a1 : A1) (a2 : A2) (a3 : A3) (a4 : A4) (a5 : A5) (a6 : A6) (a7 : A7) (H : Heap) (locs : List Loc) (ls : Array Slot), I n a1 a2 a3 a4 a5 a6 a7 H locs ls → W p l e R s m args below meth c H locs cells slots Q (F0 m pcH ls []) := by
  intro n
  induction n with
  | zero => intro a1 a2 a3 a4 a5 a6 a7 H locs ls h; exact (h0 a1 a2 a3 a4 a5 a6 a7 H locs ls h).elim
  | succ n ih => exact hs n ih
theorem zz_lp7 {A1 A2 A3 A4 A5 A6 A7 : Type} (pcH : Nat) (I : Nat → A1 → A2 → A3 → A4 → A5 → A6 → A7 → Array Slot → Prop) (h0 : ∀ (a1 : A1) (a2 : A2) (a3 : A3) (a4 : A4) (a5 : A5) (a6 : A6) (a7 : A7) (ls : Array Slot), I 0 a1 a2 a3 a4 a5 a6 a7 ls → False) (hs : ∀ n : Nat, (∀ (a1 : A1) (a2 : A2) (a3 : A3) (a4 : A4) (a5 : A5) (a6 : A6) (a7 : A7) (ls : Array Slot), I n a1 a2 a3 a4 a5 a6 a7 ls → W p l e R s m args below meth c H locs cells slots Q (F0 m pcH ls [])) → ∀ (a1 : A1) (a2 : A2) (a3 : A3) (a4 : A4) (a5 : A5) (a6 : A6) (a7 : A7) (ls : Array Slot), I (n + 1) a1 a2 a3 a4 a5 a6 a7 ls → W p l e R s m args below meth c H locs cells slots Q (F0 m pcH ls [])) : ∀ (n : Nat) (a1 : A1) (a2 : A2) (a3 : A3) (a4 : A4) (a5 : A5) (a6 : A6) (a7 : A7) (ls : Array Slot), I n a1 a2 a3 a4 a5 a6 a7 ls → W p l e R s m args below meth c H locs cells slots Q (F0 m pcH ls []) := by
  intro n
  induction n with
  | zero => intro a1 a2 a3 a4 a5 a6 a7 ls h; exact (h0 a1 a2 a3 a4 a5 a6 a7 ls h).elim
  | succ n ih => exact hs n ih
theorem zz_l8 {A1 A2 A3 A4 A5 A6 A7 A8 : Type} (pcH : Nat) (I : Nat → A1 → A2 → A3 → A4 → A5 → A6 → A7 → A8 → Heap → List Loc → Array Slot → Prop) (h0 : ∀ (a1 : A1) (a2 : A2) (a3 : A3) (a4 : A4) (a5 : A5) (a6 : A6) (a7 : A7) (a8 : A8) (H : Heap) (locs : List Loc) (ls : Array Slot), I 0 a1 a2 a3 a4 a5 a6 a7 a8 H locs ls → False) (hs : ∀ n : Nat, (∀ (a1 : A1) (a2 : A2) (a3 : A3) (a4 : A4) (a5 : A5) (a6 : A6) (a7 : A7) (a8 : A8) (H : Heap) (locs : List Loc) (ls : Array Slot), I n a1 a2 a3 a4 a5 a6 a7 a8 H locs ls → W p l e R s m args below meth c H locs cells slots Q (F0 m pcH ls [])) → ∀ (a1 : A1) (a2 : A2) (a3 : A3) (a4 : A4) (a5 : A5) (a6 : A6) (a7 : A7) (a8 : A8) (H : Heap) (locs : List Loc) (ls : Array Slot), I (n + 1) a1 a2 a3 a4 a5 a6 a7 a8 H locs ls → W p l e R s m args below meth c H locs cells slots Q (F0 m pcH ls [])) : ∀ (n : Nat) (a1 : A1) (a2 : A2) (a3 : A3) (a4 : A4) (a5 : A5) (a6 : A6) (a7 : A7) (a8 : A8) (H : Heap) (locs : List Loc) (ls : Array Slot), I n a1 a2 a3 a4 a5 a6 a7 a8 H locs ls → W p l e R s m args below meth c H locs cells slots Q (F0 m pcH ls []) := by
  intro n
  induction n with
  | zero => intro a1 a2 a3 a4 a5 a6 a7 a8 H locs ls h; exact (h0 a1 a2 a3 a4 a5 a6 a7 a8 H locs ls h).elim
  | succ n ih => exact hs n ih
theorem zz_lp8 {A1 A2 A3 A4 A5 A6 A7 A8 : Type} (pcH : Nat) (I : Nat → A1 → A2 → A3 → A4 → A5 → A6 → A7 → A8 → Array Slot → Prop) (h0 : ∀ (a1 : A1) (a2 : A2) (a3 : A3) (a4 : A4) (a5 : A5) (a6 : A6) (a7 : A7) (a8 : A8) (ls : Array Slot), I 0 a1 a2 a3 a4 a5 a6 a7 a8 ls → False) (hs : ∀ n : Nat, (∀ (a1 : A1) (a2 : A2) (a3 : A3) (a4 : A4) (a5 : A5) (a6 : A6) (a7 : A7) (a8 : A8) (ls : Array Slot), I n a1 a2 a3 a4 a5 a6 a7 a8 ls → W p l e R s m args below meth c H locs cells slots Q (F0 m pcH ls [])) → ∀ (a1 : A1) (a2 : A2) (a3 : A3) (a4 : A4) (a5 : A5) (a6 : A6) (a7 : A7) (a8 : A8) (ls : Array Slot), I (n + 1) a1 a2 a3 a4 a5 a6 a7 a8 ls → W p l e R s m args below meth c H locs cells slots Q (F0 m pcH ls [])) : ∀ (n : Nat) (a1 : A1) (a2 : A2) (a3 : A3) (a4 : A4) (a5 : A5) (a6 : A6) (a7 : A7) (a8 : A8) (ls : Array Slot), I n a1 a2 a3 a4 a5 a6 a7 a8 ls → W p l e R s m args below meth c H locs cells slots Q (F0 m pcH ls []) := by
  intro n
  induction n with
  | zero => intro a1 a2 a3 a4 a5 a6 a7 a8 ls h; exact (h0 a1 a2 a3 a4 a5 a6 a7 a8 ls h).elim
  | succ n ih => exact hs n ih
theorem zz_l9 {A1 A2 A3 A4 A5 A6 A7 A8 A9 : Type} (pcH : Nat) (I : Nat → A1 → A2 → A3 → A4 → A5 → A6 → A7 → A8 → A9 → Heap → List Loc → Array Slot → Prop) (h0 : ∀ (a1 : A1) (a2 : A2) (a3 : A3) (a4 : A4) (a5 : A5) (a6 : A6) (a7 : A7) (a8 : A8) (a9 : A9) (H : Heap) (locs : List Loc) (ls : Array Slot), I 0 a1 a2 a3 a4 a5 a6 a7 a8 a9 H locs ls → False) (hs : ∀ n : Nat, (∀ (a1 : A1) (a2 : A2) (a3 : A3) (a4 : A4) (a5 : A5) (a6 : A6) (a7 : A7) (a8 : A8) (a9 : A9) (H : Heap) (locs : List Loc) (ls : Array Slot), I n a1 a2 a3 a4 a5 a6 a7 a8 a9 H locs ls → W p l e R s m args below meth c H locs cells slots Q (F0 m pcH ls [])) → ∀ (a1 : A1) (a2 : A2) (a3 : A3) (a4 : A4) (a5 : A5) (a6 : A6) (a7 : A7) (a8 : A8) (a9 : A9) (H : Heap) (locs : List Loc) (ls : Array Slot), I (n + 1) a1 a2 a3 a4 a5 a6 a7 a8 a9 H locs ls → W p l e R s m args below meth c H locs cells slots Q (F0 m pcH ls [])) : ∀ (n : Nat) (a1 : A1) (a2 : A2) (a3 : A3) (a4 : A4) (a5 : A5) (a6 : A6) (a7 : A7) (a8 : A8) (a9 : A9) (H : Heap) (locs : List Loc) (ls : Array Slot), I n a1 a2 a3 a4 a5 a6 a7 a8 a9 H locs ls → W p l e R s m args below meth c H locs cells slots Q (F0 m pcH ls []) := by
  intro n
  induction n with
  | zero => intro a1 a2 a3 a4 a5 a6 a7 a8 a9 H locs ls h; exact (h0 a1 a2 a3 a4 a5 a6 a7 a8 a9 H locs ls h).elim
  | succ n ih => exact hs n ih
theorem zz_lp9 {A1 A2 A3 A4 A5 A6 A7 A8 A9 : Type} (pcH : Nat) (I : Nat → A1 → A2 → A3 → A4 → A5 → A6 → A7 → A8 → A9 → Array Slot → Prop) (h0 : ∀ (a1 : A1) (a2 : A2) (a3 : A3) (a4 : A4) (a5 : A5) (a6 : A6) (a7 : A7) (a8 : A8) (a9 : A9) (ls : Array Slot), I 0 a1 a2 a3 a4 a5 a6 a7 a8 a9 ls → False) (hs : ∀ n : Nat, (∀ (a1 : A1) (a2 : A2) (a3 : A3) (a4 : A4) (a5 : A5) (a6 : A6) (a7 : A7) (a8 : A8) (a9 : A9) (ls : Array Slot), I n a1 a2 a3 a4 a5 a6 a7 a8 a9 ls → W p l e R s m args below meth c H locs cells slots Q (F0 m pcH ls [])) → ∀ (a1 : A1) (a2 : A2) (a3 : A3) (a4 : A4) (a5 : A5) (a6 : A6) (a7 : A7) (a8 : A8) (a9 : A9) (ls : Array Slot), I (n + 1) a1 a2 a3 a4 a5 a6 a7 a8 a9 ls → W p l e R s m args below meth c H locs cells slots Q (F0 m pcH ls [])) : ∀ (n : Nat) (a1 : A1) (a2 : A2) (a3 : A3) (a4 : A4) (a5 : A5) (a6 : A6) (a7 : A7) (a8 : A8) (a9 : A9) (ls : Array Slot), I n a1 a2 a3 a4 a5 a6 a7 a8 a9 ls → W p l e R s m args below meth c H locs cells slots Q (F0 m pcH ls []) := by
  intro n
  induction n with
  | zero => intro a1 a2 a3 a4 a5 a6 a7 a8 a9 ls h; exact (h0 a1 a2 a3 a4 a5 a6 a7 a8 a9 ls h).elim
  | succ n ih => exact hs n ih
theorem zz_l10 {A1 A2 A3 A4 A5 A6 A7 A8 A9 A10 : Type} (pcH : Nat) (I : Nat → A1 → A2 → A3 → A4 → A5 → A6 → A7 → A8 → A9 → A10 → Heap → List Loc → Array Slot → Prop) (h0 : ∀ (a1 : A1) (a2 : A2) (a3 : A3) (a4 : A4) (a5 : A5) (a6 : A6) (a7 : A7) (a8 : A8) (a9 : A9) (a10 : A10) (H : Heap) (locs : List Loc) (ls : Array Slot), I 0 a1 a2 a3 a4 a5 a6 a7 a8 a9 a10 H locs ls → False) (hs : ∀ n : Nat, (∀ (a1 : A1) (a2 : A2) (a3 : A3) (a4 : A4) (a5 : A5) (a6 : A6) (a7 : A7) (a8 : A8) (a9 : A9) (a10 : A10) (H : Heap) (locs : List Loc) (ls : Array Slot), I n a1 a2 a3 a4 a5 a6 a7 a8 a9 a10 H locs ls → W p l e R s m args below meth c H locs cells slots Q (F0 m pcH ls [])) → ∀ (a1 : A1) (a2 : A2) (a3 : A3) (a4 : A4) (a5 : A5) (a6 : A6) (a7 : A7) (a8 : A8) (a9 : A9) (a10 : A10) (H : Heap) (locs : List Loc) (ls : Array Slot), I (n + 1) a1 a2 a3 a4 a5 a6 a7 a8 a9 a10 H locs ls → W p l e R s m args below meth c H locs cells slots Q (F0 m pcH ls [])) : ∀ (n : Nat) (a1 : A1) (a2 : A2) (a3 : A3) (a4 : A4) (a5 : A5) (a6 : A6) (a7 : A7) (a8 : A8) (a9 : A9) (a10 : A10) (H : Heap) (locs : List Loc) (ls : Array Slot), I n a1 a2 a3 a4 a5 a6 a7 a8 a9 a10 H locs ls → W p l e R s m args below meth c H locs cells slots Q (F0 m pcH ls []) := by
  intro n
  induction n with
  | zero => intro a1 a2 a3 a4 a5 a6 a7 a8 a9 a10 H locs ls h; exact (h0 a1 a2 a3 a4 a5 a6 a7 a8 a9 a10 H locs ls h).elim
  | succ n ih => exact hs n ih
theorem zz_lp10 {A1 A2 A3 A4 A5 A6 A7 A8 A9 A10 : Type} (pcH : Nat) (I : Nat → A1 → A2 → A3 → A4 → A5 → A6 → A7 → A8 → A9 → A10 → Array Slot → Prop) (h0 : ∀ (a1 : A1) (a2 : A2) (a3 : A3) (a4 : A4) (a5 : A5) (a6 : A6) (a7 : A7) (a8 : A8) (a9 : A9) (a10 : A10) (ls : Array Slot), I 0 a1 a2 a3 a4 a5 a6 a7 a8 a9 a10 ls → False) (hs : ∀ n : Nat, (∀ (a1 : A1) (a2 : A2) (a3 : A3) (a4 : A4) (a5 : A5) (a6 : A6) (a7 : A7) (a8 : A8) (a9 : A9) (a10 : A10) (ls : Array Slot), I n a1 a2 a3 a4 a5 a6 a7 a8 a9 a10 ls → W p l e R s m args below meth c H locs cells slots Q (F0 m pcH ls [])) → ∀ (a1 : A1) (a2 : A2) (a3 : A3) (a4 : A4) (a5 : A5) (a6 : A6) (a7 : A7) (a8 : A8) (a9 : A9) (a10 : A10) (ls : Array Slot), I (n + 1) a1 a2 a3 a4 a5 a6 a7 a8 a9 a10 ls → W p l e R s m args below meth c H locs cells slots Q (F0 m pcH ls [])) : ∀ (n : Nat) (a1 : A1) (a2 : A2) (a3 : A3) (a4 : A4) (a5 : A5) (a6 : A6) (a7 : A7) (a8 : A8) (a9 : A9) (a10 : A10) (ls : Array Slot), I n a1 a2 a3 a4 a5 a6 a7 a8 a9 a10 ls → W p l e R s m args below meth c H locs cells slots Q (F0 m pcH ls []) := by
  intro n
  induction n with
  | zero => intro a1 a2 a3 a4 a5 a6 a7 a8 a9 a10 ls h; exact (h0 a1 a2 a3 a4 a5 a6 a7 a8 a9 a10 ls h).elim
  | succ n ih => exact hs n ih
theorem zz_l11 {A1 A2 A3 A4 A5 A6 A7 A8 A9 A10 A11 : Type} (pcH : Nat) (I : Nat → A1 → A2 → A3 → A4 → A5 → A6 → A7 → A8 → A9 → A10 → A11 → Heap → List Loc → Array Slot → Prop) (h0 : ∀ (a1 : A1) (a2 : A2) (a3 : A3) (a4 : A4) (a5 : A5) (a6 : A6) (a7 : A7) (a8 : A8) (a9 : A9) (a10 : A10) (a11 : A11) (H : Heap) (locs : List Loc) (ls : Array Slot), I 0 a1 a2 a3 a4 a5 a6 a7 a8 a9 a10 a11 H locs ls → False) (hs : ∀ n : Nat, (∀ (a1 : A1) (a2 : A2) (a3 : A3) (a4 : A4) (a5 : A5) (a6 : A6) (a7 : A7) (a8 : A8) (a9 : A9) (a10 : A10) (a11 : A11) (H : Heap) (locs : List Loc) (ls : Array Slot), I n a1 a2 a3 a4 a5 a6 a7 a8 a9 a10 a11 H locs ls → W p l e R s m args below meth c H locs cells slots Q (F0 m pcH ls [])) → ∀ (a1 : A1) (a2 : A2) (a3 : A3) (a4 : A4) (a5 : A5) (a6 : A6) (a7 : A7) (a8 : A8) (a9 : A9) (a10 : A10) (a11 : A11) (H : Heap) (locs : List Loc) (ls : Array Slot), I (n + 1) a1 a2 a3 a4 a5 a6 a7 a8 a9 a10 a11 H locs ls → W p l e R s m args below meth c H locs cells slots Q (F0 m pcH ls [])) : ∀ (n : Nat) (a1 : A1) (a2 : A2) (a3 : A3) (a4 : A4) (a5 : A5) (a6 : A6) (a7 : A7) (a8 : A8) (a9 : A9) (a10 : A10) (a11 : A11) (H : Heap) (locs : List Loc) (ls : Array Slot), I n a1 a2 a3 a4 a5 a6 a7 a8 a9 a10 a11 H locs ls → W p l e R s m args below meth c H locs cells slots Q (F0 m pcH ls []) := by
  intro n
  induction n with
  | zero => intro a1 a2 a3 a4 a5 a6 a7 a8 a9 a10 a11 H locs ls h; exact (h0 a1 a2 a3 a4 a5 a6 a7 a8 a9 a10 a11 H locs ls h).elim
  | succ n ih => exact hs n ih
theorem zz_lp11 {A1 A2 A3 A4 A5 A6 A7 A8 A9 A10 A11 : Type} (pcH : Nat) (I : Nat → A1 → A2 → A3 → A4 → A5 → A6 → A7 → A8 → A9 → A10 → A11 → Array Slot → Prop) (h0 : ∀ (a1 : A1) (a2 : A2) (a3 : A3) (a4 : A4) (a5 : A5) (a6 : A6) (a7 : A7) (a8 : A8) (a9 : A9) (a10 : A10) (a11 : A11) (ls : Array Slot), I 0 a1 a2 a3 a4 a5 a6 a7 a8 a9 a10 a11 ls → False) (hs : ∀ n : Nat, (∀ (a1 : A1) (a2 : A2) (a3 : A3) (a4 : A4) (a5 : A5) (a6 : A6) (a7 : A7) (a8 : A8) (a9 : A9) (a10 : A10) (a11 : A11) (ls : Array Slot), I n a1 a2 a3 a4 a5 a6 a7 a8 a9 a10 a11 ls → W p l e R s m args below meth c H locs cells slots Q (F0 m pcH ls [])) → ∀ (a1 : A1) (a2 : A2) (a3 : A3) (a4 : A4) (a5 : A5) (a6 : A6) (a7 : A7) (a8 : A8) (a9 : A9) (a10 : A10) (a11 : A11) (ls : Array Slot), I (n + 1) a1 a2 a3 a4 a5 a6 a7 a8 a9 a10 a11 ls → W p l e R s m args below meth c H locs cells slots Q (F0 m pcH ls [])) : ∀ (n : Nat) (a1 : A1) (a2 : A2) (a3 : A3) (a4 : A4) (a5 : A5) (a6 : A6) (a7 : A7) (a8 : A8) (a9 : A9) (a10 : A10) (a11 : A11) (ls : Array Slot), I n a1 a2 a3 a4 a5 a6 a7 a8 a9 a10 a11 ls → W p l e R s m args below meth c H locs cells slots Q (F0 m pcH ls []) := by
  intro n
  induction n with
  | zero => intro a1 a2 a3 a4 a5 a6 a7 a8 a9 a10 a11 ls h; exact (h0 a1 a2 a3 a4 a5 a6 a7 a8 a9 a10 a11 ls h).elim
  | succ n ih => exact hs n ih
theorem zz_l12 {A1 A2 A3 A4 A5 A6 A7 A8 A9 A10 A11 A12 : Type} (pcH : Nat) (I : Nat → A1 → A2 → A3 → A4 → A5 → A6 → A7 → A8 → A9 → A10 → A11 → A12 → Heap → List Loc → Array Slot → Prop) (h0 : ∀ (a1 : A1) (a2 : A2) (a3 : A3) (a4 : A4) (a5 : A5) (a6 : A6) (a7 : A7) (a8 : A8) (a9 : A9) (a10 : A10) (a11 : A11) (a12 : A12) (H : Heap) (locs : List Loc) (ls : Array Slot), I 0 a1 a2 a3 a4 a5 a6 a7 a8 a9 a10 a11 a12 H locs ls → False) (hs : ∀ n : Nat, (∀ (a1 : A1) (a2 : A2) (a3 : A3) (a4 : A4) (a5 : A5) (a6 : A6) (a7 : A7) (a8 : A8) (a9 : A9) (a10 : A10) (a11 : A11) (a12 : A12) (H : Heap) (locs : List Loc) (ls : Array Slot), I n a1 a2 a3 a4 a5 a6 a7 a8 a9 a10 a11 a12 H locs ls → W p l e R s m args below meth c H locs cells slots Q (F0 m pcH ls [])) → ∀ (a1 : A1) (a2 : A2) (a3 : A3) (a4 : A4) (a5 : A5) (a6 : A6) (a7 : A7) (a8 : A8) (a9 : A9) (a10 : A10) (a11 : A11) (a12 : A12) (H : Heap) (locs : List Loc) (ls : Array Slot), I (n + 1) a1 a2 a3 a4 a5 a6 a7 a8 a9 a10 a11 a12 H locs ls → W p l e R s m args below meth c H locs cells slots Q (F0 m pcH ls [])) : ∀ (n : Nat) (a1 : A1) (a2 : A2) (a3 : A3) (a4 : A4) (a5 : A5) (a6 : A6) (a7 : A7) (a8 : A8) (a9 : A9) (a10 : A10) (a11 : A11) (a12 : A12) (H : Heap) (locs : List Loc) (ls : Array Slot), I n a1 a2 a3 a4 a5 a6 a7 a8 a9 a10 a11 a12 H locs ls → W p l e R s m args below meth c H locs cells slots Q (F0 m pcH ls []) := by
  intro n
  induction n with
  | zero => intro a1 a2 a3 a4 a5 a6 a7 a8 a9 a10 a11 a12 H locs ls h; exact (h0 a1 a2 a3 a4 a5 a6 a7 a8 a9 a10 a11 a12 H locs ls h).elim
  | succ n ih => exact hs n ih
theorem zz_lp12 {A1 A2 A3 A4 A5 A6 A7 A8 A9 A10 A11 A12 : Type} (pcH : Nat) (I : Nat → A1 → A2 → A3 → A4 → A5 → A6 → A7 → A8 → A9 → A10 → A11 → A12 → Array Slot → Prop) (h0 : ∀ (a1 : A1) (a2 : A2) (a3 : A3) (a4 : A4) (a5 : A5) (a6 : A6) (a7 : A7) (a8 : A8) (a9 : A9) (a10 : A10) (a11 : A11) (a12 : A12) (ls : Array Slot), I 0 a1 a2 a3 a4 a5 a6 a7 a8 a9 a10 a11 a12 ls → False) (hs : ∀ n : Nat, (∀ (a1 : A1) (a2 : A2) (a3 : A3) (a4 : A4) (a5 : A5) (a6 : A6) (a7 : A7) (a8 : A8) (a9 : A9) (a10 : A10) (a11 : A11) (a12 : A12) (ls : Array Slot), I n a1 a2 a3 a4 a5 a6 a7 a8 a9 a10 a11 a12 ls → W p l e R s m args below meth c H locs cells slots Q (F0 m pcH ls [])) → ∀ (a1 : A1) (a2 : A2) (a3 : A3) (a4 : A4) (a5 : A5) (a6 : A6) (a7 : A7) (a8 : A8) (a9 : A9) (a10 : A10) (a11 : A11) (a12 : A12) (ls : Array Slot), I (n + 1) a1 a2 a3 a4 a5 a6 a7 a8 a9 a10 a11 a12 ls → W p l e R s m args below meth c H locs cells slots Q (F0 m pcH ls [])) : ∀ (n : Nat) (a1 : A1) (a2 : A2) (a3 : A3) (a4 : A4) (a5 : A5) (a6 : A6) (a7 : A7) (a8 : A8) (a9 : A9) (a10 : A10) (a11 : A11) (a12 : A12) (ls : Array Slot), I n a1 a2 a3 a4 a5 a6 a7 a8 a9 a10 a11 a12 ls → W p l e R s m args below meth c H locs cells slots Q (F0 m pcH ls []) := by
  intro n
  induction n with
  | zero => intro a1 a2 a3 a4 a5 a6 a7 a8 a9 a10 a11 a12 ls h; exact (h0 a1 a2 a3 a4 a5 a6 a7 a8 a9 a10 a11 a12 ls h).elim
  | succ n ih => exact hs n ih
theorem zz_lc_le {x y : Int64} {off : Int} {tgt : Nat} (hx : p.tables.exec = Jvm.exec) (hb : c.code = cc) (hd : decode cc pc = .ok (.lcmp, 1)) (hd2 : decode cc (pc + 1) = .ok (.ifCond .le off, 3)) (ht : ((pc + 1 : Nat) : Int) + off = (tgt : Int)) (kt : x ≤ y → W p l e R s m args below meth c H locs cells slots Q (F0 m tgt ls rest)) (kf : ¬ x ≤ y → W p l e R s m args below meth c H locs cells slots Q (F0 m (pc + 1 + 3) ls rest)) : W p l e R s m args below meth c H locs cells slots Q (F0 m pc ls (.long y :: .long x :: rest)) := by
  refine W.lcmp hx hb hd (lv_if_le hx hb hd2 ht (fun h => kt ?_) (fun h => kf ?_))
  · exact (lg_cmp_le x y).mp h
  · exact fun q => h ((lg_cmp_le x y).mpr q)
theorem zz_lc_lt {x y : Int64} {off : Int} {tgt : Nat} (hx : p.tables.exec = Jvm.exec) (hb : c.code = cc) (hd : decode cc pc = .ok (.lcmp, 1)) (hd2 : decode cc (pc + 1) = .ok (.ifCond .lt off, 3)) (ht : ((pc + 1 : Nat) : Int) + off = (tgt : Int)) (kt : x < y → W p l e R s m args below meth c H locs cells slots Q (F0 m tgt ls rest)) (kf : ¬ x < y → W p l e R s m args below meth c H locs cells slots Q (F0 m (pc + 1 + 3) ls rest)) : W p l e R s m args below meth c H locs cells slots Q (F0 m pc ls (.long y :: .long x :: rest)) := by
  refine W.lcmp hx hb hd (lv_if_lt hx hb hd2 ht (fun h => kt ?_) (fun h => kf ?_))
  · exact (lg_cmp_lt x y).mp h
  · exact fun q => h ((lg_cmp_lt x y).mpr q)
theorem zz_lc_ge {x y : Int64} {off : Int} {tgt : Nat} (hx : p.tables.exec = Jvm.exec) (hb : c.code = cc) (hd : decode cc pc = .ok (.lcmp, 1)) (hd2 : decode cc (pc + 1) = .ok (.ifCond .ge off, 3)) (ht : ((pc + 1 : Nat) : Int) + off = (tgt : Int)) (kt : y ≤ x → W p l e R s m args below meth c H locs cells slots Q (F0 m tgt ls rest)) (kf : ¬ y ≤ x → W p l e R s m args below meth c H locs cells slots Q (F0 m (pc + 1 + 3) ls rest)) : W p l e R s m args below meth c H locs cells slots Q (F0 m pc ls (.long y :: .long x :: rest)) := by
  refine W.lcmp hx hb hd (lv_if_ge hx hb hd2 ht (fun h => kt ?_) (fun h => kf ?_))
  · exact (lg_cmp_ge x y).mp h
  · exact fun q => h ((lg_cmp_ge x y).mpr q)
theorem zz_lc_gt {x y : Int64} {off : Int} {tgt : Nat} (hx : p.tables.exec = Jvm.exec) (hb : c.code = cc) (hd : decode cc pc = .ok (.lcmp, 1)) (hd2 : decode cc (pc + 1) = .ok (.ifCond .gt off, 3)) (ht : ((pc + 1 : Nat) : Int) + off = (tgt : Int)) (kt : y < x → W p l e R s m args below meth c H locs cells slots Q (F0 m tgt ls rest)) (kf : ¬ y < x → W p l e R s m args below meth c H locs cells slots Q (F0 m (pc + 1 + 3) ls rest)) : W p l e R s m args below meth c H locs cells slots Q (F0 m pc ls (.long y :: .long x :: rest)) := by
  refine W.lcmp hx hb hd (lv_if_gt hx hb hd2 ht (fun h => kt ?_) (fun h => kf ?_))
  · exact (lg_cmp_gt x y).mp h
  · exact fun q => h ((lg_cmp_gt x y).mpr q)
theorem zz_lc_eq {x y : Int64} {off : Int} {tgt : Nat} (hx : p.tables.exec = Jvm.exec) (hb : c.code = cc) (hd : decode cc pc = .ok (.lcmp, 1)) (hd2 : decode cc (pc + 1) = .ok (.ifCond .eq off, 3)) (ht : ((pc + 1 : Nat) : Int) + off = (tgt : Int)) (kt : x = y → W p l e R s m args below meth c H locs cells slots Q (F0 m tgt ls rest)) (kf : ¬ x = y → W p l e R s m args below meth c H locs cells slots Q (F0 m (pc + 1 + 3) ls rest)) : W p l e R s m args below meth c H locs cells slots Q (F0 m pc ls (.long y :: .long x :: rest)) := by
  refine W.lcmp hx hb hd (lv_if_eq hx hb hd2 ht (fun h => kt ?_) (fun h => kf ?_))
  · exact (lg_cmp_eq x y).mp h
  · exact fun q => h ((lg_cmp_eq x y).mpr q)
theorem zz_lc_ne {x y : Int64} {off : Int} {tgt : Nat} (hx : p.tables.exec = Jvm.exec) (hb : c.code = cc) (hd : decode cc pc = .ok (.lcmp, 1)) (hd2 : decode cc (pc + 1) = .ok (.ifCond .ne off, 3)) (ht : ((pc + 1 : Nat) : Int) + off = (tgt : Int)) (kt : ¬ x = y → W p l e R s m args below meth c H locs cells slots Q (F0 m tgt ls rest)) (kf : x = y → W p l e R s m args below meth c H locs cells slots Q (F0 m (pc + 1 + 3) ls rest)) : W p l e R s m args below meth c H locs cells slots Q (F0 m pc ls (.long y :: .long x :: rest)) := by
  refine W.lcmp hx hb hd (lv_if_ne hx hb hd2 ht (fun h => kt ?_) (fun h => kf ?_))
  · exact fun q => h ((lg_cmp_eq x y).mpr q)
  · exact (lg_cmp_eq x y).mp h
/-- stores into arrays and fields, with a name for what comes of it, and the world as it is written then -/
theorem zz_iast (hx : p.tables.exec = Jvm.exec) (hb : c.code = cc) (hK : va_K D cl tys s) (hP : va_P D cl ws H) (hD : va_D A ws) (hS : va_S A H0 H locs) (q0 t0 : Nat) {cA : ClassId} {n : Nat} {f : Nat → Int32} (wn : (Nat → Int32) → va_W) (ha : ws[q0]? = some (a, .inl (cA, n, .inl f))) (ht : tys[t0]? = some (cA, .int)) (hw : ∀ g, ws.set q0 (a, .inl (cA, n, .inl g)) = wn g) {i x : Int32} (hin : vp_in i n) (hdg : decode cc pc = .ok (.iastore, 1))
    (kk : ∀ (g : Nat → Int32) (H1 : Heap) (locs1 : List Loc), g = upd f i.toNatClampNeg x → va_P D cl (wn g) H1 → va_D A (wn g) → va_S A H0 H1 locs1 → W p l e R s m args below meth c H1 locs1 cells slots Q (F0 m (pc + 1) ls rest)) : W p l e R s m args below meth c H locs cells slots Q (F0 m pc ls (.int x :: .int i :: .ref a :: rest)) :=
  va_iast hx hb hK hP hD hS q0 t0 ha ht hin hdg (fun H1 locs1 hP1 hD1 hS1 => kk _ H1 locs1 rfl (hw _ ▸ hP1) (hw _ ▸ hD1) hS1)
theorem zz_zast (hx : p.tables.exec = Jvm.exec) (hb : c.code = cc) (hK : va_K D cl tys s) (hP : va_P D cl ws H) (hD : va_D A ws) (hS : va_S A H0 H locs) (q0 t0 : Nat) {cA : ClassId} {n : Nat} {f : Nat → Int32} (wn : (Nat → Int32) → va_W) (ha : ws[q0]? = some (a, .inl (cA, n, .inl f))) (ht : tys[t0]? = some (cA, .boolean)) (hw : ∀ g, ws.set q0 (a, .inl (cA, n, .inl g)) = wn g) {i x : Int32} (hin : vp_in i n) (hdg : decode cc pc = .ok (.bastore, 1))
    (kk : ∀ (g : Nat → Int32) (H1 : Heap) (locs1 : List Loc), g = upd f i.toNatClampNeg (vp_nar .boolean x) → va_P D cl (wn g) H1 → va_D A (wn g) → va_S A H0 H1 locs1 → W p l e R s m args below meth c H1 locs1 cells slots Q (F0 m (pc + 1) ls rest)) : W p l e R s m args below meth c H locs cells slots Q (F0 m pc ls (.int x :: .int i :: .ref a :: rest)) :=
  va_zast hx hb hK hP hD hS q0 t0 ha ht hin hdg (fun H1 locs1 hP1 hD1 hS1 => kk _ H1 locs1 rfl (hw _ ▸ hP1) (hw _ ▸ hD1) hS1)
theorem zz_last (hx : p.tables.exec = Jvm.exec) (hb : c.code = cc) (hK : va_K D cl tys s) (hP : va_P D cl ws H) (hD : va_D A ws) (hS : va_S A H0 H locs) (q0 t0 : Nat) {cA : ClassId} {n : Nat} {f : Nat → Int64} (wn : (Nat → Int64) → va_W) (ha : ws[q0]? = some (a, .inl (cA, n, .inr (.inl f)))) (ht : tys[t0]? = some (cA, .long)) (hw : ∀ g, ws.set q0 (a, .inl (cA, n, .inr (.inl g))) = wn g) {i : Int32} {x : Int64} (hin : vp_in i n) (hdg : decode cc pc = .ok (.lastore, 1))
    (kk : ∀ (g : Nat → Int64) (H1 : Heap) (locs1 : List Loc), g = vp_updL f i.toNatClampNeg x → va_P D cl (wn g) H1 → va_D A (wn g) → va_S A H0 H1 locs1 → W p l e R s m args below meth c H1 locs1 cells slots Q (F0 m (pc + 1) ls rest)) : W p l e R s m args below meth c H locs cells slots Q (F0 m pc ls (.long x :: .int i :: .ref a :: rest)) :=
  va_last hx hb hK hP hD hS q0 t0 ha ht hin hdg (fun H1 locs1 hP1 hD1 hS1 => kk _ H1 locs1 rfl (hw _ ▸ hP1) (hw _ ▸ hD1) hS1)
theorem zz_get {own ref C : String} {T : u_T} {N ci index : Nat} {Ts : List Cond} (hx : p.tables.exec = Jvm.exec) (hb : c.code = cc) (hts : ∀ w ∈ Ts, w.before args s = true) (hin : ∀ w ∈ u_ws C T N, w ∈ Ts) (hown : s.vm.findClass own = some m.cls) (hK : va_K D cl tys s) (hP : va_P D cl ws H) (q0 k : Nat) {fs : List Value} {v : Value} (he : ws[q0]? = some (a, .inr (ci, fs))) (hc : cl[ci]? = some (C, T, N)) (hk : k < N) (hlink : (Cond.fieldLink own index ref (T k).2.1 (T k).2.2.1).before args s = true) (href : (T k).1 = ref) (hv : fs[k]? = some v) (hdg : decode cc pc = .ok (.getfield index, 3)) (kk : W p l e R s m args below meth c H locs cells slots Q (F0 m (pc + 3) ls (v :: rest))) : W p l e R s m args below meth c H locs cells slots Q (F0 m pc ls (.ref a :: rest)) :=
  va_get hx hb hts hin hown hK hP q0 he hc k hk hlink (fun x hx => href ▸ hx) hv hdg kk
theorem zz_put {own ref C : String} {T : u_T} {N ci index : Nat} {Ts : List Cond} (hx : p.tables.exec = Jvm.exec) (hb : c.code = cc) (hts : ∀ w ∈ Ts, w.before args s = true) (hin : ∀ w ∈ u_ws C T N, w ∈ Ts) {ty0 : Nat → FieldType} (hty : ∀ k, k < N → parseFieldDescriptor (T k).2.2.1 = some (ty0 k)) (hnm : ∀ a, a < N → ∀ b, b < N → a ≠ b → (T a).2.1 ≠ (T b).2.1) (hown : s.vm.findClass own = some m.cls) (hK : va_K D cl tys s) (hP : va_P D cl ws H) (hD : va_D A ws) (hS : va_S A H0 H locs) (q0 k : Nat) {ty : FieldType} (wn : va_W) {fs : List Value} {v : Value} (he : ws[q0]? = some (a, .inr (ci, fs))) (hc : cl[ci]? = some (C, T, N)) (hk : k < N) (hlink : (Cond.fieldLink own index ref (T k).2.1 (T k).2.2.1).before args s = true) (href : (T k).1 = ref) (hfin : (T k).2.2.2 = false) (hd : parseFieldDescriptor (T k).2.2.1 = some ty) (hn : narrow ty v = v) (hfit : fits ty v = true) (hl : k < fs.length) (hw : ws.set q0 (a, .inr (ci, fs.set k v)) = wn) (hdg : decode cc pc = .ok (.putfield index, 3))
    (kk : ∀ (H1 : Heap) (locs1 : List Loc), va_P D cl wn H1 → va_D A wn → va_S A H0 H1 locs1 → W p l e R s m args below meth c H1 locs1 cells slots Q (F0 m (pc + 3) ls rest)) : W p l e R s m args below meth c H locs cells slots Q (F0 m pc ls (v :: .ref a :: rest)) :=
  va_put hx hb hts hin ty0 hty hnm hown hK hP hD hS q0 he hc k hk hlink (fun x hx => href ▸ hx) hfin hd hn hfit hl hdg (fun H1 locs1 hP1 hD1 hS1 => kk H1 locs1 (hw ▸ hP1) (hw ▸ hD1) hS1)
/-- calls of what writes nothing -/
theorem zz_cV {y : MethodName} {bytes : ByteArray} {maxL nL n index ci q0 : Nat} {ret : Option FieldType} {wd : List Cond} {rm : Room} {Ts : List Cond} {own C : String} {b : Nat} {As st0 : List Value} {wc : va_W} {tc : List (ClassId × FieldType)} {v : Int32} {q : vw_C} {fs : List Value} (S : CallFix p m c cc nL s args Ts own) (hM : zz_MPi l y wd rm D cl tc wc (.ref b :: As) v) (cw : CallW R s args own C index y bytes maxL ret wd rm 0 0 n) (hP : va_P D cl wc H) (hK : va_K D cl tc s) (hc : cl[ci]? = some q) (hq : q.1 = C) (he : wc[q0]? = some (b, .inr (ci, fs))) (hn : As.length = n) (hl : ls.size = nL) (hst : st0 = As.reverse ++ .ref b :: rest) (hW : (rest.map fun v => v.category).sum ≤ 8) (hdg : decode cc pc = .ok (.invokevirtual index, 3)) (hf : cells + 0 ≤ R.cells ∧ slots + 0 ≤ R.slots) (kk : W p l e R s m args below meth c H locs cells slots Q (F0 m (pc + 3) ls (.int v :: rest))) : W p l e R s m args below meth c H locs cells slots Q (F0 m pc ls st0) := by
  subst hq
  refine vp_callSi (W.runV (As := As) (rest := rest) (b := b) S hM cw ⟨zz_blind, va_recv hK hP hc he, fun U hU hW => ⟨rfl, by rw [hU]; exact hP, va_K.moved hW.alike hK⟩⟩ rfl hn hl hst (lv_room hW) hdg hf) (fun r hr => ?_)
  rw [hr]; exact kk
theorem zz_cVl {y : MethodName} {bytes : ByteArray} {maxL nL n index ci q0 : Nat} {ret : Option FieldType} {wd : List Cond} {rm : Room} {Ts : List Cond} {own C : String} {b : Nat} {As st0 : List Value} {wc : va_W} {tc : List (ClassId × FieldType)} {v : Int64} {q : vw_C} {fs : List Value} (S : CallFix p m c cc nL s args Ts own) (hM : zz_MPl l y wd rm D cl tc wc (.ref b :: As) v) (cw : CallW R s args own C index y bytes maxL ret wd rm 0 0 n) (hP : va_P D cl wc H) (hK : va_K D cl tc s) (hc : cl[ci]? = some q) (hq : q.1 = C) (he : wc[q0]? = some (b, .inr (ci, fs))) (hn : As.length = n) (hl : ls.size = nL) (hst : st0 = As.reverse ++ .ref b :: rest) (hW : (rest.map fun v => v.category).sum ≤ 8) (hdg : decode cc pc = .ok (.invokevirtual index, 3)) (hf : cells + 0 ≤ R.cells ∧ slots + 0 ≤ R.slots) (kk : W p l e R s m args below meth c H locs cells slots Q (F0 m (pc + 3) ls (.long v :: rest))) : W p l e R s m args below meth c H locs cells slots Q (F0 m pc ls st0) := by
  subst hq
  refine vp_callSl (W.runV (As := As) (rest := rest) (b := b) S hM cw ⟨zz_blind, va_recv hK hP hc he, fun U hU hW => ⟨rfl, by rw [hU]; exact hP, va_K.moved hW.alike hK⟩⟩ rfl hn hl hst (lv_room hW) hdg hf) (fun r hr => ?_)
  rw [hr]; exact kk
theorem zz_cS {y : MethodName} {bytes : ByteArray} {maxL nL n index : Nat} {ret : Option FieldType} {wd : List Cond} {rm : Room} {Ts : List Cond} {own : String} {As st0 : List Value} {wc : va_W} {tc : List (ClassId × FieldType)} {v : Int32} (S : CallFix p m c cc nL s args Ts own) (hM : zz_MPi l y wd rm D cl tc wc As v) (cw : CallB R s args own index y bytes maxL ret wd rm 0 0 n ∧ (Cond.static y).before args s = true) (hP : va_P D cl wc H) (hK : va_K D cl tc s) (hn : As.length = n) (hl : ls.size = nL) (hst : st0 = As.reverse ++ rest) (hW : (rest.map fun v => v.category).sum ≤ 8) (hdg : decode cc pc = .ok (.invokestatic index, 3)) (hf : cells + 0 ≤ R.cells ∧ slots + 0 ≤ R.slots) (kk : W p l e R s m args below meth c H locs cells slots Q (F0 m (pc + 3) ls (.int v :: rest))) : W p l e R s m args below meth c H locs cells slots Q (F0 m pc ls st0) := by
  refine vp_callSi (W.runS (As := As) (rest := rest) S hM cw ⟨zz_blind, fun U hU hW => ⟨rfl, by rw [hU]; exact hP, va_K.moved hW.alike hK⟩⟩ rfl hn hl hst (lv_room hW) hdg hf) (fun r hr => ?_)
  rw [hr]; exact kk
theorem zz_cSl {y : MethodName} {bytes : ByteArray} {maxL nL n index : Nat} {ret : Option FieldType} {wd : List Cond} {rm : Room} {Ts : List Cond} {own : String} {As st0 : List Value} {wc : va_W} {tc : List (ClassId × FieldType)} {v : Int64} (S : CallFix p m c cc nL s args Ts own) (hM : zz_MPl l y wd rm D cl tc wc As v) (cw : CallB R s args own index y bytes maxL ret wd rm 0 0 n ∧ (Cond.static y).before args s = true) (hP : va_P D cl wc H) (hK : va_K D cl tc s) (hn : As.length = n) (hl : ls.size = nL) (hst : st0 = As.reverse ++ rest) (hW : (rest.map fun v => v.category).sum ≤ 8) (hdg : decode cc pc = .ok (.invokestatic index, 3)) (hf : cells + 0 ≤ R.cells ∧ slots + 0 ≤ R.slots) (kk : W p l e R s m args below meth c H locs cells slots Q (F0 m (pc + 3) ls (.long v :: rest))) : W p l e R s m args below meth c H locs cells slots Q (F0 m pc ls st0) := by
  refine vp_callSl (W.runS (As := As) (rest := rest) S hM cw ⟨zz_blind, fun U hU hW => ⟨rfl, by rw [hU]; exact hP, va_K.moved hW.alike hK⟩⟩ rfl hn hl hst (lv_room hW) hdg hf) (fun r hr => ?_)
  rw [hr]; exact kk

theorem zz_wVi {y : MethodName} {bytes : ByteArray} {maxL nL n index ci q0 : Nat} {ret : Option FieldType} {wd : List Cond} {rm : Room} {Ts : List Cond} {own C : String} {b : Nat} {As st0 : List Value} {wc wn wr wz : va_W} {tc : List (ClassId × FieldType)} {v : Int32} {q : vw_C} {fs : List Value} (isC isR isB : List Nat) (S : CallFix p m c cc nL s args Ts own) (hM : zz_MWi l y wd rm D cl tc wc wn (.ref b :: As) v) (cw : CallW R s args own C index y bytes maxL ret wd rm 0 0 n) (hP : va_P D cl ws H) (hD : va_D A ws) (hS : va_S A H0 H locs) (hA : ∀ q, H0.size ≤ q → A q) (hC : isC.map (fun i => ws[i]?) = wc.map some) (hR : isR.map (fun i => ws[i]?) = wr.map some) (hCn : va_nd isC = true) (hnd : va_nd isR = true) (hdis : ∀ i ∈ isR, i ∉ isC) (hB : isB.map (fun i => (wr ++ wn)[i]?) = wz.map some) (hBn : va_nd isB = true) (hK : va_K D cl tc s) (hc : cl[ci]? = some q) (hq : q.1 = C) (he : wc[q0]? = some (b, .inr (ci, fs))) (hn : As.length = n) (hl : ls.size = nL) (hst : st0 = As.reverse ++ .ref b :: rest) (hW : (rest.map fun v => v.category).sum ≤ 8) (hdg : decode cc pc = .ok (.invokevirtual index, 3)) (hf : cells + 0 ≤ R.cells ∧ slots + 0 ≤ R.slots)
    (kk : ∀ (H1 : Heap) (locs1 : List Loc), va_P D cl wz H1 → va_D A wz → va_S A H0 H1 locs1 → W p l e R s m args below meth c H1 locs1 cells slots Q (F0 m (pc + 3) ls (.int v :: rest))) : W p l e R s m args below meth c H locs cells slots Q (F0 m pc ls st0) := by
  subst hq
  have hPc : va_P D cl wc H := fun k x hk => by
    have h1 : (wc.map some)[k]? = some (some x) := by rw [List.getElem?_map, hk]; rfl
    rw [← hC, List.getElem?_map] at h1
    cases h2 : isC[k]? with
    | none => rw [h2] at h1; cases h1
    | some i => rw [h2] at h1; exact hP i x (Option.some.inj h1)
  have hDc0 : va_D (fun _ => True) wc := (hD.sub isC hCn hC).weaken (fun _ _ _ _ => trivial)
  have hFc := va_free (wc := wc) hD hS hA isC hC
  refine va_calli (va_runV (As := As) (rest := rest) (b := b) S (hM H.size) cw ⟨zz_blindW, va_recv hK hPc hc he, fun U hU hW => ⟨rfl, by rw [hU], by rw [hU]; exact hPc, va_K.moved hW.alike hK, hDc0⟩⟩ rfl hn hl hst (lv_room hW) hdg hf) hS (fun q _ h => hFc q h) hFc (fun r_ u t H1 locs1 ht hvm hw hBB hz1 hk1 hS1 => ?_)
  obtain ⟨hP1, hD1⟩ := hBB
  rw [ht] at hP1
  obtain ⟨hP2, hD2⟩ := va_join hP hD isC isR hC hR hnd hdis hk1 hFc hP1 hD1
  have hP3 : va_P D cl wz H1 := zz_psub hP2 hB
  have hD3 : va_D A wz := hD2.sub isB hBn hB
  subst hw
  exact kk H1 locs1 hP3 hD3 hS1
theorem zz_wVl {y : MethodName} {bytes : ByteArray} {maxL nL n index ci q0 : Nat} {ret : Option FieldType} {wd : List Cond} {rm : Room} {Ts : List Cond} {own C : String} {b : Nat} {As st0 : List Value} {wc wn wr wz : va_W} {tc : List (ClassId × FieldType)} {v : Int64} {q : vw_C} {fs : List Value} (isC isR isB : List Nat) (S : CallFix p m c cc nL s args Ts own) (hM : zz_MWl l y wd rm D cl tc wc wn (.ref b :: As) v) (cw : CallW R s args own C index y bytes maxL ret wd rm 0 0 n) (hP : va_P D cl ws H) (hD : va_D A ws) (hS : va_S A H0 H locs) (hA : ∀ q, H0.size ≤ q → A q) (hC : isC.map (fun i => ws[i]?) = wc.map some) (hR : isR.map (fun i => ws[i]?) = wr.map some) (hCn : va_nd isC = true) (hnd : va_nd isR = true) (hdis : ∀ i ∈ isR, i ∉ isC) (hB : isB.map (fun i => (wr ++ wn)[i]?) = wz.map some) (hBn : va_nd isB = true) (hK : va_K D cl tc s) (hc : cl[ci]? = some q) (hq : q.1 = C) (he : wc[q0]? = some (b, .inr (ci, fs))) (hn : As.length = n) (hl : ls.size = nL) (hst : st0 = As.reverse ++ .ref b :: rest) (hW : (rest.map fun v => v.category).sum ≤ 8) (hdg : decode cc pc = .ok (.invokevirtual index, 3)) (hf : cells + 0 ≤ R.cells ∧ slots + 0 ≤ R.slots)
    (kk : ∀ (H1 : Heap) (locs1 : List Loc), va_P D cl wz H1 → va_D A wz → va_S A H0 H1 locs1 → W p l e R s m args below meth c H1 locs1 cells slots Q (F0 m (pc + 3) ls (.long v :: rest))) : W p l e R s m args below meth c H locs cells slots Q (F0 m pc ls st0) := by
  subst hq
  have hPc : va_P D cl wc H := fun k x hk => by
    have h1 : (wc.map some)[k]? = some (some x) := by rw [List.getElem?_map, hk]; rfl
    rw [← hC, List.getElem?_map] at h1
    cases h2 : isC[k]? with
    | none => rw [h2] at h1; cases h1
    | some i => rw [h2] at h1; exact hP i x (Option.some.inj h1)
  have hDc0 : va_D (fun _ => True) wc := (hD.sub isC hCn hC).weaken (fun _ _ _ _ => trivial)
  have hFc := va_free (wc := wc) hD hS hA isC hC
  refine va_calll (va_runV (As := As) (rest := rest) (b := b) S (hM H.size) cw ⟨zz_blindW, va_recv hK hPc hc he, fun U hU hW => ⟨rfl, by rw [hU], by rw [hU]; exact hPc, va_K.moved hW.alike hK, hDc0⟩⟩ rfl hn hl hst (lv_room hW) hdg hf) hS (fun q _ h => hFc q h) hFc (fun r_ u t H1 locs1 ht hvm hw hBB hz1 hk1 hS1 => ?_)
  obtain ⟨hP1, hD1⟩ := hBB
  rw [ht] at hP1
  obtain ⟨hP2, hD2⟩ := va_join hP hD isC isR hC hR hnd hdis hk1 hFc hP1 hD1
  have hP3 : va_P D cl wz H1 := zz_psub hP2 hB
  have hD3 : va_D A wz := hD2.sub isB hBn hB
  subst hw
  exact kk H1 locs1 hP3 hD3 hS1
theorem zz_wVv {y : MethodName} {bytes : ByteArray} {maxL nL n index ci q0 : Nat} {ret : Option FieldType} {wd : List Cond} {rm : Room} {Ts : List Cond} {own C : String} {b : Nat} {As st0 : List Value} {wc wn wr wz : va_W} {tc : List (ClassId × FieldType)} {q : vw_C} {fs : List Value} (isC isR isB : List Nat) (S : CallFix p m c cc nL s args Ts own) (hM : zz_MWv l y wd rm D cl tc wc wn (.ref b :: As)) (cw : CallW R s args own C index y bytes maxL ret wd rm 0 0 n) (hP : va_P D cl ws H) (hD : va_D A ws) (hS : va_S A H0 H locs) (hA : ∀ q, H0.size ≤ q → A q) (hC : isC.map (fun i => ws[i]?) = wc.map some) (hR : isR.map (fun i => ws[i]?) = wr.map some) (hCn : va_nd isC = true) (hnd : va_nd isR = true) (hdis : ∀ i ∈ isR, i ∉ isC) (hB : isB.map (fun i => (wr ++ wn)[i]?) = wz.map some) (hBn : va_nd isB = true) (hK : va_K D cl tc s) (hc : cl[ci]? = some q) (hq : q.1 = C) (he : wc[q0]? = some (b, .inr (ci, fs))) (hn : As.length = n) (hl : ls.size = nL) (hst : st0 = As.reverse ++ .ref b :: rest) (hW : (rest.map fun v => v.category).sum ≤ 8) (hdg : decode cc pc = .ok (.invokevirtual index, 3)) (hf : cells + 0 ≤ R.cells ∧ slots + 0 ≤ R.slots)
    (kk : ∀ (H1 : Heap) (locs1 : List Loc), va_P D cl wz H1 → va_D A wz → va_S A H0 H1 locs1 → W p l e R s m args below meth c H1 locs1 cells slots Q (F0 m (pc + 3) ls (rest))) : W p l e R s m args below meth c H locs cells slots Q (F0 m pc ls st0) := by
  subst hq
  have hPc : va_P D cl wc H := fun k x hk => by
    have h1 : (wc.map some)[k]? = some (some x) := by rw [List.getElem?_map, hk]; rfl
    rw [← hC, List.getElem?_map] at h1
    cases h2 : isC[k]? with
    | none => rw [h2] at h1; cases h1
    | some i => rw [h2] at h1; exact hP i x (Option.some.inj h1)
  have hDc0 : va_D (fun _ => True) wc := (hD.sub isC hCn hC).weaken (fun _ _ _ _ => trivial)
  have hFc := va_free (wc := wc) hD hS hA isC hC
  refine va_callv (va_runV (As := As) (rest := rest) (b := b) S (hM H.size) cw ⟨zz_blindW, va_recv hK hPc hc he, fun U hU hW => ⟨rfl, by rw [hU], by rw [hU]; exact hPc, va_K.moved hW.alike hK, hDc0⟩⟩ rfl hn hl hst (lv_room hW) hdg hf) hS (fun q _ h => hFc q h) hFc (fun u t H1 locs1 ht hvm hw hBB hz1 hk1 hS1 => ?_)
  obtain ⟨hP1, hD1⟩ := hBB
  rw [ht] at hP1
  obtain ⟨hP2, hD2⟩ := va_join hP hD isC isR hC hR hnd hdis hk1 hFc hP1 hD1
  have hP3 : va_P D cl wz H1 := zz_psub hP2 hB
  have hD3 : va_D A wz := hD2.sub isB hBn hB
  exact kk H1 locs1 hP3 hD3 hS1
end ZZ
