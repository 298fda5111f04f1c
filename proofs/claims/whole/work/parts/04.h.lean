/-! ===== pure programs: what a method computes, as a partial function; 'some' says that nothing is thrown and every loop ends within its fuel ===== -/
def zz_let {α β : Type} (a : α) (k : α → β) : β := k a
def zz_gd {α : Type} (b : Bool) (k : Option α) : Option α := if b = true then k else none
def zz_in (i : Int32) (n : Nat) : Bool := decide (0 ≤ i.toInt ∧ i.toInt < n)
def zz_isB (v : Int32) : Bool := decide (v = 0 ∨ v = 1)
def zz_nz (v : Int32) : Bool := decide (¬ v = 0)
def zz_nzL (v : Int64) : Bool := decide (¬ v = 0)
def zz_up2 {α : Type} (M : Nat → α) (i : Nat) (r : α) : Nat → α := fun k => if k = i then r else M k
theorem zz_let_use {α β : Type} {a : α} {k : α → β} {o : β} (h : zz_let a k = o) : ∃ x, a = x ∧ k x = o := ⟨a, rfl, h⟩
theorem zz_gd_use {α : Type} {b : Bool} {k : Option α} {o : α} (h : zz_gd b k = some o) : b = true ∧ k = some o := by
  unfold zz_gd at h
  by_cases hb : b = true
  · rw [if_pos hb] at h; exact ⟨hb, h⟩
  · rw [if_neg hb] at h; cases h
theorem zz_it {α : Type} {c : Prop} {h : Decidable c} {a b o : α} (hf : @ite α c h a b = o) (hc : c) : a = o := by rw [← hf, if_pos hc]
theorem zz_if {α : Type} {c : Prop} {h : Decidable c} {a b o : α} (hf : @ite α c h a b = o) (hc : ¬ c) : b = o := by rw [← hf, if_neg hc]
theorem zz_in_ok {i : Int32} {n : Nat} (h : zz_in i n = true) : vp_in i n := vp_in_iff.mpr (of_decide_eq_true h)
theorem zz_isB_ok {v : Int32} (h : zz_isB v = true) : narrow .boolean (.int v) = .int v := by
  rcases of_decide_eq_true h with e | e <;> subst e <;> rfl
theorem zz_isB_fit {v : Int32} (h : zz_isB v = true) : fits .boolean (.int v) = true := by
  rcases of_decide_eq_true h with e | e <;> subst e <;> rfl
theorem zz_nz_ok {v : Int32} (h : zz_nz v = true) : ¬ v = 0 := of_decide_eq_true h
theorem zz_nzL_ok {v : Int64} (h : zz_nzL v = true) : ¬ v = 0 := of_decide_eq_true h
theorem zz_none {α : Type} {o : α} {P : Prop} (h : (none : Option α) = some o) : P := nomatch h
def zz_b1 {A1 B : Type} (x : Option (A1)) (k : A1 → Option B) : Option B := x.bind (fun q => k q)
theorem zz_b1_use {A1 B : Type} {x : Option (A1)} {k : A1 → Option B} {o : B} (h : zz_b1 x k = some o) : ∃ a1, x = some a1 ∧ k a1 = some o := by
  cases x with
  | none => cases h
  | some q => exact ⟨q, rfl, h⟩
theorem zz_b1_some {A1 B : Type} {a1 : A1} {k : A1 → Option B} : zz_b1 (some a1) k = k a1 := rfl
def zz_b2 {A1 A2 B : Type} (x : Option (A1 × A2)) (k : A1 → A2 → Option B) : Option B := x.bind (fun q => k q.1 q.2)
theorem zz_b2_use {A1 A2 B : Type} {x : Option (A1 × A2)} {k : A1 → A2 → Option B} {o : B} (h : zz_b2 x k = some o) : ∃ a1 a2, x = some (a1, a2) ∧ k a1 a2 = some o := by
  cases x with
  | none => cases h
  | some q => exact ⟨q.1, q.2, rfl, h⟩
theorem zz_b2_some {A1 A2 B : Type} {a1 : A1} {a2 : A2} {k : A1 → A2 → Option B} : zz_b2 (some (a1, a2)) k = k a1 a2 := rfl
def zz_b3 {A1 A2 A3 B : Type} (x : Option (A1 × A2 × A3)) (k : A1 → A2 → A3 → Option B) : Option B := x.bind (fun q => k q.1 q.2.1 q.2.2)
theorem zz_b3_use {A1 A2 A3 B : Type} {x : Option (A1 × A2 × A3)} {k : A1 → A2 → A3 → Option B} {o : B} (h : zz_b3 x k = some o) : ∃ a1 a2 a3, x = some (a1, a2, a3) ∧ k a1 a2 a3 = some o := by
  cases x with
  | none => cases h
  | some q => exact ⟨q.1, q.2.1, q.2.2, rfl, h⟩
theorem zz_b3_some {A1 A2 A3 B : Type} {a1 : A1} {a2 : A2} {a3 : A3} {k : A1 → A2 → A3 → Option B} : zz_b3 (some (a1, a2, a3)) k = k a1 a2 a3 := rfl
def zz_b4 {A1 A2 A3 A4 B : Type} (x : Option (A1 × A2 × A3 × A4)) (k : A1 → A2 → A3 → A4 → Option B) : Option B := x.bind (fun q => k q.1 q.2.1 q.2.2.1 q.2.2.2)
theorem zz_b4_use {A1 A2 A3 A4 B : Type} {x : Option (A1 × A2 × A3 × A4)} {k : A1 → A2 → A3 → A4 → Option B} {o : B} (h : zz_b4 x k = some o) : ∃ a1 a2 a3 a4, x = some (a1, a2, a3, a4) ∧ k a1 a2 a3 a4 = some o := by
  cases x with
  | none => cases h
  | some q => exact ⟨q.1, q.2.1, q.2.2.1, q.2.2.2, rfl, h⟩
theorem zz_b4_some {A1 A2 A3 A4 B : Type} {a1 : A1} {a2 : A2} {a3 : A3} {a4 : A4} {k : A1 → A2 → A3 → A4 → Option B} : zz_b4 (some (a1, a2, a3, a4)) k = k a1 a2 a3 a4 := rfl
def zz_b5 {A1 A2 A3 A4 A5 B : Type} (x : Option (A1 × A2 × A3 × A4 × A5)) (k : A1 → A2 → A3 → A4 → A5 → Option B) : Option B := x.bind (fun q => k q.1 q.2.1 q.2.2.1 q.2.2.2.1 q.2.2.2.2)
theorem zz_b5_use {A1 A2 A3 A4 A5 B : Type} {x : Option (A1 × A2 × A3 × A4 × A5)} {k : A1 → A2 → A3 → A4 → A5 → Option B} {o : B} (h : zz_b5 x k = some o) : ∃ a1 a2 a3 a4 a5, x = some (a1, a2, a3, a4, a5) ∧ k a1 a2 a3 a4 a5 = some o := by
  cases x with
  | none => cases h
  | some q => exact ⟨q.1, q.2.1, q.2.2.1, q.2.2.2.1, q.2.2.2.2, rfl, h⟩
theorem zz_b5_some {A1 A2 A3 A4 A5 B : Type} {a1 : A1} {a2 : A2} {a3 : A3} {a4 : A4} {a5 : A5} {k : A1 → A2 → A3 → A4 → A5 → Option B} : zz_b5 (some (a1, a2, a3, a4, a5)) k = k a1 a2 a3 a4 a5 := rfl
def zz_b6 {A1 A2 A3 A4 A5 A6 B : Type} (x : Option (A1 × A2 × A3 × A4 × A5 × A6)) (k : A1 → A2 → A3 → A4 → A5 → A6 → Option B) : Option B := x.bind (fun q => k q.1 q.2.1 q.2.2.1 q.2.2.2.1 q.2.2.2.2.1 q.2.2.2.2.2)
theorem zz_b6_use {A1 A2 A3 A4 A5 A6 B : Type} {x : Option (A1 × A2 × A3 × A4 × A5 × A6)} {k : A1 → A2 → A3 → A4 → A5 → A6 → Option B} {o : B} (h : zz_b6 x k = some o) : ∃ a1 a2 a3 a4 a5 a6, x = some (a1, a2, a3, a4, a5, a6) ∧ k a1 a2 a3 a4 a5 a6 = some o := by
  cases x with
  | none => cases h
  | some q => exact ⟨q.1, q.2.1, q.2.2.1, q.2.2.2.1, q.2.2.2.2.1, q.2.2.2.2.2, rfl, h⟩
theorem zz_b6_some {A1 A2 A3 A4 A5 A6 B : Type} {a1 : A1} {a2 : A2} {a3 : A3} {a4 : A4} {a5 : A5} {a6 : A6} {k : A1 → A2 → A3 → A4 → A5 → A6 → Option B} : zz_b6 (some (a1, a2, a3, a4, a5, a6)) k = k a1 a2 a3 a4 a5 a6 := rfl
def zz_b7 {A1 A2 A3 A4 A5 A6 A7 B : Type} (x : Option (A1 × A2 × A3 × A4 × A5 × A6 × A7)) (k : A1 → A2 → A3 → A4 → A5 → A6 → A7 → Option B) : Option B := x.bind (fun q => k q.1 q.2.1 q.2.2.1 q.2.2.2.1 q.2.2.2.2.1 q.2.2.2.2.2.1 q.2.2.2.2.2.2)
theorem zz_b7_use {A1 A2 A3 A4 A5 A6 A7 B : Type} {x : Option (A1 × A2 × A3 × A4 × A5 × A6 × A7)} {k : A1 → A2 → A3 → A4 → A5 → A6 → A7 → Option B} {o : B} (h : zz_b7 x k = some o) : ∃ a1 a2 a3 a4 a5 a6 a7, x = some (a1, a2, a3, a4, a5, a6, a7) ∧ k a1 a2 a3 a4 a5 a6 a7 = some o := by
  cases x with
  | none => cases h
  | some q => exact ⟨q.1, q.2.1, q.2.2.1, q.2.2.2.1, q.2.2.2.2.1, q.2.2.2.2.2.1, q.2.2.2.2.2.2, rfl, h⟩
theorem zz_b7_some {A1 A2 A3 A4 A5 A6 A7 B : Type} {a1 : A1} {a2 : A2} {a3 : A3} {a4 : A4} {a5 : A5} {a6 : A6} {a7 : A7} {k : A1 → A2 → A3 → A4 → A5 → A6 → A7 → Option B} : zz_b7 (some (a1, a2, a3, a4, a5, a6, a7)) k = k a1 a2 a3 a4 a5 a6 a7 := rfl
def zz_b8 {A1 A2 A3 A4 A5 A6 A7 A8 B : Type} (x : Option (A1 × A2 × A3 × A4 × A5 × A6 × A7 × A8)) (k : A1 → A2 → A3 → A4 → A5 → A6 → A7 → A8 → Option B) : Option B := x.bind (fun q => k q.1 q.2.1 q.2.2.1 q.2.2.2.1 q.2.2.2.2.1 q.2.2.2.2.2.1 q.2.2.2.2.2.2.1 q.2.2.2.2.2.2.2)
theorem zz_b8_use {A1 A2 A3 A4 A5 A6 A7 A8 B : Type} {x : Option (A1 × A2 × A3 × A4 × A5 × A6 × A7 × A8)} {k : A1 → A2 → A3 → A4 → A5 → A6 → A7 → A8 → Option B} {o : B} (h : zz_b8 x k = some o) : ∃ a1 a2 a3 a4 a5 a6 a7 a8, x = some (a1, a2, a3, a4, a5, a6, a7, a8) ∧ k a1 a2 a3 a4 a5 a6 a7 a8 = some o := by
  cases x with
  | none => cases h
  | some q => exact ⟨q.1, q.2.1, q.2.2.1, q.2.2.2.1, q.2.2.2.2.1, q.2.2.2.2.2.1, q.2.2.2.2.2.2.1, q.2.2.2.2.2.2.2, rfl, h⟩
theorem zz_b8_some {A1 A2 A3 A4 A5 A6 A7 A8 B : Type} {a1 : A1} {a2 : A2} {a3 : A3} {a4 : A4} {a5 : A5} {a6 : A6} {a7 : A7} {a8 : A8} {k : A1 → A2 → A3 → A4 → A5 → A6 → A7 → A8 → Option B} : zz_b8 (some (a1, a2, a3, a4, a5, a6, a7, a8)) k = k a1 a2 a3 a4 a5 a6 a7 a8 := rfl
def zz_b9 {A1 A2 A3 A4 A5 A6 A7 A8 A9 B : Type} (x : Option (A1 × A2 × A3 × A4 × A5 × A6 × A7 × A8 × A9)) (k : A1 → A2 → A3 → A4 → A5 → A6 → A7 → A8 → A9 → Option B) : Option B := x.bind (fun q => k q.1 q.2.1 q.2.2.1 q.2.2.2.1 q.2.2.2.2.1 q.2.2.2.2.2.1 q.2.2.2.2.2.2.1 q.2.2.2.2.2.2.2.1 q.2.2.2.2.2.2.2.2)
theorem zz_b9_use {A1 A2 A3 A4 A5 A6 A7 A8 A9 B : Type} {x : Option (A1 × A2 × A3 × A4 × A5 × A6 × A7 × A8 × A9)} {k : A1 → A2 → A3 → A4 → A5 → A6 → A7 → A8 → A9 → Option B} {o : B} (h : zz_b9 x k = some o) : ∃ a1 a2 a3 a4 a5 a6 a7 a8 a9, x = some (a1, a2, a3, a4, a5, a6, a7, a8, a9) ∧ k a1 a2 a3 a4 a5 a6 a7 a8 a9 = some o := by
  cases x with
  | none => cases h
  | some q => exact ⟨q.1, q.2.1, q.2.2.1, q.2.2.2.1, q.2.2.2.2.1, q.2.2.2.2.2.1, q.2.2.2.2.2.2.1, q.2.2.2.2.2.2.2.1, q.2.2.2.2.2.2.2.2, rfl, h⟩
theorem zz_b9_some {A1 A2 A3 A4 A5 A6 A7 A8 A9 B : Type} {a1 : A1} {a2 : A2} {a3 : A3} {a4 : A4} {a5 : A5} {a6 : A6} {a7 : A7} {a8 : A8} {a9 : A9} {k : A1 → A2 → A3 → A4 → A5 → A6 → A7 → A8 → A9 → Option B} : zz_b9 (some (a1, a2, a3, a4, a5, a6, a7, a8, a9)) k = k a1 a2 a3 a4 a5 a6 a7 a8 a9 := rfl
def zz_b10 {A1 A2 A3 A4 A5 A6 A7 A8 A9 A10 B : Type} (x : Option (A1 × A2 × A3 × A4 × A5 × A6 × A7 × A8 × A9 × A10)) (k : A1 → A2 → A3 → A4 → A5 → A6 → A7 → A8 → A9 → A10 → Option B) : Option B := x.bind (fun q => k q.1 q.2.1 q.2.2.1 q.2.2.2.1 q.2.2.2.2.1 q.2.2.2.2.2.1 q.2.2.2.2.2.2.1 q.2.2.2.2.2.2.2.1 q.2.2.2.2.2.2.2.2.1 q.2.2.2.2.2.2.2.2.2)
theorem zz_b10_use {A1 A2 A3 A4 A5 A6 A7 A8 A9 A10 B : Type} {x : Option (A1 × A2 × A3 × A4 × A5 × A6 × A7 × A8 × A9 × A10)} {k : A1 → A2 → A3 → A4 → A5 → A6 → A7 → A8 → A9 → A10 → Option B} {o : B} (h : zz_b10 x k = some o) : ∃ a1 a2 a3 a4 a5 a6 a7 a8 a9 a10, x = some (a1, a2, a3, a4, a5, a6, a7, a8, a9, a10) ∧ k a1 a2 a3 a4 a5 a6 a7 a8 a9 a10 = some o := by
  cases x with
  | none => cases h
  | some q => exact ⟨q.1, q.2.1, q.2.2.1, q.2.2.2.1, q.2.2.2.2.1, q.2.2.2.2.2.1, q.2.2.2.2.2.2.1, q.2.2.2.2.2.2.2.1, q.2.2.2.2.2.2.2.2.1, q.2.2.2.2.2.2.2.2.2, rfl, h⟩
theorem zz_b10_some {A1 A2 A3 A4 A5 A6 A7 A8 A9 A10 B : Type} {a1 : A1} {a2 : A2} {a3 : A3} {a4 : A4} {a5 : A5} {a6 : A6} {a7 : A7} {a8 : A8} {a9 : A9} {a10 : A10} {k : A1 → A2 → A3 → A4 → A5 → A6 → A7 → A8 → A9 → A10 → Option B} : zz_b10 (some (a1, a2, a3, a4, a5, a6, a7, a8, a9, a10)) k = k a1 a2 a3 a4 a5 a6 a7 a8 a9 a10 := rfl
def zz_b11 {A1 A2 A3 A4 A5 A6 A7 A8 A9 A10 A11 B : Type} (x : Option (A1 × A2 × A3 × A4 × A5 × A6 × A7 × A8 × A9 × A10 × A11)) (k : A1 → A2 → A3 → A4 → A5 → A6 → A7 → A8 → A9 → A10 → A11 → Option B) : Option B := x.bind (fun q => k q.1 q.2.1 q.2.2.1 q.2.2.2.1 q.2.2.2.2.1 q.2.2.2.2.2.1 q.2.2.2.2.2.2.1 q.2.2.2.2.2.2.2.1 q.2.2.2.2.2.2.2.2.1 q.2.2.2.2.2.2.2.2.2.1 q.2.2.2.2.2.2.2.2.2.2)
theorem zz_b11_use {A1 A2 A3 A4 A5 A6 A7 A8 A9 A10 A11 B : Type} {x : Option (A1 × A2 × A3 × A4 × A5 × A6 × A7 × A8 × A9 × A10 × A11)} {k : A1 → A2 → A3 → A4 → A5 → A6 → A7 → A8 → A9 → A10 → A11 → Option B} {o : B} (h : zz_b11 x k = some o) : ∃ a1 a2 a3 a4 a5 a6 a7 a8 a9 a10 a11, x = some (a1, a2, a3, a4, a5, a6, a7, a8, a9, a10, a11) ∧ k a1 a2 a3 a4 a5 a6 a7 a8 a9 a10 a11 = some o := by
  cases x with
  | none => cases h
  | some q => exact ⟨q.1, q.2.1, q.2.2.1, q.2.2.2.1, q.2.2.2.2.1, q.2.2.2.2.2.1, q.2.2.2.2.2.2.1, q.2.2.2.2.2.2.2.1, q.2.2.2.2.2.2.2.2.1, q.2.2.2.2.2.2.2.2.2.1, q.2.2.2.2.2.2.2.2.2.2, rfl, h⟩
theorem zz_b11_some {A1 A2 A3 A4 A5 A6 A7 A8 A9 A10 A11 B : Type} {a1 : A1} {a2 : A2} {a3 : A3} {a4 : A4} {a5 : A5} {a6 : A6} {a7 : A7} {a8 : A8} {a9 : A9} {a10 : A10} {a11 : A11} {k : A1 → A2 → A3 → A4 → A5 → A6 → A7 → A8 → A9 → A10 → A11 → Option B} : zz_b11 (some (a1, a2, a3, a4, a5, a6, a7, a8, a9, a10, a11)) k = k a1 a2 a3 a4 a5 a6 a7 a8 a9 a10 a11 := rfl
def zz_b12 {A1 A2 A3 A4 A5 A6 A7 A8 A9 A10 A11 A12 B : Type} (x : Option (A1 × A2 × A3 × A4 × A5 × A6 × A7 × A8 × A9 × A10 × A11 × A12)) (k : A1 → A2 → A3 → A4 → A5 → A6 → A7 → A8 → A9 → A10 → A11 → A12 → Option B) : Option B := x.bind (fun q => k q.1 q.2.1 q.2.2.1 q.2.2.2.1 q.2.2.2.2.1 q.2.2.2.2.2.1 q.2.2.2.2.2.2.1 q.2.2.2.2.2.2.2.1 q.2.2.2.2.2.2.2.2.1 q.2.2.2.2.2.2.2.2.2.1 q.2.2.2.2.2.2.2.2.2.2.1 q.2.2.2.2.2.2.2.2.2.2.2)
theorem zz_b12_use {A1 A2 A3 A4 A5 A6 A7 A8 A9 A10 A11 A12 B : Type} {x : Option (A1 × A2 × A3 × A4 × A5 × A6 × A7 × A8 × A9 × A10 × A11 × A12)} {k : A1 → A2 → A3 → A4 → A5 → A6 → A7 → A8 → A9 → A10 → A11 → A12 → Option B} {o : B} (h : zz_b12 x k = some o) : ∃ a1 a2 a3 a4 a5 a6 a7 a8 a9 a10 a11 a12, x = some (a1, a2, a3, a4, a5, a6, a7, a8, a9, a10, a11, a12) ∧ k a1 a2 a3 a4 a5 a6 a7 a8 a9 a10 a11 a12 = some o := by
  cases x with
  | none => cases h
  | some q => exact ⟨q.1, q.2.1, q.2.2.1, q.2.2.2.1, q.2.2.2.2.1, q.2.2.2.2.2.1, q.2.2.2.2.2.2.1, q.2.2.2.2.2.2.2.1, q.2.2.2.2.2.2.2.2.1, q.2.2.2.2.2.2.2.2.2.1, q.2.2.2.2.2.2.2.2.2.2.1, q.2.2.2.2.2.2.2.2.2.2.2, rfl, h⟩
theorem zz_b12_some {A1 A2 A3 A4 A5 A6 A7 A8 A9 A10 A11 A12 B : Type} {a1 : A1} {a2 : A2} {a3 : A3} {a4 : A4} {a5 : A5} {a6 : A6} {a7 : A7} {a8 : A8} {a9 : A9} {a10 : A10} {a11 : A11} {a12 : A12} {k : A1 → A2 → A3 → A4 → A5 → A6 → A7 → A8 → A9 → A10 → A11 → A12 → Option B} : zz_b12 (some (a1, a2, a3, a4, a5, a6, a7, a8, a9, a10, a11, a12)) k = k a1 a2 a3 a4 a5 a6 a7 a8 a9 a10 a11 a12 := rfl
def zz_b13 {A1 A2 A3 A4 A5 A6 A7 A8 A9 A10 A11 A12 A13 B : Type} (x : Option (A1 × A2 × A3 × A4 × A5 × A6 × A7 × A8 × A9 × A10 × A11 × A12 × A13)) (k : A1 → A2 → A3 → A4 → A5 → A6 → A7 → A8 → A9 → A10 → A11 → A12 → A13 → Option B) : Option B := x.bind (fun q => k q.1 q.2.1 q.2.2.1 q.2.2.2.1 q.2.2.2.2.1 q.2.2.2.2.2.1 q.2.2.2.2.2.2.1 q.2.2.2.2.2.2.2.1 q.2.2.2.2.2.2.2.2.1 q.2.2.2.2.2.2.2.2.2.1 q.2.2.2.2.2.2.2.2.2.2.1 q.2.2.2.2.2.2.2.2.2.2.2.1 q.2.2.2.2.2.2.2.2.2.2.2.2)
theorem zz_b13_use {A1 A2 A3 A4 A5 A6 A7 A8 A9 A10 A11 A12 A13 B : Type} {x : Option (A1 × A2 × A3 × A4 × A5 × A6 × A7 × A8 × A9 × A10 × A11 × A12 × A13)} {k : A1 → A2 → A3 → A4 → A5 → A6 → A7 → A8 → A9 → A10 → A11 → A12 → A13 → Option B} {o : B} (h : zz_b13 x k = some o) : ∃ a1 a2 a3 a4 a5 a6 a7 a8 a9 a10 a11 a12 a13, x = some (a1, a2, a3, a4, a5, a6, a7, a8, a9, a10, a11, a12, a13) ∧ k a1 a2 a3 a4 a5 a6 a7 a8 a9 a10 a11 a12 a13 = some o := by
  cases x with
  | none => cases h
  | some q => exact ⟨q.1, q.2.1, q.2.2.1, q.2.2.2.1, q.2.2.2.2.1, q.2.2.2.2.2.1, q.2.2.2.2.2.2.1, q.2.2.2.2.2.2.2.1, q.2.2.2.2.2.2.2.2.1, q.2.2.2.2.2.2.2.2.2.1, q.2.2.2.2.2.2.2.2.2.2.1, q.2.2.2.2.2.2.2.2.2.2.2.1, q.2.2.2.2.2.2.2.2.2.2.2.2, rfl, h⟩
theorem zz_b13_some {A1 A2 A3 A4 A5 A6 A7 A8 A9 A10 A11 A12 A13 B : Type} {a1 : A1} {a2 : A2} {a3 : A3} {a4 : A4} {a5 : A5} {a6 : A6} {a7 : A7} {a8 : A8} {a9 : A9} {a10 : A10} {a11 : A11} {a12 : A12} {a13 : A13} {k : A1 → A2 → A3 → A4 → A5 → A6 → A7 → A8 → A9 → A10 → A11 → A12 → A13 → Option B} : zz_b13 (some (a1, a2, a3, a4, a5, a6, a7, a8, a9, a10, a11, a12, a13)) k = k a1 a2 a3 a4 a5 a6 a7 a8 a9 a10 a11 a12 a13 := rfl
def zz_b14 {A1 A2 A3 A4 A5 A6 A7 A8 A9 A10 A11 A12 A13 A14 B : Type} (x : Option (A1 × A2 × A3 × A4 × A5 × A6 × A7 × A8 × A9 × A10 × A11 × A12 × A13 × A14)) (k : A1 → A2 → A3 → A4 → A5 → A6 → A7 → A8 → A9 → A10 → A11 → A12 → A13 → A14 → Option B) : Option B := x.bind (fun q => k q.1 q.2.1 q.2.2.1 q.2.2.2.1 q.2.2.2.2.1 q.2.2.2.2.2.1 q.2.2.2.2.2.2.1 q.2.2.2.2.2.2.2.1 q.2.2.2.2.2.2.2.2.1 q.2.2.2.2.2.2.2.2.2.1 q.2.2.2.2.2.2.2.2.2.2.1 q.2.2.2.2.2.2.2.2.2.2.2.1 q.2.2.2.2.2.2.2.2.2.2.2.2.1 q.2.2.2.2.2.2.2.2.2.2.2.2.2)
theorem zz_b14_use {A1 A2 A3 A4 A5 A6 A7 A8 A9 A10 A11 A12 A13 A14 B : Type} {x : Option (A1 × A2 × A3 × A4 × A5 × A6 × A7 × A8 × A9 × A10 × A11 × A12 × A13 × A14)} {k : A1 → A2 → A3 → A4 → A5 → A6 → A7 → A8 → A9 → A10 → A11 → A12 → A13 → A14 → Option B} {o : B} (h : zz_b14 x k = some o) : ∃ a1 a2 a3 a4 a5 a6 a7 a8 a9 a10 a11 a12 a13 a14, x = some (a1, a2, a3, a4, a5, a6, a7, a8, a9, a10, a11, a12, a13, a14) ∧ k a1 a2 a3 a4 a5 a6 a7 a8 a9 a10 a11 a12 a13 a14 = some o := by
  cases x with
  | none => cases h
  | some q => exact ⟨q.1, q.2.1, q.2.2.1, q.2.2.2.1, q.2.2.2.2.1, q.2.2.2.2.2.1, q.2.2.2.2.2.2.1, q.2.2.2.2.2.2.2.1, q.2.2.2.2.2.2.2.2.1, q.2.2.2.2.2.2.2.2.2.1, q.2.2.2.2.2.2.2.2.2.2.1, q.2.2.2.2.2.2.2.2.2.2.2.1, q.2.2.2.2.2.2.2.2.2.2.2.2.1, q.2.2.2.2.2.2.2.2.2.2.2.2.2, rfl, h⟩
theorem zz_b14_some {A1 A2 A3 A4 A5 A6 A7 A8 A9 A10 A11 A12 A13 A14 B : Type} {a1 : A1} {a2 : A2} {a3 : A3} {a4 : A4} {a5 : A5} {a6 : A6} {a7 : A7} {a8 : A8} {a9 : A9} {a10 : A10} {a11 : A11} {a12 : A12} {a13 : A13} {a14 : A14} {k : A1 → A2 → A3 → A4 → A5 → A6 → A7 → A8 → A9 → A10 → A11 → A12 → A13 → A14 → Option B} : zz_b14 (some (a1, a2, a3, a4, a5, a6, a7, a8, a9, a10, a11, a12, a13, a14)) k = k a1 a2 a3 a4 a5 a6 a7 a8 a9 a10 a11 a12 a13 a14 := rfl
def zz_b15 {A1 A2 A3 A4 A5 A6 A7 A8 A9 A10 A11 A12 A13 A14 A15 B : Type} (x : Option (A1 × A2 × A3 × A4 × A5 × A6 × A7 × A8 × A9 × A10 × A11 × A12 × A13 × A14 × A15)) (k : A1 → A2 → A3 → A4 → A5 → A6 → A7 → A8 → A9 → A10 → A11 → A12 → A13 → A14 → A15 → Option B) : Option B := x.bind (fun q => k q.1 q.2.1 q.2.2.1 q.2.2.2.1 q.2.2.2.2.1 q.2.2.2.2.2.1 q.2.2.2.2.2.2.1 q.2.2.2.2.2.2.2.1 q.2.2.2.2.2.2.2.2.1 q.2.2.2.2.2.2.2.2.2.1 q.2.2.2.2.2.2.2.2.2.2.1 q.2.2.2.2.2.2.2.2.2.2.2.1 q.2.2.2.2.2.2.2.2.2.2.2.2.1 q.2.2.2.2.2.2.2.2.2.2.2.2.2.1 q.2.2.2.2.2.2.2.2.2.2.2.2.2.2)
theorem zz_b15_use {A1 A2 A3 A4 A5 A6 A7 A8 A9 A10 A11 A12 A13 A14 A15 B : Type} {x : Option (A1 × A2 × A3 × A4 × A5 × A6 × A7 × A8 × A9 × A10 × A11 × A12 × A13 × A14 × A15)} {k : A1 → A2 → A3 → A4 → A5 → A6 → A7 → A8 → A9 → A10 → A11 → A12 → A13 → A14 → A15 → Option B} {o : B} (h : zz_b15 x k = some o) : ∃ a1 a2 a3 a4 a5 a6 a7 a8 a9 a10 a11 a12 a13 a14 a15, x = some (a1, a2, a3, a4, a5, a6, a7, a8, a9, a10, a11, a12, a13, a14, a15) ∧ k a1 a2 a3 a4 a5 a6 a7 a8 a9 a10 a11 a12 a13 a14 a15 = some o := by
  cases x with
  | none => cases h
  | some q => exact ⟨q.1, q.2.1, q.2.2.1, q.2.2.2.1, q.2.2.2.2.1, q.2.2.2.2.2.1, q.2.2.2.2.2.2.1, q.2.2.2.2.2.2.2.1, q.2.2.2.2.2.2.2.2.1, q.2.2.2.2.2.2.2.2.2.1, q.2.2.2.2.2.2.2.2.2.2.1, q.2.2.2.2.2.2.2.2.2.2.2.1, q.2.2.2.2.2.2.2.2.2.2.2.2.1, q.2.2.2.2.2.2.2.2.2.2.2.2.2.1, q.2.2.2.2.2.2.2.2.2.2.2.2.2.2, rfl, h⟩
theorem zz_b15_some {A1 A2 A3 A4 A5 A6 A7 A8 A9 A10 A11 A12 A13 A14 A15 B : Type} {a1 : A1} {a2 : A2} {a3 : A3} {a4 : A4} {a5 : A5} {a6 : A6} {a7 : A7} {a8 : A8} {a9 : A9} {a10 : A10} {a11 : A11} {a12 : A12} {a13 : A13} {a14 : A14} {a15 : A15} {k : A1 → A2 → A3 → A4 → A5 → A6 → A7 → A8 → A9 → A10 → A11 → A12 → A13 → A14 → A15 → Option B} : zz_b15 (some (a1, a2, a3, a4, a5, a6, a7, a8, a9, a10, a11, a12, a13, a14, a15)) k = k a1 a2 a3 a4 a5 a6 a7 a8 a9 a10 a11 a12 a13 a14 a15 := rfl
def zz_b16 {A1 A2 A3 A4 A5 A6 A7 A8 A9 A10 A11 A12 A13 A14 A15 A16 B : Type} (x : Option (A1 × A2 × A3 × A4 × A5 × A6 × A7 × A8 × A9 × A10 × A11 × A12 × A13 × A14 × A15 × A16)) (k : A1 → A2 → A3 → A4 → A5 → A6 → A7 → A8 → A9 → A10 → A11 → A12 → A13 → A14 → A15 → A16 → Option B) : Option B := x.bind (fun q => k q.1 q.2.1 q.2.2.1 q.2.2.2.1 q.2.2.2.2.1 q.2.2.2.2.2.1 q.2.2.2.2.2.2.1 q.2.2.2.2.2.2.2.1 q.2.2.2.2.2.2.2.2.1 q.2.2.2.2.2.2.2.2.2.1 q.2.2.2.2.2.2.2.2.2.2.1 q.2.2.2.2.2.2.2.2.2.2.2.1 q.2.2.2.2.2.2.2.2.2.2.2.2.1 q.2.2.2.2.2.2.2.2.2.2.2.2.2.1 q.2.2.2.2.2.2.2.2.2.2.2.2.2.2.1 q.2.2.2.2.2.2.2.2.2.2.2.2.2.2.2)
theorem zz_b16_use {A1 A2 A3 A4 A5 A6 A7 A8 A9 A10 A11 A12 A13 A14 A15 A16 B : Type} {x : Option (A1 × A2 × A3 × A4 × A5 × A6 × A7 × A8 × A9 × A10 × A11 × A12 × A13 × A14 × A15 × A16)} {k : A1 → A2 → A3 → A4 → A5 → A6 → A7 → A8 → A9 → A10 → A11 → A12 → A13 → A14 → A15 → A16 → Option B} {o : B} (h : zz_b16 x k = some o) : ∃ a1 a2 a3 a4 a5 a6 a7 a8 a9 a10 a11 a12 a13 a14 a15 a16, x = some (a1, a2, a3, a4, a5, a6, a7, a8, a9, a10, a11, a12, a13, a14, a15, a16) ∧ k a1 a2 a3 a4 a5 a6 a7 a8 a9 a10 a11 a12 a13 a14 a15 a16 = some o := by
  cases x with
  | none => cases h
  | some q => exact ⟨q.1, q.2.1, q.2.2.1, q.2.2.2.1, q.2.2.2.2.1, q.2.2.2.2.2.1, q.2.2.2.2.2.2.1, q.2.2.2.2.2.2.2.1, q.2.2.2.2.2.2.2.2.1, q.2.2.2.2.2.2.2.2.2.1, q.2.2.2.2.2.2.2.2.2.2.1, q.2.2.2.2.2.2.2.2.2.2.2.1, q.2.2.2.2.2.2.2.2.2.2.2.2.1, q.2.2.2.2.2.2.2.2.2.2.2.2.2.1, q.2.2.2.2.2.2.2.2.2.2.2.2.2.2.1, q.2.2.2.2.2.2.2.2.2.2.2.2.2.2.2, rfl, h⟩
theorem zz_b16_some {A1 A2 A3 A4 A5 A6 A7 A8 A9 A10 A11 A12 A13 A14 A15 A16 B : Type} {a1 : A1} {a2 : A2} {a3 : A3} {a4 : A4} {a5 : A5} {a6 : A6} {a7 : A7} {a8 : A8} {a9 : A9} {a10 : A10} {a11 : A11} {a12 : A12} {a13 : A13} {a14 : A14} {a15 : A15} {a16 : A16} {k : A1 → A2 → A3 → A4 → A5 → A6 → A7 → A8 → A9 → A10 → A11 → A12 → A13 → A14 → A15 → A16 → Option B} : zz_b16 (some (a1, a2, a3, a4, a5, a6, a7, a8, a9, a10, a11, a12, a13, a14, a15, a16)) k = k a1 a2 a3 a4 a5 a6 a7 a8 a9 a10 a11 a12 a13 a14 a15 a16 := rfl
/-! ===== the world's frame: array classes, nest mates ===== -/
abbrev zTy (c : Nat → ClassId) : List (ClassId × FieldType) := [(c 0, .int), (c 1, .long), (c 2, .boolean), (c 3, .object "SumNames$Sheet"), (c 4, .object "SumNames$World"), (c 5, .array .int)]
def zN (U : State) : Prop := ∀ q ∈ zNl, va_Nw (.methodLinkNest q.1 q.2.1 q.2.2.1 q.2.2.2) U
def zE (D : va_G) (c : Nat → ClassId) (U : State) : Prop := va_K D vwCl (zTy c) U ∧ zN U
theorem zE.warm {D : va_G} {c : Nat → ClassId} {s U : State} (hW : s.WarmedH U.vm) (h : zE D c s) : zE D c U := ⟨va_K.moved hW.alike h.1, fun q hq => va_Nw.warmM hW (h.2 q hq)⟩
theorem zE.call {D : va_G} {c : Nat → ClassId} {U : State} (g : JFrame) (mk : MethodId) (a : Array Value) (h : zE D c U) : zE D c (U.calling g mk a) := ⟨va_K.moved (u := U) (U := U.calling g mk a) (Vm.Alike.refl U.vm) h.1, fun q hq => va_Nw.same rfl rfl (h.2 q hq)⟩
def zPre (D : va_G) (c : Nat → ClassId) (wc : va_W) : State → Prop := fun U => va_P D vwCl wc U.heap ∧ zE D c U
def zPreW (D : va_G) (c : Nat → ClassId) (wc : va_W) (sz : Nat) : State → Prop := fun U => U.heap.size = sz ∧ va_P D vwCl wc U.heap ∧ zE D c U ∧ va_D (fun _ => True) wc
theorem zblind {av : List Value} {D : va_G} {c : Nat → ClassId} {wc : va_W} : FrameBlind (va_Pc av (zPre D c wc)) := fun a U g mk q => ⟨q.1, q.2.1, q.2.2.call g mk a⟩
theorem zblindW {av : List Value} {D : va_G} {c : Nat → ClassId} {wc : va_W} {sz : Nat} : FrameBlind (va_Pc av (zPreW D c wc sz)) := fun a U g mk q => ⟨q.1, q.2.1, q.2.2.1, q.2.2.2.1.call g mk a, q.2.2.2.2⟩
abbrev zW (y : MethodName) (cc : ByteArray) (maxL : Nat) (ret : Option FieldType) : List Cond := Cond.code y cc maxL ret :: zT
theorem zG {y : MethodName} {cc : ByteArray} {maxL : Nat} {ret : Option FieldType} (h : Cond.code y cc maxL ret ∈ zT) : GoodIn zT (zW y cc maxL ret) := by
  intro w hw
  rcases List.mem_cons.mp hw with rfl | hw
  · exact ⟨h, good_of_word (List.mem_filter.mp h).2⟩
  · exact ⟨hw, good_of_word (List.mem_filter.mp hw).2⟩
abbrev zB (D : va_G) (wn : va_W) (A : Nat → Prop) : Unit → State → Prop := fun _ t => va_P D vwCl wn t.heap ∧ va_D A wn
/-- contracts: P writes nothing, W writes; i, l, v: what it answers -/
abbrev zMPi (l : Launch) (D : va_G) (c : Nat → ClassId) (y : MethodName) (cc : ByteArray) (maxL : Nat) (ret : Option FieldType) (rm : Room) (wc : va_W) (av : List Value) (v : Int32) : Prop := Met l y (zW y cc maxL ret) rm (va_Pc av (zPre D c wc)) (vp_Si (fun r => r = v)) 0 0 (fun _ => False)
abbrev zMPl (l : Launch) (D : va_G) (c : Nat → ClassId) (y : MethodName) (cc : ByteArray) (maxL : Nat) (ret : Option FieldType) (rm : Room) (wc : va_W) (av : List Value) (v : Int64) : Prop := Met l y (zW y cc maxL ret) rm (va_Pc av (zPre D c wc)) (vp_Sl (fun r => r = v)) 0 0 (fun _ => False)
abbrev zMWi (l : Launch) (D : va_G) (c : Nat → ClassId) (y : MethodName) (cc : ByteArray) (maxL : Nat) (ret : Option FieldType) (rm : Room) (wc wn : va_W) (av : List Value) (v : Int32) : Prop := ∀ sz : Nat, Met l y (zW y cc maxL ret) rm (va_Pc av (zPreW D c wc sz)) (va_Qi (fun r _ => r = v) (zB D wn (va_A wc sz)) (va_A wc sz)) 0 0 (va_A wc sz)
abbrev zMWl (l : Launch) (D : va_G) (c : Nat → ClassId) (y : MethodName) (cc : ByteArray) (maxL : Nat) (ret : Option FieldType) (rm : Room) (wc wn : va_W) (av : List Value) (v : Int64) : Prop := ∀ sz : Nat, Met l y (zW y cc maxL ret) rm (va_Pc av (zPreW D c wc sz)) (va_Ql (fun r _ => r = v) (zB D wn (va_A wc sz)) (va_A wc sz)) 0 0 (va_A wc sz)
abbrev zMWv (l : Launch) (D : va_G) (c : Nat → ClassId) (y : MethodName) (cc : ByteArray) (maxL : Nat) (ret : Option FieldType) (rm : Room) (wc wn : va_W) (av : List Value) : Prop := ∀ sz : Nat, Met l y (zW y cc maxL ret) rm (va_Pc av (zPreW D c wc sz)) (va_Qv (fun _ => True) (zB D wn (va_A wc sz)) (va_A wc sz)) 0 0 (va_A wc sz)
/-- what the tables say of a method: by its kind -/
def zMD (y : MethodName) (n : Nat) : Prop := y.cls ≠ "java/lang/invoke/MethodHandle" ∧ y.cls ≠ "java/lang/invoke/VarHandle" ∧ (parseMethodDescriptor y.desc).map (fun d => d.parameters.length) = some n
def zMI (C : String) (y : MethodName) (cc : ByteArray) (maxL : Nat) (ret : Option FieldType) (n : Nat) : Prop := (Cond.instanceMethod y ∈ zT ∧ Cond.selects C y y ∈ zT ∧ Cond.initialized y.cls ∈ zT ∧ Cond.code y cc maxL ret ∈ zT) ∧ zMD y n
def zMS (y : MethodName) (cc : ByteArray) (maxL : Nat) (ret : Option FieldType) (n : Nat) : Prop := (Cond.static y ∈ zT ∧ Cond.initialized y.cls ∈ zT ∧ Cond.code y cc maxL ret ∈ zT) ∧ zMD y n
section ZZ
variable {p : Program} {l : Launch} {e : Env} {R : Room} {s : State} {m : MethodId} {args : Array Value} {below : List Frame} {meth : Method} {c0 : Code} {H : Heap} {locs : List Loc} {cells slots : Nat} {Q : State → Prop}
variable {cc : ByteArray} {pc : Nat} {ls : Array Slot} {rest : List Value} {D : va_G} {c : Nat → ClassId} {A : Nat → Prop} {a : Nat} {ws : va_W} {H0 : Heap}
/-- the entry of a method that writes nothing; of one that writes -/
theorem zIP {y : MethodName} {rm : Room} {maxL : Nat} {ret : Option FieldType} {av : List Value} {wc : va_W} {Qc : Array Value → State → Outcome → State → Prop} (hy : plainName y.cls = true) (hlen : (lg_sl av).length ≤ maxL)
    (body : ∀ (p : Program) (e : Env) (s : State) (m : MethodId) (args : Array Value) (below : List Frame) (meth : Method) (c0 : Code) (Q : State → Prop), Q = MQ below Qc args s 0 0 (fun _ => False) → p.tables.exec = Jvm.exec → c0.code = cc → meth.sig.returnType = ret → meth.locks = false → c0.maxLocals = maxL → (∀ w ∈ zT, w.before args s = true) → s.vm.findClass y.cls = some m.cls → va_P D vwCl wc s.heap → zE D c s → ∀ ls : Array Slot, lv_has ls maxL (lv_args 0 av) →
      W p l e rm s m args below meth c0 s.heap [] 0 0 Q (F0 m 0 ls [])) : Met l y (zW y cc maxL ret) rm (va_Pc av (zPre D c wc)) Qc 0 0 (fun _ => False) := by
  refine Met.ofW hy rfl ?_
  intro p e s m args below meth c0 s₁ B hml hv
  obtain ⟨rfl, hP, hE⟩ := hv
  rw [lg_entry_eq]
  exact body p e s m _ below meth c0 _ rfl B.exec B.bytes B.returns B.notSynchronized hml (fun w hw => atoms_spec (ws := zW y cc maxL ret) B.pre w (List.mem_cons_of_mem _ hw)) (findClass_of_methodNamed B.named) hP hE _ (lv_entry av hlen)
theorem zIW {y : MethodName} {rm : Room} {maxL : Nat} {ret : Option FieldType} {av : List Value} {wc : va_W} {sz : Nat} {mc ms : Nat} {Qc : Array Value → State → Outcome → State → Prop} (hy : plainName y.cls = true) (hlen : (lg_sl av).length ≤ maxL)
    (body : ∀ (p : Program) (e : Env) (s : State) (m : MethodId) (args : Array Value) (below : List Frame) (meth : Method) (c0 : Code) (Q : State → Prop) (A : Nat → Prop), A = va_A wc sz → Q = MQ below Qc args s mc ms (va_A wc sz) → p.tables.exec = Jvm.exec → c0.code = cc → meth.sig.returnType = ret → meth.locks = false → c0.maxLocals = maxL → (∀ w ∈ zT, w.before args s = true) → s.vm.findClass y.cls = some m.cls → va_P D vwCl wc s.heap → zE D c s → va_D A wc → va_S A s.heap s.heap [] → (∀ q : Nat, s.heap.size ≤ q → A q) → s.heap.size = sz → meth.name = y.name → ∀ ls : Array Slot, lv_has ls maxL (lv_args 0 av) →
      W p l e rm s m args below meth c0 s.heap [] 0 0 Q (F0 m 0 ls [])) : Met l y (zW y cc maxL ret) rm (va_Pc av (zPreW D c wc sz)) Qc mc ms (va_A wc sz) := by
  refine Met.ofW hy rfl ?_
  intro p e s m args below meth c0 s₁ B hml hv
  obtain ⟨rfl, hsz, hP, hE, hD0⟩ := hv
  rw [lg_entry_eq]
  exact body p e s m _ below meth c0 _ _ rfl rfl B.exec B.bytes B.returns B.notSynchronized hml (fun w hw => atoms_spec (ws := zW y cc maxL ret) B.pre w (List.mem_cons_of_mem _ hw)) (findClass_of_methodNamed B.named) hP hE hD0.self va_S.rf (fun q h => Or.inr (hsz ▸ h)) hsz (name_of_methodNamed B.named B.method).1 _ (lv_entry av hlen)
/-- returns -/
theorem zRPi {v0 v : Int32} (hQ : Q = MQ below (vp_Si (fun r => r = v)) args s cells slots (fun _ => False)) (hx : p.tables.exec = Jvm.exec) (hb : c0.code = cc) (hr : meth.sig.returnType = some .int) (hlk : meth.locks = false) (hv : v0 = v) (hdg : decode cc pc = .ok (.ireturn, 1)) : W p l e R s m args below meth c0 s.heap [] cells slots Q (F0 m pc ls [.int v0]) := by
  subst hQ
  exact W.iret hx hb hr (fun t ht _ => ⟨v0, rfl, hv, ht⟩) (fun q hq => nomatch hq) hdg hlk
theorem zRPz {v0 v : Int32} (hQ : Q = MQ below (vp_Si (fun r => r = v)) args s cells slots (fun _ => False)) (hx : p.tables.exec = Jvm.exec) (hb : c0.code = cc) (hr : meth.sig.returnType = some .boolean) (hlk : meth.locks = false) (hn : narrow .boolean (.int v0) = .int v0) (hv : v0 = v) (hdg : decode cc pc = .ok (.ireturn, 1)) : W p l e R s m args below meth c0 s.heap [] cells slots Q (F0 m pc ls [.int v0]) := by
  subst hQ
  exact W.zret hx hb hr hn (fun t ht _ => ⟨v0, rfl, hv, ht⟩) (fun q hq => nomatch hq) hdg hlk
theorem zRPl {v0 v : Int64} (hQ : Q = MQ below (vp_Sl (fun r => r = v)) args s cells slots (fun _ => False)) (hx : p.tables.exec = Jvm.exec) (hb : c0.code = cc) (hr : meth.sig.returnType = some .long) (hlk : meth.locks = false) (hv : v0 = v) (hdg : decode cc pc = .ok (.lreturn, 1)) : W p l e R s m args below meth c0 s.heap [] cells slots Q (F0 m pc ls [.long v0]) := by
  subst hQ
  exact W.lret hx hb hr (fun t ht _ => ⟨v0, rfl, hv, ht⟩) (fun q hq => nomatch hq) hdg hlk
theorem zRWi {v0 v : Int32} {wn : va_W} (hQ : Q = MQ below (va_Qi (fun r _ => r = v) (zB D wn A) A) args s cells slots A) (hx : p.tables.exec = Jvm.exec) (hb : c0.code = cc) (hr : meth.sig.returnType = some .int) (hlk : meth.locks = false) (hv : v0 = v) (hP : va_P D vwCl wn H) (hD : va_D A wn) (hS : va_S A s.heap H locs) (hdg : decode cc pc = .ok (.ireturn, 1)) : W p l e R s m args below meth c0 H locs cells slots Q (F0 m pc ls [.int v0]) := by
  subst hQ
  exact W.iret hx hb hr (fun t ht _ => ⟨⟨v0, (), rfl, hv, by rw [ht]; exact hP, hD⟩, hS.F ht⟩) hS.2.2 hdg hlk
theorem zRWz {v0 v : Int32} {wn : va_W} (hQ : Q = MQ below (va_Qi (fun r _ => r = v) (zB D wn A) A) args s cells slots A) (hx : p.tables.exec = Jvm.exec) (hb : c0.code = cc) (hr : meth.sig.returnType = some .boolean) (hlk : meth.locks = false) (hn : narrow .boolean (.int v0) = .int v0) (hv : v0 = v) (hP : va_P D vwCl wn H) (hD : va_D A wn) (hS : va_S A s.heap H locs) (hdg : decode cc pc = .ok (.ireturn, 1)) : W p l e R s m args below meth c0 H locs cells slots Q (F0 m pc ls [.int v0]) := by
  subst hQ
  exact W.zret hx hb hr hn (fun t ht _ => ⟨⟨v0, (), rfl, hv, by rw [ht]; exact hP, hD⟩, hS.F ht⟩) hS.2.2 hdg hlk
theorem zRWl {v0 v : Int64} {wn : va_W} (hQ : Q = MQ below (va_Ql (fun r _ => r = v) (zB D wn A) A) args s cells slots A) (hx : p.tables.exec = Jvm.exec) (hb : c0.code = cc) (hr : meth.sig.returnType = some .long) (hlk : meth.locks = false) (hv : v0 = v) (hP : va_P D vwCl wn H) (hD : va_D A wn) (hS : va_S A s.heap H locs) (hdg : decode cc pc = .ok (.lreturn, 1)) : W p l e R s m args below meth c0 H locs cells slots Q (F0 m pc ls [.long v0]) := by
  subst hQ
  exact W.lret hx hb hr (fun t ht _ => ⟨⟨v0, (), rfl, hv, by rw [ht]; exact hP, hD⟩, hS.F ht⟩) hS.2.2 hdg hlk
theorem zRWv {wn : va_W} (hQ : Q = MQ below (va_Qv (fun _ => True) (zB D wn A) A) args s cells slots A) (hx : p.tables.exec = Jvm.exec) (hb : c0.code = cc) (hr : meth.sig.returnType = none) (hlk : meth.locks = false) (hP : va_P D vwCl wn H) (hD : va_D A wn) (hS : va_S A s.heap H locs) (hdg : decode cc pc = .ok (.return_, 1)) : W p l e R s m args below meth c0 H locs cells slots Q (F0 m pc ls []) := by
  subst hQ
  exact W.vret hx hb hr (fun t ht _ => ⟨⟨(), rfl, trivial, by rw [ht]; exact hP, hD⟩, hS.F ht⟩) hS.2.2 hdg hlk
/-- a name for what is on top -/
theorem zti {x y : Int32} (h : x = y) (k : W p l e R s m args below meth c0 H locs cells slots Q (F0 m pc ls (.int y :: rest))) : W p l e R s m args below meth c0 H locs cells slots Q (F0 m pc ls (.int x :: rest)) := by subst h; exact k
theorem ztl {x y : Int64} (h : x = y) (k : W p l e R s m args below meth c0 H locs cells slots Q (F0 m pc ls (.long y :: rest))) : W p l e R s m args below meth c0 H locs cells slots Q (F0 m pc ls (.long x :: rest)) := by subst h; exact k
theorem zlc_le {x y : Int64} {off : Int} {tgt : Nat} (hx : p.tables.exec = Jvm.exec) (hb : c0.code = cc) (hd : decode cc pc = .ok (.lcmp, 1)) (hd2 : decode cc (pc + 1) = .ok (.ifCond .le off, 3)) (ht : ((pc + 1 : Nat) : Int) + off = (tgt : Int)) (kt : x ≤ y → W p l e R s m args below meth c0 H locs cells slots Q (F0 m tgt ls rest)) (kf : ¬ x ≤ y → W p l e R s m args below meth c0 H locs cells slots Q (F0 m (pc + 1 + 3) ls rest)) : W p l e R s m args below meth c0 H locs cells slots Q (F0 m pc ls (.long y :: .long x :: rest)) := by
  refine W.lcmp hx hb hd (lv_if_le hx hb hd2 ht (fun h => kt ?_) (fun h => kf ?_))
  · exact (lg_cmp_le x y).mp h
  · exact fun q => h ((lg_cmp_le x y).mpr q)
theorem zlc_lt {x y : Int64} {off : Int} {tgt : Nat} (hx : p.tables.exec = Jvm.exec) (hb : c0.code = cc) (hd : decode cc pc = .ok (.lcmp, 1)) (hd2 : decode cc (pc + 1) = .ok (.ifCond .lt off, 3)) (ht : ((pc + 1 : Nat) : Int) + off = (tgt : Int)) (kt : x < y → W p l e R s m args below meth c0 H locs cells slots Q (F0 m tgt ls rest)) (kf : ¬ x < y → W p l e R s m args below meth c0 H locs cells slots Q (F0 m (pc + 1 + 3) ls rest)) : W p l e R s m args below meth c0 H locs cells slots Q (F0 m pc ls (.long y :: .long x :: rest)) := by
  refine W.lcmp hx hb hd (lv_if_lt hx hb hd2 ht (fun h => kt ?_) (fun h => kf ?_))
  · exact (lg_cmp_lt x y).mp h
  · exact fun q => h ((lg_cmp_lt x y).mpr q)
theorem zlc_ge {x y : Int64} {off : Int} {tgt : Nat} (hx : p.tables.exec = Jvm.exec) (hb : c0.code = cc) (hd : decode cc pc = .ok (.lcmp, 1)) (hd2 : decode cc (pc + 1) = .ok (.ifCond .ge off, 3)) (ht : ((pc + 1 : Nat) : Int) + off = (tgt : Int)) (kt : y ≤ x → W p l e R s m args below meth c0 H locs cells slots Q (F0 m tgt ls rest)) (kf : ¬ y ≤ x → W p l e R s m args below meth c0 H locs cells slots Q (F0 m (pc + 1 + 3) ls rest)) : W p l e R s m args below meth c0 H locs cells slots Q (F0 m pc ls (.long y :: .long x :: rest)) := by
  refine W.lcmp hx hb hd (lv_if_ge hx hb hd2 ht (fun h => kt ?_) (fun h => kf ?_))
  · exact (lg_cmp_ge x y).mp h
  · exact fun q => h ((lg_cmp_ge x y).mpr q)
theorem zlc_gt {x y : Int64} {off : Int} {tgt : Nat} (hx : p.tables.exec = Jvm.exec) (hb : c0.code = cc) (hd : decode cc pc = .ok (.lcmp, 1)) (hd2 : decode cc (pc + 1) = .ok (.ifCond .gt off, 3)) (ht : ((pc + 1 : Nat) : Int) + off = (tgt : Int)) (kt : y < x → W p l e R s m args below meth c0 H locs cells slots Q (F0 m tgt ls rest)) (kf : ¬ y < x → W p l e R s m args below meth c0 H locs cells slots Q (F0 m (pc + 1 + 3) ls rest)) : W p l e R s m args below meth c0 H locs cells slots Q (F0 m pc ls (.long y :: .long x :: rest)) := by
  refine W.lcmp hx hb hd (lv_if_gt hx hb hd2 ht (fun h => kt ?_) (fun h => kf ?_))
  · exact (lg_cmp_gt x y).mp h
  · exact fun q => h ((lg_cmp_gt x y).mpr q)
theorem zlc_eq {x y : Int64} {off : Int} {tgt : Nat} (hx : p.tables.exec = Jvm.exec) (hb : c0.code = cc) (hd : decode cc pc = .ok (.lcmp, 1)) (hd2 : decode cc (pc + 1) = .ok (.ifCond .eq off, 3)) (ht : ((pc + 1 : Nat) : Int) + off = (tgt : Int)) (kt : x = y → W p l e R s m args below meth c0 H locs cells slots Q (F0 m tgt ls rest)) (kf : ¬ x = y → W p l e R s m args below meth c0 H locs cells slots Q (F0 m (pc + 1 + 3) ls rest)) : W p l e R s m args below meth c0 H locs cells slots Q (F0 m pc ls (.long y :: .long x :: rest)) := by
  refine W.lcmp hx hb hd (lv_if_eq hx hb hd2 ht (fun h => kt ?_) (fun h => kf ?_))
  · exact (lg_cmp_eq x y).mp h
  · exact fun q => h ((lg_cmp_eq x y).mpr q)
theorem zlc_ne {x y : Int64} {off : Int} {tgt : Nat} (hx : p.tables.exec = Jvm.exec) (hb : c0.code = cc) (hd : decode cc pc = .ok (.lcmp, 1)) (hd2 : decode cc (pc + 1) = .ok (.ifCond .ne off, 3)) (ht : ((pc + 1 : Nat) : Int) + off = (tgt : Int)) (kt : ¬ x = y → W p l e R s m args below meth c0 H locs cells slots Q (F0 m tgt ls rest)) (kf : x = y → W p l e R s m args below meth c0 H locs cells slots Q (F0 m (pc + 1 + 3) ls rest)) : W p l e R s m args below meth c0 H locs cells slots Q (F0 m pc ls (.long y :: .long x :: rest)) := by
  refine W.lcmp hx hb hd (lv_if_ne hx hb hd2 ht (fun h => kt ?_) (fun h => kf ?_))
  · exact fun q => h ((lg_cmp_eq x y).mpr q)
  · exact (lg_cmp_eq x y).mp h
/-- fields and arrays -/
theorem zget {own ref C : String} {T : u_T} {N ci index : Nat} {nL : Nat} (S : CallFix p m c0 cc nL s args zT own) (hin : ∀ w ∈ u_ws C T N, w ∈ zT) (hE : zE D c s) (hP : va_P D vwCl ws H) (q0 k : Nat) {fs : List Value} {v : Value} (he : ws[q0]? = some (a, .inr (ci, fs))) (hc : vwCl[ci]? = some (C, T, N)) (hk : k < N) (hlink : Cond.fieldLink own index ref (T k).2.1 (T k).2.2.1 ∈ zT) (href : (T k).1 = ref) (hv : fs[k]? = some v) (hdg : decode cc pc = .ok (.getfield index, 3)) (kk : W p l e R s m args below meth c0 H locs cells slots Q (F0 m (pc + 3) ls (v :: rest))) : W p l e R s m args below meth c0 H locs cells slots Q (F0 m pc ls (.ref a :: rest)) :=
  va_get S.1 S.2.1 S.2.2.2.2 hin S.2.2.2.1 hE.1 hP q0 he hc k hk (S.2.2.2.2 _ hlink) (fun x hx => href ▸ hx) hv hdg kk
theorem zput {own ref C : String} {T : u_T} {N ci index : Nat} {nL : Nat} (S : CallFix p m c0 cc nL s args zT own) (hin : ∀ w ∈ u_ws C T N, w ∈ zT) {ty0 : Nat → FieldType} (hty : ∀ k, k < N → parseFieldDescriptor (T k).2.2.1 = some (ty0 k)) (hnm : ∀ a, a < N → ∀ b, b < N → a ≠ b → (T a).2.1 ≠ (T b).2.1) (hE : zE D c s) (hP : va_P D vwCl ws H) (hD : va_D A ws) (hS : va_S A H0 H locs) (q0 k : Nat) {ty : FieldType} (wn : va_W) {fs : List Value} {v : Value} (he : ws[q0]? = some (a, .inr (ci, fs))) (hc : vwCl[ci]? = some (C, T, N)) (hk : k < N) (hlink : Cond.fieldLink own index ref (T k).2.1 (T k).2.2.1 ∈ zT) (href : (T k).1 = ref) (hfin : (T k).2.2.2 = false) (hd : parseFieldDescriptor (T k).2.2.1 = some ty) (hn : narrow ty v = v) (hfit : fits ty v = true) (hl : k < fs.length) (hw : ws.set q0 (a, .inr (ci, fs.set k v)) = wn) (hdg : decode cc pc = .ok (.putfield index, 3))
    (kk : ∀ (H1 : Heap) (locs1 : List Loc), va_P D vwCl wn H1 → va_D A wn → va_S A H0 H1 locs1 → W p l e R s m args below meth c0 H1 locs1 cells slots Q (F0 m (pc + 3) ls rest)) : W p l e R s m args below meth c0 H locs cells slots Q (F0 m pc ls (v :: .ref a :: rest)) :=
  va_put S.1 S.2.1 S.2.2.2.2 hin ty0 hty hnm S.2.2.2.1 hE.1 hP hD hS q0 he hc k hk (S.2.2.2.2 _ hlink) (fun x hx => href ▸ hx) hfin hd hn hfit hl hdg (fun H1 locs1 hP1 hD1 hS1 => kk H1 locs1 (hw ▸ hP1) (hw ▸ hD1) hS1)
theorem zild (hx : p.tables.exec = Jvm.exec) (hb : c0.code = cc) (hE : zE D c s) (hP : va_P D vwCl ws H) (q0 : Nat) {n : Nat} {f : Nat → Int32} (ha : ws[q0]? = some (a, .inl (c 0, n, .inl f))) {i : Int32} (hin : vp_in i n) (hdg : decode cc pc = .ok (.iaload, 1)) (kk : W p l e R s m args below meth c0 H locs cells slots Q (F0 m (pc + 1) ls (.int (f i.toNatClampNeg) :: rest))) : W p l e R s m args below meth c0 H locs cells slots Q (F0 m pc ls (.int i :: .ref a :: rest)) := va_iald hx hb hE.1 hP q0 0 ha rfl hin hdg kk
theorem zlld (hx : p.tables.exec = Jvm.exec) (hb : c0.code = cc) (hE : zE D c s) (hP : va_P D vwCl ws H) (q0 : Nat) {n : Nat} {f : Nat → Int64} (ha : ws[q0]? = some (a, .inl (c 1, n, .inr (.inl f)))) {i : Int32} (hin : vp_in i n) (hdg : decode cc pc = .ok (.laload, 1)) (kk : W p l e R s m args below meth c0 H locs cells slots Q (F0 m (pc + 1) ls (.long (f i.toNatClampNeg) :: rest))) : W p l e R s m args below meth c0 H locs cells slots Q (F0 m pc ls (.int i :: .ref a :: rest)) := va_lald hx hb hE.1 hP q0 1 ha rfl hin hdg kk
theorem zzld (hx : p.tables.exec = Jvm.exec) (hb : c0.code = cc) (hE : zE D c s) (hP : va_P D vwCl ws H) (q0 : Nat) {n : Nat} {f : Nat → Int32} (ha : ws[q0]? = some (a, .inl (c 2, n, .inl f))) {i : Int32} (hin : vp_in i n) (hdg : decode cc pc = .ok (.baload, 1)) (kk : W p l e R s m args below meth c0 H locs cells slots Q (F0 m (pc + 1) ls (.int (f i.toNatClampNeg) :: rest))) : W p l e R s m args below meth c0 H locs cells slots Q (F0 m pc ls (.int i :: .ref a :: rest)) := va_zald hx hb hE.1 hP q0 2 ha rfl hin hdg kk
theorem zist (hx : p.tables.exec = Jvm.exec) (hb : c0.code = cc) (hE : zE D c s) (hP : va_P D vwCl ws H) (hD : va_D A ws) (hS : va_S A H0 H locs) (q0 : Nat) {n : Nat} {f g : Nat → Int32} (wn : va_W) (ha : ws[q0]? = some (a, .inl (c 0, n, .inl f))) (hw : ws.set q0 (a, .inl (c 0, n, .inl g)) = wn) {i x : Int32} (hg : upd f i.toNatClampNeg x = g) (hin : vp_in i n) (hdg : decode cc pc = .ok (.iastore, 1))
    (kk : ∀ (H1 : Heap) (locs1 : List Loc), va_P D vwCl wn H1 → va_D A wn → va_S A H0 H1 locs1 → W p l e R s m args below meth c0 H1 locs1 cells slots Q (F0 m (pc + 1) ls rest)) : W p l e R s m args below meth c0 H locs cells slots Q (F0 m pc ls (.int x :: .int i :: .ref a :: rest)) := by
  subst hg
  exact va_iast hx hb hE.1 hP hD hS q0 0 ha rfl hin hdg (fun H1 locs1 hP1 hD1 hS1 => kk H1 locs1 (hw ▸ hP1) (hw ▸ hD1) hS1)
theorem zzst (hx : p.tables.exec = Jvm.exec) (hb : c0.code = cc) (hE : zE D c s) (hP : va_P D vwCl ws H) (hD : va_D A ws) (hS : va_S A H0 H locs) (q0 : Nat) {n : Nat} {f g : Nat → Int32} (wn : va_W) (ha : ws[q0]? = some (a, .inl (c 2, n, .inl f))) (hw : ws.set q0 (a, .inl (c 2, n, .inl g)) = wn) {i x : Int32} (hg : upd f i.toNatClampNeg x = g) (hnar : vp_nar .boolean x = x) (hin : vp_in i n) (hdg : decode cc pc = .ok (.bastore, 1))
    (kk : ∀ (H1 : Heap) (locs1 : List Loc), va_P D vwCl wn H1 → va_D A wn → va_S A H0 H1 locs1 → W p l e R s m args below meth c0 H1 locs1 cells slots Q (F0 m (pc + 1) ls rest)) : W p l e R s m args below meth c0 H locs cells slots Q (F0 m pc ls (.int x :: .int i :: .ref a :: rest)) := by
  subst hg
  exact va_zast hx hb hE.1 hP hD hS q0 2 ha rfl hin hdg (fun H1 locs1 hP1 hD1 hS1 => kk H1 locs1 (by rw [hnar] at hP1; exact hw ▸ hP1) (by rw [hnar] at hD1; exact hw ▸ hD1) hS1)
theorem zlst (hx : p.tables.exec = Jvm.exec) (hb : c0.code = cc) (hE : zE D c s) (hP : va_P D vwCl ws H) (hD : va_D A ws) (hS : va_S A H0 H locs) (q0 : Nat) {n : Nat} {f g : Nat → Int64} (wn : va_W) (ha : ws[q0]? = some (a, .inl (c 1, n, .inr (.inl f)))) (hw : ws.set q0 (a, .inl (c 1, n, .inr (.inl g))) = wn) {i : Int32} {x : Int64} (hg : vp_updL f i.toNatClampNeg x = g) (hin : vp_in i n) (hdg : decode cc pc = .ok (.lastore, 1))
    (kk : ∀ (H1 : Heap) (locs1 : List Loc), va_P D vwCl wn H1 → va_D A wn → va_S A H0 H1 locs1 → W p l e R s m args below meth c0 H1 locs1 cells slots Q (F0 m (pc + 1) ls rest)) : W p l e R s m args below meth c0 H locs cells slots Q (F0 m pc ls (.long x :: .int i :: .ref a :: rest)) := by
  subst hg
  exact va_last hx hb hE.1 hP hD hS q0 1 ha rfl hin hdg (fun H1 locs1 hP1 hD1 hS1 => kk H1 locs1 (hw ▸ hP1) (hw ▸ hD1) hS1)
theorem zpsub {wz : va_W} {is : List Nat} (hP : va_P D vwCl ws H) (hB : is.map (fun i => ws[i]?) = wz.map some) : va_P D vwCl wz H := fun k x hk => by
  have h1 : (wz.map some)[k]? = some (some x) := by rw [List.getElem?_map, hk]; rfl
  rw [← hB, List.getElem?_map] at h1
  cases h2 : is[k]? with
  | none => rw [h2] at h1; cases h1
  | some i => rw [h2] at h1; exact hP i x (Option.some.inj h1)
theorem zcVi {y : MethodName} {bytes : ByteArray} {maxL nL n index ci q0 : Nat} {ret : Option FieldType} {rm : Room} {own C : String} {b : Nat} {As st0 : List Value} {wc : va_W} {v : Int32} {q : vw_C} {fs : List Value} (S : CallFix p m c0 cc nL s args zT own) (hM : zMPi l D c y bytes maxL ret rm wc (.ref b :: As) v) (mi : zMI C y bytes maxL ret n) (hlink : Cond.methodLink own index y ∈ zT) (hR : rm.frames + 1 ≤ R.frames ∧ 8 + (maxL + 11) + rm.locals ≤ R.locals) (hrm : rm.cells = 0 ∧ rm.slots = 0) (hP : va_P D vwCl wc H) (hE : zE D c s) (hc : vwCl[ci]? = some q) (hq : q.1 = C) (he : wc[q0]? = some (b, .inr (ci, fs))) (hn : As.length = n) (hl : ls.size = nL) (hst : st0 = As.reverse ++ .ref b :: rest) (hW : (rest.map fun v => v.category).sum ≤ 8) (hdg : decode cc pc = .ok (.invokevirtual index, 3)) (hf : cells + 0 ≤ R.cells ∧ slots + 0 ≤ R.slots) (kk : W p l e R s m args below meth c0 H locs cells slots Q (F0 m (pc + 3) ls (.int v :: rest))) : W p l e R s m args below meth c0 H locs cells slots Q (F0 m pc ls st0) := by
  subst hq
  have hts := S.2.2.2.2
  refine vp_callSi (W.runV (As := As) (rest := rest) (b := b) S hM ⟨callB_of n hts (zG mi.1.2.2.2) rfl hrm.1 hrm.2 (hts _ mi.1.2.2.1) (hts _ hlink) mi.2 hR, hts _ mi.1.1, hts _ mi.1.2.1⟩ ⟨zblind, va_recv hE.1 hP hc he, fun U hU hW => ⟨rfl, by rw [hU]; exact hP, hE.warm hW⟩⟩ rfl hn hl hst (lv_room hW) hdg hf) (fun r hr => ?_)
  rw [hr]; exact kk
theorem zcSi {y : MethodName} {bytes : ByteArray} {maxL nL n index : Nat} {ret : Option FieldType} {rm : Room} {own : String} {As st0 : List Value} {wc : va_W} {v : Int32} (S : CallFix p m c0 cc nL s args zT own) (hM : zMPi l D c y bytes maxL ret rm wc As v) (mi : zMS y bytes maxL ret n) (hlink : Cond.methodLink own index y ∈ zT) (hR : rm.frames + 1 ≤ R.frames ∧ 8 + (maxL + 11) + rm.locals ≤ R.locals) (hrm : rm.cells = 0 ∧ rm.slots = 0) (hP : va_P D vwCl wc H) (hE : zE D c s) (hn : As.length = n) (hl : ls.size = nL) (hst : st0 = As.reverse ++ rest) (hW : (rest.map fun v => v.category).sum ≤ 8) (hdg : decode cc pc = .ok (.invokestatic index, 3)) (hf : cells + 0 ≤ R.cells ∧ slots + 0 ≤ R.slots) (kk : W p l e R s m args below meth c0 H locs cells slots Q (F0 m (pc + 3) ls (.int v :: rest))) : W p l e R s m args below meth c0 H locs cells slots Q (F0 m pc ls st0) := by
  have hts := S.2.2.2.2
  refine vp_callSi (W.runS (As := As) (rest := rest) S hM ⟨callB_of n hts (zG mi.1.2.2) rfl hrm.1 hrm.2 (hts _ mi.1.2.1) (hts _ hlink) mi.2 hR, hts _ mi.1.1⟩ ⟨zblind, fun U hU hW => ⟨rfl, by rw [hU]; exact hP, hE.warm hW⟩⟩ rfl hn hl hst (lv_room hW) hdg hf) (fun r hr => ?_)
  rw [hr]; exact kk
theorem zcNi {y : MethodName} {bytes : ByteArray} {maxL nL n index : Nat} {ret : Option FieldType} {rm : Room} {own host : String} {As st0 : List Value} {wc : va_W} {v : Int32} (S : CallFix p m c0 cc nL s args zT own) (hM : zMPi l D c y bytes maxL ret rm wc As v) (mi : zMS y bytes maxL ret n) (hlink : (own, index, y, host) ∈ zNl) (hR : rm.frames + 1 ≤ R.frames ∧ 8 + (maxL + 11) + rm.locals ≤ R.locals) (hrm : rm.cells = 0 ∧ rm.slots = 0) (hP : va_P D vwCl wc H) (hE : zE D c s) (hn : As.length = n) (hl : ls.size = nL) (hst : st0 = As.reverse ++ rest) (hW : (rest.map fun v => v.category).sum ≤ 8) (hdg : decode cc pc = .ok (.invokestatic index, 3)) (hf : cells + 0 ≤ R.cells ∧ slots + 0 ≤ R.slots) (kk : W p l e R s m args below meth c0 H locs cells slots Q (F0 m (pc + 3) ls (.int v :: rest))) : W p l e R s m args below meth c0 H locs cells slots Q (F0 m pc ls st0) := by
  have hts := S.2.2.2.2
  refine vp_callSi (va_Run.run (va_runSN (As := As) (rest := rest) S hM ⟨va_cnB n hts (zG mi.1.2.2) rfl hrm.1 hrm.2 (hE.2 _ hlink) (hts _ mi.1.2.1) mi.2 hR, hts _ mi.1.1, trivial⟩ ⟨zblind, fun U hU hW => ⟨rfl, by rw [hU]; exact hP, hE.warm hW⟩⟩ rfl hn hl hst (lv_room hW) hdg hf)) (fun r hr => ?_)
  rw [hr]; exact kk
theorem zcVl {y : MethodName} {bytes : ByteArray} {maxL nL n index ci q0 : Nat} {ret : Option FieldType} {rm : Room} {own C : String} {b : Nat} {As st0 : List Value} {wc : va_W} {v : Int64} {q : vw_C} {fs : List Value} (S : CallFix p m c0 cc nL s args zT own) (hM : zMPl l D c y bytes maxL ret rm wc (.ref b :: As) v) (mi : zMI C y bytes maxL ret n) (hlink : Cond.methodLink own index y ∈ zT) (hR : rm.frames + 1 ≤ R.frames ∧ 8 + (maxL + 11) + rm.locals ≤ R.locals) (hrm : rm.cells = 0 ∧ rm.slots = 0) (hP : va_P D vwCl wc H) (hE : zE D c s) (hc : vwCl[ci]? = some q) (hq : q.1 = C) (he : wc[q0]? = some (b, .inr (ci, fs))) (hn : As.length = n) (hl : ls.size = nL) (hst : st0 = As.reverse ++ .ref b :: rest) (hW : (rest.map fun v => v.category).sum ≤ 8) (hdg : decode cc pc = .ok (.invokevirtual index, 3)) (hf : cells + 0 ≤ R.cells ∧ slots + 0 ≤ R.slots) (kk : W p l e R s m args below meth c0 H locs cells slots Q (F0 m (pc + 3) ls (.long v :: rest))) : W p l e R s m args below meth c0 H locs cells slots Q (F0 m pc ls st0) := by
  subst hq
  have hts := S.2.2.2.2
  refine vp_callSl (W.runV (As := As) (rest := rest) (b := b) S hM ⟨callB_of n hts (zG mi.1.2.2.2) rfl hrm.1 hrm.2 (hts _ mi.1.2.2.1) (hts _ hlink) mi.2 hR, hts _ mi.1.1, hts _ mi.1.2.1⟩ ⟨zblind, va_recv hE.1 hP hc he, fun U hU hW => ⟨rfl, by rw [hU]; exact hP, hE.warm hW⟩⟩ rfl hn hl hst (lv_room hW) hdg hf) (fun r hr => ?_)
  rw [hr]; exact kk
theorem zcSl {y : MethodName} {bytes : ByteArray} {maxL nL n index : Nat} {ret : Option FieldType} {rm : Room} {own : String} {As st0 : List Value} {wc : va_W} {v : Int64} (S : CallFix p m c0 cc nL s args zT own) (hM : zMPl l D c y bytes maxL ret rm wc As v) (mi : zMS y bytes maxL ret n) (hlink : Cond.methodLink own index y ∈ zT) (hR : rm.frames + 1 ≤ R.frames ∧ 8 + (maxL + 11) + rm.locals ≤ R.locals) (hrm : rm.cells = 0 ∧ rm.slots = 0) (hP : va_P D vwCl wc H) (hE : zE D c s) (hn : As.length = n) (hl : ls.size = nL) (hst : st0 = As.reverse ++ rest) (hW : (rest.map fun v => v.category).sum ≤ 8) (hdg : decode cc pc = .ok (.invokestatic index, 3)) (hf : cells + 0 ≤ R.cells ∧ slots + 0 ≤ R.slots) (kk : W p l e R s m args below meth c0 H locs cells slots Q (F0 m (pc + 3) ls (.long v :: rest))) : W p l e R s m args below meth c0 H locs cells slots Q (F0 m pc ls st0) := by
  have hts := S.2.2.2.2
  refine vp_callSl (W.runS (As := As) (rest := rest) S hM ⟨callB_of n hts (zG mi.1.2.2) rfl hrm.1 hrm.2 (hts _ mi.1.2.1) (hts _ hlink) mi.2 hR, hts _ mi.1.1⟩ ⟨zblind, fun U hU hW => ⟨rfl, by rw [hU]; exact hP, hE.warm hW⟩⟩ rfl hn hl hst (lv_room hW) hdg hf) (fun r hr => ?_)
  rw [hr]; exact kk
theorem zcNl {y : MethodName} {bytes : ByteArray} {maxL nL n index : Nat} {ret : Option FieldType} {rm : Room} {own host : String} {As st0 : List Value} {wc : va_W} {v : Int64} (S : CallFix p m c0 cc nL s args zT own) (hM : zMPl l D c y bytes maxL ret rm wc As v) (mi : zMS y bytes maxL ret n) (hlink : (own, index, y, host) ∈ zNl) (hR : rm.frames + 1 ≤ R.frames ∧ 8 + (maxL + 11) + rm.locals ≤ R.locals) (hrm : rm.cells = 0 ∧ rm.slots = 0) (hP : va_P D vwCl wc H) (hE : zE D c s) (hn : As.length = n) (hl : ls.size = nL) (hst : st0 = As.reverse ++ rest) (hW : (rest.map fun v => v.category).sum ≤ 8) (hdg : decode cc pc = .ok (.invokestatic index, 3)) (hf : cells + 0 ≤ R.cells ∧ slots + 0 ≤ R.slots) (kk : W p l e R s m args below meth c0 H locs cells slots Q (F0 m (pc + 3) ls (.long v :: rest))) : W p l e R s m args below meth c0 H locs cells slots Q (F0 m pc ls st0) := by
  have hts := S.2.2.2.2
  refine vp_callSl (va_Run.run (va_runSN (As := As) (rest := rest) S hM ⟨va_cnB n hts (zG mi.1.2.2) rfl hrm.1 hrm.2 (hE.2 _ hlink) (hts _ mi.1.2.1) mi.2 hR, hts _ mi.1.1, trivial⟩ ⟨zblind, fun U hU hW => ⟨rfl, by rw [hU]; exact hP, hE.warm hW⟩⟩ rfl hn hl hst (lv_room hW) hdg hf)) (fun r hr => ?_)
  rw [hr]; exact kk
theorem zwVi {y : MethodName} {bytes : ByteArray} {maxL nL n index ci q0 : Nat} {ret : Option FieldType} {rm : Room} {own C : String} {b : Nat} {As st0 : List Value} {wc wn wr : va_W} {v : Int32} {q : vw_C} {fs : List Value} (wz : va_W) (isC isR isB : List Nat) (S : CallFix p m c0 cc nL s args zT own) (hM : zMWi l D c y bytes maxL ret rm wc wn (.ref b :: As) v) (mi : zMI C y bytes maxL ret n) (hlink : Cond.methodLink own index y ∈ zT) (hR : rm.frames + 1 ≤ R.frames ∧ 8 + (maxL + 11) + rm.locals ≤ R.locals) (hrm : rm.cells = 0 ∧ rm.slots = 0) (hP : va_P D vwCl ws H) (hD : va_D A ws) (hS : va_S A H0 H locs) (hA : ∀ q, H0.size ≤ q → A q) (hC : isC.map (fun i => ws[i]?) = wc.map some) (hRr : isR.map (fun i => ws[i]?) = wr.map some) (hCn : va_nd isC = true) (hnd : va_nd isR = true) (hdis : ∀ i ∈ isR, i ∉ isC) (hB : isB.map (fun i => (wr ++ wn)[i]?) = wz.map some) (hBn : va_nd isB = true) (hE : zE D c s) (hc : vwCl[ci]? = some q) (hq : q.1 = C) (he : wc[q0]? = some (b, .inr (ci, fs))) (hn : As.length = n) (hl : ls.size = nL) (hst : st0 = As.reverse ++ .ref b :: rest) (hW : (rest.map fun v => v.category).sum ≤ 8) (hdg : decode cc pc = .ok (.invokevirtual index, 3)) (hf : cells + 0 ≤ R.cells ∧ slots + 0 ≤ R.slots) (kk : ∀ (H1 : Heap) (locs1 : List Loc), va_P D vwCl wz H1 → va_D A wz → va_S A H0 H1 locs1 → W p l e R s m args below meth c0 H1 locs1 cells slots Q (F0 m (pc + 3) ls (.int v :: rest))) : W p l e R s m args below meth c0 H locs cells slots Q (F0 m pc ls st0) := by
  subst hq
  have hts := S.2.2.2.2
  have hPc : va_P D vwCl wc H := zpsub hP hC
  have hDc0 : va_D (fun _ => True) wc := (hD.sub isC hCn hC).weaken (fun _ _ _ _ => trivial)
  have hFc := va_free (wc := wc) hD hS hA isC hC
  refine va_calli (va_runV (As := As) (rest := rest) (b := b) S (hM H.size) ⟨callB_of n hts (zG mi.1.2.2.2) rfl hrm.1 hrm.2 (hts _ mi.1.2.2.1) (hts _ hlink) mi.2 hR, hts _ mi.1.1, hts _ mi.1.2.1⟩ ⟨zblindW, va_recv hE.1 hPc hc he, fun U hU hW => ⟨rfl, by rw [hU], by rw [hU]; exact hPc, hE.warm hW, hDc0⟩⟩ rfl hn hl hst (lv_room hW) hdg hf) hS (fun q _ h => hFc q h) hFc (fun r_ u t H1 locs1 ht hvm hw hBB hz1 hk1 hS1 => ?_)
  obtain ⟨hP1, hD1⟩ := hBB
  rw [ht] at hP1
  obtain ⟨hP2, hD2⟩ := va_join hP hD isC isR hC hRr hnd hdis hk1 hFc hP1 hD1
  subst hw
  exact kk H1 locs1 (zpsub hP2 hB) (hD2.sub isB hBn hB) hS1
theorem zwVl {y : MethodName} {bytes : ByteArray} {maxL nL n index ci q0 : Nat} {ret : Option FieldType} {rm : Room} {own C : String} {b : Nat} {As st0 : List Value} {wc wn wr : va_W} {v : Int64} {q : vw_C} {fs : List Value} (wz : va_W) (isC isR isB : List Nat) (S : CallFix p m c0 cc nL s args zT own) (hM : zMWl l D c y bytes maxL ret rm wc wn (.ref b :: As) v) (mi : zMI C y bytes maxL ret n) (hlink : Cond.methodLink own index y ∈ zT) (hR : rm.frames + 1 ≤ R.frames ∧ 8 + (maxL + 11) + rm.locals ≤ R.locals) (hrm : rm.cells = 0 ∧ rm.slots = 0) (hP : va_P D vwCl ws H) (hD : va_D A ws) (hS : va_S A H0 H locs) (hA : ∀ q, H0.size ≤ q → A q) (hC : isC.map (fun i => ws[i]?) = wc.map some) (hRr : isR.map (fun i => ws[i]?) = wr.map some) (hCn : va_nd isC = true) (hnd : va_nd isR = true) (hdis : ∀ i ∈ isR, i ∉ isC) (hB : isB.map (fun i => (wr ++ wn)[i]?) = wz.map some) (hBn : va_nd isB = true) (hE : zE D c s) (hc : vwCl[ci]? = some q) (hq : q.1 = C) (he : wc[q0]? = some (b, .inr (ci, fs))) (hn : As.length = n) (hl : ls.size = nL) (hst : st0 = As.reverse ++ .ref b :: rest) (hW : (rest.map fun v => v.category).sum ≤ 8) (hdg : decode cc pc = .ok (.invokevirtual index, 3)) (hf : cells + 0 ≤ R.cells ∧ slots + 0 ≤ R.slots) (kk : ∀ (H1 : Heap) (locs1 : List Loc), va_P D vwCl wz H1 → va_D A wz → va_S A H0 H1 locs1 → W p l e R s m args below meth c0 H1 locs1 cells slots Q (F0 m (pc + 3) ls (.long v :: rest))) : W p l e R s m args below meth c0 H locs cells slots Q (F0 m pc ls st0) := by
  subst hq
  have hts := S.2.2.2.2
  have hPc : va_P D vwCl wc H := zpsub hP hC
  have hDc0 : va_D (fun _ => True) wc := (hD.sub isC hCn hC).weaken (fun _ _ _ _ => trivial)
  have hFc := va_free (wc := wc) hD hS hA isC hC
  refine va_calll (va_runV (As := As) (rest := rest) (b := b) S (hM H.size) ⟨callB_of n hts (zG mi.1.2.2.2) rfl hrm.1 hrm.2 (hts _ mi.1.2.2.1) (hts _ hlink) mi.2 hR, hts _ mi.1.1, hts _ mi.1.2.1⟩ ⟨zblindW, va_recv hE.1 hPc hc he, fun U hU hW => ⟨rfl, by rw [hU], by rw [hU]; exact hPc, hE.warm hW, hDc0⟩⟩ rfl hn hl hst (lv_room hW) hdg hf) hS (fun q _ h => hFc q h) hFc (fun r_ u t H1 locs1 ht hvm hw hBB hz1 hk1 hS1 => ?_)
  obtain ⟨hP1, hD1⟩ := hBB
  rw [ht] at hP1
  obtain ⟨hP2, hD2⟩ := va_join hP hD isC isR hC hRr hnd hdis hk1 hFc hP1 hD1
  subst hw
  exact kk H1 locs1 (zpsub hP2 hB) (hD2.sub isB hBn hB) hS1
theorem zwVv {y : MethodName} {bytes : ByteArray} {maxL nL n index ci q0 : Nat} {ret : Option FieldType} {rm : Room} {own C : String} {b : Nat} {As st0 : List Value} {wc wn wr : va_W} {q : vw_C} {fs : List Value} (wz : va_W) (isC isR isB : List Nat) (S : CallFix p m c0 cc nL s args zT own) (hM : zMWv l D c y bytes maxL ret rm wc wn (.ref b :: As)) (mi : zMI C y bytes maxL ret n) (hlink : Cond.methodLink own index y ∈ zT) (hR : rm.frames + 1 ≤ R.frames ∧ 8 + (maxL + 11) + rm.locals ≤ R.locals) (hrm : rm.cells = 0 ∧ rm.slots = 0) (hP : va_P D vwCl ws H) (hD : va_D A ws) (hS : va_S A H0 H locs) (hA : ∀ q, H0.size ≤ q → A q) (hC : isC.map (fun i => ws[i]?) = wc.map some) (hRr : isR.map (fun i => ws[i]?) = wr.map some) (hCn : va_nd isC = true) (hnd : va_nd isR = true) (hdis : ∀ i ∈ isR, i ∉ isC) (hB : isB.map (fun i => (wr ++ wn)[i]?) = wz.map some) (hBn : va_nd isB = true) (hE : zE D c s) (hc : vwCl[ci]? = some q) (hq : q.1 = C) (he : wc[q0]? = some (b, .inr (ci, fs))) (hn : As.length = n) (hl : ls.size = nL) (hst : st0 = As.reverse ++ .ref b :: rest) (hW : (rest.map fun v => v.category).sum ≤ 8) (hdg : decode cc pc = .ok (.invokevirtual index, 3)) (hf : cells + 0 ≤ R.cells ∧ slots + 0 ≤ R.slots) (kk : ∀ (H1 : Heap) (locs1 : List Loc), va_P D vwCl wz H1 → va_D A wz → va_S A H0 H1 locs1 → W p l e R s m args below meth c0 H1 locs1 cells slots Q (F0 m (pc + 3) ls (rest))) : W p l e R s m args below meth c0 H locs cells slots Q (F0 m pc ls st0) := by
  subst hq
  have hts := S.2.2.2.2
  have hPc : va_P D vwCl wc H := zpsub hP hC
  have hDc0 : va_D (fun _ => True) wc := (hD.sub isC hCn hC).weaken (fun _ _ _ _ => trivial)
  have hFc := va_free (wc := wc) hD hS hA isC hC
  refine va_callv (va_runV (As := As) (rest := rest) (b := b) S (hM H.size) ⟨callB_of n hts (zG mi.1.2.2.2) rfl hrm.1 hrm.2 (hts _ mi.1.2.2.1) (hts _ hlink) mi.2 hR, hts _ mi.1.1, hts _ mi.1.2.1⟩ ⟨zblindW, va_recv hE.1 hPc hc he, fun U hU hW => ⟨rfl, by rw [hU], by rw [hU]; exact hPc, hE.warm hW, hDc0⟩⟩ rfl hn hl hst (lv_room hW) hdg hf) hS (fun q _ h => hFc q h) hFc (fun u t H1 locs1 ht hvm hw hBB hz1 hk1 hS1 => ?_)
  obtain ⟨hP1, hD1⟩ := hBB
  rw [ht] at hP1
  obtain ⟨hP2, hD2⟩ := va_join hP hD isC isR hC hRr hnd hdis hk1 hFc hP1 hD1
  exact kk H1 locs1 (zpsub hP2 hB) (hD2.sub isB hBn hB) hS1
end ZZ
