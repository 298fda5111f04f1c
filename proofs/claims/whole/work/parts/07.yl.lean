/-! ===== old names: bounds of a number ===== -/
theorem neg_msb (x : Int32) : x.toInt < 0 ↔ x.toBitVec.msb = true := by
  rw [BitVec.msb_eq_toInt]
  exact ⟨fun h => decide_eq_true h, fun h => of_decide_eq_true h⟩
theorem xor_sign (x y : Int32) : 0 ≤ (x ^^^ y) ↔ (x.toInt < 0 ↔ y.toInt < 0) := by
  have h1 := neg_msb (x ^^^ y)
  have h2 := neg_msb x
  have h3 := neg_msb y
  rw [Int32.toBitVec_xor, BitVec.msb_xor] at h1
  rw [zl_0le, h2, h3]
  cases hx : x.toBitVec.msb <;> cases hy : y.toBitVec.msb <;> rw [hx, hy] at h1
  · exact ⟨fun _ => Iff.rfl, fun _ => by
      have : ¬ (x ^^^ y).toInt < 0 := fun q => absurd (h1.mp q) (by decide)
      omega⟩
  · exact ⟨fun q => by
      have := h1.mpr rfl
      omega, fun q => absurd (q.mpr rfl) (by decide)⟩
  · exact ⟨fun q => by
      have := h1.mpr rfl
      omega, fun q => absurd (q.mp rfl) (by decide)⟩
  · exact ⟨fun _ => Iff.rfl, fun _ => by
      have : ¬ (x ^^^ y).toInt < 0 := fun q => absurd (h1.mp q) (by decide)
      omega⟩
theorem fl_eq (N : Nat) {p : Int32} {b : Nat} (hb : 0 < b) (hb2 : b ≤ 100) (h1 : -100000 ≤ p.toInt) (h2 : p.toInt ≤ 100000) : ∃ r : Int32, f_J9_floorDiv_7cf53 N p (nI b) = some r ∧ -100001 ≤ r.toInt ∧ r.toInt ≤ 100001 ∧ ∀ g : Int, g ≤ r.toInt ↔ g * b ≤ p.toInt := by
  have eb : (nI b).toInt = (b : Int) := nI_toInt (by omega)
  obtain ⟨q, hq⟩ : ∃ q, q = p.toInt.tdiv b := ⟨_, rfl⟩
  have hqr := Int.mul_tdiv_add_tmod p.toInt b
  rw [← hq] at hqr
  have hqb : q.natAbs ≤ p.toInt.natAbs := by
    rw [hq, Int.natAbs_tdiv]
    exact Nat.div_le_self _ _
  have edv : (p / nI b).toInt = q := by
    rw [Int32.toInt_div, eb, ← hq]
    exact Int.bmod_eq_of_le (by omega) (by omega)
  have hm1 := Int.tmod_lt_of_pos p.toInt (show (0 : Int) < b by omega)
  have hm2 := Int.lt_tmod_of_pos p.toInt (show (0 : Int) < b by omega)
  have hcomm : q * b = b * q := Int.mul_comm _ _
  have emu : (p / nI b * nI b).toInt = q * b := by
    rw [fb_mulI (by rw [edv, eb]; omega) (by rw [edv, eb]; omega), edv, eb]
  have floor : ∀ r : Int, r * b ≤ p.toInt → p.toInt < r * b + b → ∀ g : Int, g ≤ r ↔ g * b ≤ p.toInt := fun r r1 r2 g => by
    constructor
    · intro hg
      have := Int.mul_le_mul_of_nonneg_right hg (show (0 : Int) ≤ b by omega)
      omega
    · intro hg
      refine Classical.byContradiction (fun hc => ?_)
      have h3 : r + 1 ≤ g := by omega
      have := Int.mul_le_mul_of_nonneg_right h3 (show (0 : Int) ≤ b by omega)
      rw [Int.add_mul, Int.one_mul] at this
      omega
  unfold f_J9_floorDiv_7cf53
  rw [zl_gd (show zz_nz (nI b) = true from decide_eq_true (nI_ne0 hb (by omega))), zl_let, zl_let]
  by_cases c : p.toInt < 0
  · rw [if_neg (fun w => by
      have := ((xor_sign p (nI b)).mp w).mp c
      rw [eb] at this
      omega)]
    have hm3 : p.toInt.tmod b ≤ 0 := by
      have h := Int.tmod_nonneg (a := -p.toInt) (b : Int) (by omega)
      rw [Int.neg_tmod] at h
      omega
    by_cases c2 : q * b = p.toInt
    · rw [if_pos (by rw [fa_eq, emu]; exact c2)]
      exact ⟨_, rfl, by rw [edv]; omega, by rw [edv]; omega, by rw [edv]; exact floor q (by omega) (by omega)⟩
    · rw [if_neg (fun w => c2 (by rw [fa_eq, emu] at w; exact w))]
      have e1 : (1 : Int32).toInt = 1 := rfl
      have es : (p / nI b - 1).toInt = q - 1 := by
        rw [fb_subI (by rw [edv, e1]; omega) (by rw [edv, e1]; omega), edv, e1]
      have e4 : (q - 1) * b = q * b - b := by rw [Int.sub_mul, Int.one_mul]
      exact ⟨_, rfl, by rw [es]; omega, by rw [es]; omega, by rw [es]; exact floor (q - 1) (by omega) (by omega)⟩
  · rw [if_pos ((xor_sign p (nI b)).mpr ⟨fun w => absurd w c, fun w => by rw [eb] at w; omega⟩)]
    have hm3 : 0 ≤ p.toInt.tmod b := Int.tmod_nonneg _ (by omega)
    exact ⟨_, rfl, by rw [edv]; omega, by rw [edv]; omega, by rw [edv]; exact floor q (by omega) (by omega)⟩
