/-! ===== pure rows: the plain ends of the pure programs ===== -/
theorem zl_let {α β : Type} (a : α) (k : α → β) : zz_let a k = k a := rfl
theorem zl_gd {α : Type} {b : Bool} {k : Option α} (h : b = true) : zz_gd b k = k := by unfold zz_gd; rw [if_pos h]
theorem zl_in {i : Int32} {n : Nat} (h0 : 0 ≤ i.toInt) (h1 : i.toInt < n) : zz_in i n = true := decide_eq_true ⟨h0, h1⟩
theorem zl_inN {j n : Nat} (h : j < n) (hn : n < 2 ^ 31) : zz_in (nI j) n = true := zl_in (by rw [nI_toInt (by omega)]; omega) (by rw [nI_toInt (by omega)]; omega)
theorem zl_isB0 : zz_isB 0 = true := rfl
theorem zl_isB1 : zz_isB 1 = true := rfl
theorem zl_b1 {A B : Type} {x : Option A} {a : A} {k : A → Option B} (h : x = some a) : zz_b1 x k = k a := by rw [h]; rfl
theorem zl_b2 {A1 A2 B : Type} {x : Option (A1 × A2)} {a1 : A1} {a2 : A2} {k : A1 → A2 → Option B} (h : x = some (a1, a2)) : zz_b2 x k = k a1 a2 := by rw [h]; rfl
theorem zl_b3 {A1 A2 A3 B : Type} {x : Option (A1 × A2 × A3)} {a1 : A1} {a2 : A2} {a3 : A3} {k : A1 → A2 → A3 → Option B} (h : x = some (a1, a2, a3)) : zz_b3 x k = k a1 a2 a3 := by rw [h]; rfl
/-- a number of Java's is a place below n, or it isn't -/
theorem zl_case (p : Int32) (n : Nat) (hn : n < 2 ^ 31) : (∃ j, j < n ∧ p = nI j) ∨ ¬ (0 ≤ p.toInt ∧ p.toInt < n) := by
  by_cases h : 0 ≤ p.toInt ∧ p.toInt < n
  · left
    refine ⟨p.toInt.toNat, by omega, ?_⟩
    rw [fa_eq, nI_toInt (by omega)]
    omega
  · exact Or.inr h
theorem zl_lt0 {p : Int32} : p < 0 ↔ p.toInt < 0 := fa_lt p 0
theorem zl_0le {p : Int32} : 0 ≤ p ↔ 0 ≤ p.toInt := fa_le 0 p
theorem zl_eq0 {n : Nat} (h : n < 2 ^ 31) : nI n = 0 ↔ n = 0 := nI_eq (a := n) (b := 0) h (by decide)
theorem zl_wide (p : Int32) : p.toInt64.toInt = p.toInt := Int32.toInt_toInt64 p
theorem zl_bT {B : Type} {x : Option Int32} {A C : Int32 → Option B} (h : x = some 1) : zz_b1 x (fun r => if r = 0 then A r else C r) = C 1 := by rw [h]; rfl
theorem zl_bF {B : Type} {x : Option Int32} {A C : Int32 → Option B} (h : x = some 0) : zz_b1 x (fun r => if r = 0 then A r else C r) = A 0 := by rw [h]; rfl
theorem zl_in7t {N : Nat} {p q r : Int64} (h : q.toInt ≤ p.toInt ∧ p.toInt ≤ r.toInt) : f_X7_in N p q r = some 1 := by
  unfold f_X7_in
  rw [if_neg (by rw [fa_lt64]; omega), if_neg (by rw [fa_lt64]; omega)]
theorem zl_in7f {N : Nat} {p q r : Int64} (h : ¬ (q.toInt ≤ p.toInt ∧ p.toInt ≤ r.toInt)) : f_X7_in N p q r = some 0 := by
  unfold f_X7_in
  by_cases h1 : p < q
  · rw [if_pos h1]
  · rw [if_neg h1, if_pos (by rw [fa_lt64] at h1 ⊢; omega)]
theorem zl_isLetter_t {N : Nat} {p : Int32} (h : 0 ≤ p.toInt ∧ p.toInt < 26) : f_X6_isLetter N p = some 1 := by
  unfold f_X6_isLetter
  rw [if_neg (by rw [zl_lt0]; omega), if_neg (by rw [fa_le]; show ¬ (26 : Int) ≤ _; omega)]
theorem zl_isLetter_f {N : Nat} {p : Int32} (h : ¬ (0 ≤ p.toInt ∧ p.toInt < 26)) : f_X6_isLetter N p = some 0 := by
  unfold f_X6_isLetter
  by_cases h1 : p < 0
  · rw [if_pos h1]
  · rw [if_neg h1, if_pos (by rw [zl_lt0] at h1; rw [fa_le]; show (26 : Int) ≤ _; omega)]
theorem zl_isSheet_t {N : Nat} {p : Int32} (h : 0 ≤ p.toInt ∧ p.toInt < 3) : f_X6_isSheet N p = some 1 := by
  unfold f_X6_isSheet
  rw [if_neg (by rw [zl_lt0]; omega), if_neg (by rw [fa_le]; show ¬ (3 : Int) ≤ _; omega)]
theorem zl_isSheet_f {N : Nat} {p : Int32} (h : ¬ (0 ≤ p.toInt ∧ p.toInt < 3)) : f_X6_isSheet N p = some 0 := by
  unfold f_X6_isSheet
  by_cases h1 : p < 0
  · rw [if_pos h1]
  · rw [if_neg h1, if_pos (by rw [zl_lt0] at h1; rw [fa_le]; show (3 : Int) ≤ _; omega)]
theorem zl_7isSheet_t {N : Nat} {p : Int32} (h : 0 ≤ p.toInt ∧ p.toInt < 3) : f_X7_isSheet N p = some 1 := by
  unfold f_X7_isSheet
  rw [zl_b1 (zl_in7t ⟨by rw [zl_wide]; exact h.1, by rw [zl_wide]; show _ ≤ (2 : Int); omega⟩)]
  rfl
theorem zl_7isSheet_f {N : Nat} {p : Int32} (h : ¬ (0 ≤ p.toInt ∧ p.toInt < 3)) : f_X7_isSheet N p = some 0 := by
  unfold f_X7_isSheet
  rw [zl_b1 (zl_in7f (by rw [zl_wide]; intro q; have : p.toInt ≤ (2 : Int) := q.2; exact h ⟨q.1, by omega⟩))]
  rfl
theorem zl_isPerson_t {N : Nat} {pc : Nat} {p : Nat} (hp : p < pc) (hpc : pc ≤ 16) : f_X5_isPerson N (nI pc) (nI p) = some 1 := by
  unfold f_X5_isPerson
  rw [if_neg (by rw [zl_lt0, nI_toInt (by omega)]; omega), if_neg (by rw [nI_leI (by omega) (by omega)]; omega)]
theorem zl_isPerson_f {N : Nat} {pc : Nat} {p : Int32} (hp : ¬ (0 ≤ p.toInt ∧ p.toInt < pc)) (hpc : pc ≤ 16) : f_X5_isPerson N (nI pc) p = some 0 := by
  unfold f_X5_isPerson
  by_cases h1 : p < 0
  · rw [if_pos h1]
  · rw [if_neg h1, if_pos (by rw [zl_lt0] at h1; rw [fa_le, nI_toInt (by omega)]; omega)]
theorem zl_7isPerson {N : Nat} {row : Nat → Int32} {pc : Nat} (hr : row 38 = nI pc) (hpc : pc ≤ 16) (p : Int32) : f_X7_isPerson N row p = some (if 0 ≤ p.toInt ∧ p.toInt < pc then 1 else 0) := by
  unfold f_X7_isPerson
  have e1 : (row (38 : Int32).toNatClampNeg - 1).toInt64.toInt = (pc : Int) - 1 := by
    rw [zl_wide, show (38 : Int32).toNatClampNeg = 38 from rfl, hr]
    exact pk_sub_toInt (a := pc) (b := 1) (by omega) (by omega)
  by_cases h : 0 ≤ p.toInt ∧ p.toInt < pc
  · rw [zl_b1 (zl_in7t ⟨by rw [zl_wide]; exact h.1, by rw [e1, zl_wide]; omega⟩), if_pos h]
    rfl
  · rw [zl_b1 (zl_in7f (by rw [e1, zl_wide]; intro q; have : (0 : Int) ≤ p.toInt := q.1; exact h ⟨this, by omega⟩)), if_neg h]
    rfl
theorem zl_7isPerson_t {N : Nat} {row : Nat → Int32} {pc p : Nat} (hr : row 38 = nI pc) (hpc : pc ≤ 16) (hp : p < pc) : f_X7_isPerson N row (nI p) = some 1 := by
  rw [zl_7isPerson hr hpc, if_pos (by rw [nI_toInt (by omega)]; omega)]
theorem zl_7isPerson_f {N : Nat} {row : Nat → Int32} {pc : Nat} {p : Int32} (hr : row 38 = nI pc) (hpc : pc ≤ 16) (hp : ¬ (0 ≤ p.toInt ∧ p.toInt < pc)) : f_X7_isPerson N row p = some 0 := by
  rw [zl_7isPerson hr hpc, if_neg hp]
theorem zl_cl {n : Nat} (h : n < 2 ^ 31) : (nI n).toNatClampNeg = n := nI_clamp h
theorem pr_erase (c : Nat → ClassId) (n_numbers : Nat → Int32) (n_syllables : Nat → Int64) (n_syllableCount : Int32) (n_days : Nat → Int32) (n_words : Nat → Int64) (n_parents : Nat → Int32) (n_otherParents : Nat → Int32) (n_kinds : Nat → Int32) (n_personCount : Int32) (n_hopeDays : Nat → Int32) (n_hopeTenths : Nat → Int32) (n_hopeCount : Int32) (n_degreesTold : Int32) (r_text : Nat → Int32) (r_length : Int32) (s_lane : Nat → Int32) (s_size : Nat → Int32) (s_items : Nat → Nat → Int32) (i_ir : Nat → Option Nat) (g0 : va_W) (g1 : va_W) (z_row : Nat → Int32) (z_words : Nat → Int64) (z_isKept : Nat → Int32) (z_text : Nat → Int32) (z_length : Int32) (z_lanes : Nat → Int32) (z_sizes : Nat → Int32) (z_items : Nat → Int32)  (N : Nat) (hN : 100000 ≤ N) (hR : zRel c n_numbers n_syllables n_syllableCount n_days n_words n_parents n_otherParents n_kinds n_personCount n_hopeDays n_hopeTenths n_hopeCount n_degreesTold r_text r_length s_lane s_size s_items i_ir g0 g1 z_row z_words z_isKept z_text z_length z_lanes z_sizes z_items) : ∃ (r : Int32) (o_r_length : Int32) (e_length : Int32), f_X6_erase N r_length = some (r, o_r_length) ∧ f_X7_erase N z_length = some (r, e_length) ∧ zRel c n_numbers n_syllables n_syllableCount n_days n_words n_parents n_otherParents n_kinds n_personCount n_hopeDays n_hopeTenths n_hopeCount n_degreesTold r_text o_r_length s_lane s_size s_items i_ir g0 g1 z_row z_words z_isKept z_text e_length z_lanes z_sizes z_items := by
  obtain ⟨h1, ⟨n, hn, e1, e2, h2⟩, h3⟩ := hR
  refine ⟨r_length, 0, 0, rfl, by rw [e1, ← e2]; rfl, h1, ⟨0, by omega, rfl, rfl, fun i hi => absurd hi (by omega)⟩, h3⟩
theorem pr_letter (c : Nat → ClassId) (n_numbers : Nat → Int32) (n_syllables : Nat → Int64) (n_syllableCount : Int32) (n_days : Nat → Int32) (n_words : Nat → Int64) (n_parents : Nat → Int32) (n_otherParents : Nat → Int32) (n_kinds : Nat → Int32) (n_personCount : Int32) (n_hopeDays : Nat → Int32) (n_hopeTenths : Nat → Int32) (n_hopeCount : Int32) (n_degreesTold : Int32) (r_text : Nat → Int32) (r_length : Int32) (s_lane : Nat → Int32) (s_size : Nat → Int32) (s_items : Nat → Nat → Int32) (i_ir : Nat → Option Nat) (g0 : va_W) (g1 : va_W) (z_row : Nat → Int32) (z_words : Nat → Int64) (z_isKept : Nat → Int32) (z_text : Nat → Int32) (z_length : Int32) (z_lanes : Nat → Int32) (z_sizes : Nat → Int32) (z_items : Nat → Int32) (p1 : Int32) (N : Nat) (hN : 100000 ≤ N) (hR : zRel c n_numbers n_syllables n_syllableCount n_days n_words n_parents n_otherParents n_kinds n_personCount n_hopeDays n_hopeTenths n_hopeCount n_degreesTold r_text r_length s_lane s_size s_items i_ir g0 g1 z_row z_words z_isKept z_text z_length z_lanes z_sizes z_items) : ∃ (r : Int32), f_X6_letter N n_numbers p1 = some r ∧ f_X7_letter N z_row p1 = some r ∧ zRel c n_numbers n_syllables n_syllableCount n_days n_words n_parents n_otherParents n_kinds n_personCount n_hopeDays n_hopeTenths n_hopeCount n_degreesTold r_text r_length s_lane s_size s_items i_ir g0 g1 z_row z_words z_isKept z_text z_length z_lanes z_sizes z_items := by
  obtain ⟨⟨a, hok, hw, hra⟩, h3⟩ := id hR
  rcases zl_case p1 26 (by decide) with ⟨j, hj, rfl⟩ | h
  · have hb : 0 ≤ (nI j).toInt ∧ (nI j).toInt < 26 := by rw [nI_toInt (by omega)]; omega
    refine ⟨nI (aN a j), ?_, ?_, hR⟩
    · unfold f_X6_letter
      rw [zl_bT (zl_isLetter_t hb), zl_gd (zl_inN hj (by decide)), zl_cl (by omega), hw.1 j hj]
    · unfold f_X7_letter
      rw [zl_bT (zl_in7t (by rw [zl_wide]; exact ⟨hb.1, by show _ ≤ (25 : Int); omega⟩)), zl_gd (zl_inN (by omega) (by decide)), zl_cl (by omega)]
      have := hra.1 j hj
      rw [show 100 * 0 + j = j by omega] at this
      rw [this]
  · refine ⟨-2, ?_, ?_, hR⟩
    · unfold f_X6_letter
      rw [zl_bF (zl_isLetter_f h)]
    · unfold f_X7_letter
      rw [zl_bF (zl_in7f (by rw [zl_wide]; intro q; exact h ⟨q.1, by have : p1.toInt ≤ (25 : Int) := q.2; omega⟩))]
theorem pr_called (c : Nat → ClassId) (n_numbers : Nat → Int32) (n_syllables : Nat → Int64) (n_syllableCount : Int32) (n_days : Nat → Int32) (n_words : Nat → Int64) (n_parents : Nat → Int32) (n_otherParents : Nat → Int32) (n_kinds : Nat → Int32) (n_personCount : Int32) (n_hopeDays : Nat → Int32) (n_hopeTenths : Nat → Int32) (n_hopeCount : Int32) (n_degreesTold : Int32) (r_text : Nat → Int32) (r_length : Int32) (s_lane : Nat → Int32) (s_size : Nat → Int32) (s_items : Nat → Nat → Int32) (i_ir : Nat → Option Nat) (g0 : va_W) (g1 : va_W) (z_row : Nat → Int32) (z_words : Nat → Int64) (z_isKept : Nat → Int32) (z_text : Nat → Int32) (z_length : Int32) (z_lanes : Nat → Int32) (z_sizes : Nat → Int32) (z_items : Nat → Int32) (p1 : Int32) (N : Nat) (hN : 100000 ≤ N) (hR : zRel c n_numbers n_syllables n_syllableCount n_days n_words n_parents n_otherParents n_kinds n_personCount n_hopeDays n_hopeTenths n_hopeCount n_degreesTold r_text r_length s_lane s_size s_items i_ir g0 g1 z_row z_words z_isKept z_text z_length z_lanes z_sizes z_items) : ∃ (r : Int64), f_X6_called N n_words n_personCount p1 = some r ∧ f_X7_called N z_row z_words p1 = some r ∧ zRel c n_numbers n_syllables n_syllableCount n_days n_words n_parents n_otherParents n_kinds n_personCount n_hopeDays n_hopeTenths n_hopeCount n_degreesTold r_text r_length s_lane s_size s_items i_ir g0 g1 z_row z_words z_isKept z_text z_length z_lanes z_sizes z_items := by
  obtain ⟨⟨a, hok, hw, hra⟩, h3⟩ := id hR
  have hpc : aPC a ≤ 16 := hok.2.2.2.2.1
  have e38 : z_row 38 = nI (aPC a) := hra.2.2.2.2.1
  rcases zl_case p1 (aPC a) (by omega) with ⟨j, hj, rfl⟩ | h
  · refine ⟨lN (aW a j), ?_, ?_, hR⟩
    · unfold f_X6_called
      rw [hw.2.2.2.1, zl_bT (zl_isPerson_t hj hpc), zl_gd (zl_inN (by omega) (by decide)), zl_cl (by omega), (hw.2.2.2.2.1 j hj).2.1]
    · unfold f_X7_called
      rw [zl_bT (zl_7isPerson_t e38 hpc hj), zl_gd (zl_inN (by omega) (by decide)), zl_cl (by omega)]
      have := (hra.2.2.2.2.2.1 j hj).2.2.2
      rw [show 16 * 0 + j = j by omega] at this
      rw [this]
  · refine ⟨-2, ?_, ?_, hR⟩
    · unfold f_X6_called
      rw [hw.2.2.2.1, zl_bF (zl_isPerson_f h hpc)]
    · unfold f_X7_called
      rw [zl_bF (zl_7isPerson_f e38 hpc h)]
theorem pr_tear (c : Nat → ClassId) (n_numbers : Nat → Int32) (n_syllables : Nat → Int64) (n_syllableCount : Int32) (n_days : Nat → Int32) (n_words : Nat → Int64) (n_parents : Nat → Int32) (n_otherParents : Nat → Int32) (n_kinds : Nat → Int32) (n_personCount : Int32) (n_hopeDays : Nat → Int32) (n_hopeTenths : Nat → Int32) (n_hopeCount : Int32) (n_degreesTold : Int32) (r_text : Nat → Int32) (r_length : Int32) (s_lane : Nat → Int32) (s_size : Nat → Int32) (s_items : Nat → Nat → Int32) (i_ir : Nat → Option Nat) (g0 : va_W) (g1 : va_W) (z_row : Nat → Int32) (z_words : Nat → Int64) (z_isKept : Nat → Int32) (z_text : Nat → Int32) (z_length : Int32) (z_lanes : Nat → Int32) (z_sizes : Nat → Int32) (z_items : Nat → Int32) (p1 : Int32) (N : Nat) (hN : 100000 ≤ N) (hR : zRel c n_numbers n_syllables n_syllableCount n_days n_words n_parents n_otherParents n_kinds n_personCount n_hopeDays n_hopeTenths n_hopeCount n_degreesTold r_text r_length s_lane s_size s_items i_ir g0 g1 z_row z_words z_isKept z_text z_length z_lanes z_sizes z_items) : ∃ (r : Int32) (o_s_size : Nat → Int32) (e_lanes : Nat → Int32), f_X6_tear N s_size p1 = some (r, o_s_size) ∧ f_X7_tear N z_lanes p1 = some (r, e_lanes) ∧ zRel c n_numbers n_syllables n_syllableCount n_days n_words n_parents n_otherParents n_kinds n_personCount n_hopeDays n_hopeTenths n_hopeCount n_degreesTold r_text r_length s_lane o_s_size s_items i_ir g0 g1 z_row z_words z_isKept z_text z_length e_lanes z_sizes z_items := by
  obtain ⟨h1, h2, h3, h4⟩ := id hR
  rcases zl_case p1 3 (by decide) with ⟨j, hj, rfl⟩ | h
  · have hb : 0 ≤ (nI j).toInt ∧ (nI j).toInt < 3 := by rw [nI_toInt (by omega)]; omega
    refine ⟨1, zz_up2 s_size j (-1), upd z_lanes j (-1), ?_, ?_, h1, h2, ?_, h4⟩
    · unfold f_X6_tear
      rw [zl_bT (zl_isSheet_t hb), zl_gd (zl_inN hj (by decide)), zl_cl (by omega), zl_let]
    · unfold f_X7_tear
      rw [zl_bT (zl_7isSheet_t hb), zl_gd (zl_inN hj (by decide)), zl_cl (by omega), zl_let]
    · intro t ht
      by_cases e : t = j
      · subst e
        exact Or.inl ⟨by unfold zz_up2; rw [if_pos rfl], pk_us⟩
      · rcases h3 t ht with q | ⟨ln, n, q⟩
        · exact Or.inl ⟨by unfold zz_up2; rw [if_neg e]; exact q.1, by rw [pk_un e]; exact q.2⟩
        · exact Or.inr ⟨ln, n, q.1, q.2.1, q.2.2.1, by rw [pk_un e]; exact q.2.2.2.1, by unfold zz_up2; rw [if_neg e]; exact q.2.2.2.2.1, q.2.2.2.2.2⟩
  · refine ⟨-2, s_size, z_lanes, ?_, ?_, hR⟩
    · unfold f_X6_tear
      rw [zl_bF (zl_isSheet_f h)]
    · unfold f_X7_tear
      rw [zl_bF (zl_7isSheet_f h)]
