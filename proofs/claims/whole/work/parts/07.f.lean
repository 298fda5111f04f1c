/-! ===== pure rows: write, sheets ===== -/
theorem zl_byte (y : Int64) : ∃ b : Nat, b < 256 ∧ (y &&& 255).toInt32 = nI b := by
  obtain ⟨n, hn, rfl⟩ := wb_of y
  refine ⟨n % 256, by omega, ?_⟩
  have e : lN n &&& (255 : Int64) = lN (n % 2 ^ 8) := fb_maskL n 8
  rw [e, lN_i]
def zTr (n : Nat) (t tM : Nat → Int32) : Prop := ∀ i, i < n → t i = tM i ∧ ∃ b : Nat, b < 256 ∧ t i = nI b
theorem zTr_upd {n : Nat} {t tM : Nat → Int32} {x : Int32} (h : zTr n t tM) (hx : ∃ b : Nat, b < 256 ∧ x = nI b) : zTr (n + 1) (upd t n x) (upd tM n x) := by
  intro i hi
  by_cases e : i = n
  · subst e
    rw [pk_us, pk_us]
    exact ⟨rfl, hx⟩
  · rw [pk_un e, pk_un e]
    exact h i (by omega)
theorem wr_loop (N : Nat) (q : Int64) (m : Nat) (hm : m ≤ 8) (k k7 : (Nat → Int32) → Int32 → Option (Int32 × (Nat → Int32) × Int32)) : ∀ (d i n f : Nat) (t tM : Nat → Int32), i + d = m → d < f → n + d ≤ 200 → zTr n t tM → ∃ t' tM', f_X3_append_L17 N k q (nI m) f (nI i) t (nI n) = k t' (nI (n + d)) ∧ f_X7_write_L33 N k7 q (nI m) f (nI i) tM (nI n) = k7 tM' (nI (n + d)) ∧ zTr (n + d) t' tM' := by
  intro d
  induction d with
  | zero =>
    intro i n f t tM hi hf hn h
    obtain ⟨f', rfl⟩ : ∃ f', f = f' + 1 := ⟨f - 1, by omega⟩
    refine ⟨t, tM, ?_, ?_, h⟩
    · rw [f_X3_append_L17_s, if_pos (nI_le (by omega) (by omega))]; rfl
    · rw [f_X7_write_L33_s, if_pos (nI_le (by omega) (by omega))]; rfl
  | succ d ih =>
    intro i n f t tM hi hf hn h
    obtain ⟨f', rfl⟩ : ∃ f', f = f' + 1 := ⟨f - 1, by omega⟩
    obtain ⟨x, hx⟩ : ∃ x, ((q >>> (((8 : Int32) * nI i).toInt64 &&& 63)) &&& (255 : Int64)).toInt32 = x := ⟨_, rfl⟩
    have hb : ∃ b : Nat, b < 256 ∧ x = nI b := by
      obtain ⟨b, h1, h2⟩ := zl_byte (q >>> (((8 : Int32) * nI i).toInt64 &&& 63))
      exact ⟨b, h1, by rw [← hx]; exact h2⟩
    obtain ⟨t', tM', e1, e2, e3⟩ := ih (i + 1) (n + 1) f' (upd t n x) (upd tM n x) (by omega) (by omega) (by omega) (zTr_upd h hb)
    rw [show n + 1 + d = n + (d + 1) by omega] at e1 e2 e3
    refine ⟨t', tM', ?_, ?_, e3⟩
    · rw [f_X3_append_L17_s, if_neg (nI_ge (by omega) (by omega)), zl_gd (zl_inN (by omega) (by decide)), zl_let, zl_let, zl_let, hx, zl_cl (by omega), nI_1, nI_1]
      exact e1
    · rw [f_X7_write_L33_s, if_neg (nI_ge (by omega) (by omega)), zl_gd (zl_inN (by omega) (by decide)), zl_let, zl_let, zl_let, hx, zl_cl (by omega), nI_1, nI_1]
      exact e2
theorem pr_write (c : Nat → ClassId) (n_numbers : Nat → Int32) (n_syllables : Nat → Int64) (n_syllableCount : Int32) (n_days : Nat → Int32) (n_words : Nat → Int64) (n_parents : Nat → Int32) (n_otherParents : Nat → Int32) (n_kinds : Nat → Int32) (n_personCount : Int32) (n_hopeDays : Nat → Int32) (n_hopeTenths : Nat → Int32) (n_hopeCount : Int32) (n_degreesTold : Int32) (r_text : Nat → Int32) (r_length : Int32) (s_lane : Nat → Int32) (s_size : Nat → Int32) (s_items : Nat → Nat → Int32) (i_ir : Nat → Option Nat) (g0 : va_W) (g1 : va_W) (z_row : Nat → Int32) (z_words : Nat → Int64) (z_isKept : Nat → Int32) (z_text : Nat → Int32) (z_length : Int32) (z_lanes : Nat → Int32) (z_sizes : Nat → Int32) (z_items : Nat → Int32) (p1 : Int64) (p3 : Int32) (N : Nat) (hN : 100000 ≤ N) (hR : zRel c n_numbers n_syllables n_syllableCount n_days n_words n_parents n_otherParents n_kinds n_personCount n_hopeDays n_hopeTenths n_hopeCount n_degreesTold r_text r_length s_lane s_size s_items i_ir g0 g1 z_row z_words z_isKept z_text z_length z_lanes z_sizes z_items) : ∃ (r : Int32) (o_r_text : Nat → Int32) (o_r_length : Int32) (e_text : Nat → Int32) (e_length : Int32), f_X6_write N r_text r_length p1 p3 = some (r, o_r_text, o_r_length) ∧ f_X7_write N z_text z_length p1 p3 = some (r, e_text, e_length) ∧ zRel c n_numbers n_syllables n_syllableCount n_days n_words n_parents n_otherParents n_kinds n_personCount n_hopeDays n_hopeTenths n_hopeCount n_degreesTold o_r_text o_r_length s_lane s_size s_items i_ir g0 g1 z_row z_words z_isKept e_text e_length z_lanes z_sizes z_items := by
  obtain ⟨h1, ⟨n, hn, e1, e2, h2⟩, h3⟩ := id hR
  subst e1
  subst e2
  by_cases hp : 1 ≤ p3.toInt ∧ p3.toInt ≤ 8
  · obtain ⟨m, hm, rfl⟩ : ∃ m : Nat, m ≤ 8 ∧ p3 = nI m := by
      rcases zl_case p3 9 (by decide) with ⟨j, hj, e⟩ | q
      · exact ⟨j, by omega, e⟩
      · omega
    have hm1 : 1 ≤ m := by rw [nI_toInt (by omega)] at hp; omega
    have c1 : ¬ nI m < (1 : Int32) := by rw [fa_lt, nI_toInt (by omega)]; show ¬ (m : Int) < 1; omega
    have c2 : nI m ≤ (8 : Int32) := by rw [fa_le, nI_toInt (by omega)]; show (m : Int) ≤ 8; omega
    have c3 : f_X7_in N (nI m).toInt64 1 8 = some 1 := zl_in7t (by rw [zl_wide]; exact hp)
    by_cases hr : n + m ≤ 200
    · obtain ⟨t', tM', q1, q2, q3⟩ := wr_loop N p1 m hm (fun t l => some (1, t, l)) (fun t l => some (l, t, l)) m 0 n N r_text z_text (by omega) (by omega) hr h2
      refine ⟨nI (n + m), t', nI (n + m), tM', nI (n + m), ?_, ?_, h1, ⟨n + m, hr, rfl, rfl, q3⟩, h3⟩
      · unfold f_X6_write
        rw [if_neg c1, if_pos c2, zl_b3 (a1 := 1) (a2 := t') (a3 := nI (n + m))]
        · rfl
        · unfold f_X3_append
          rw [if_pos (by rw [fa_le, show (200 : Int32) = nI 200 from rfl, pk_sub_toInt (by omega) (by omega), nI_toInt (by omega)]; omega), zl_let]
          exact q1
      · unfold f_X7_write
        rw [zl_bT c3, if_pos (by rw [nI_add, show (200 : Int32) = nI 200 from rfl, nI_leI (by omega) (by omega)]; omega), zl_let]
        exact q2
    · refine ⟨-5, r_text, nI n, z_text, nI n, ?_, ?_, hR⟩
      · unfold f_X6_write
        rw [if_neg c1, if_pos c2, zl_b3 (a1 := 0) (a2 := r_text) (a3 := nI n)]
        · rfl
        · unfold f_X3_append
          rw [if_neg (by rw [fa_le, show (200 : Int32) = nI 200 from rfl, pk_sub_toInt (by omega) (by omega), nI_toInt (by omega)]; omega)]
      · unfold f_X7_write
        rw [zl_bT c3, if_neg (by rw [nI_add, show (200 : Int32) = nI 200 from rfl, nI_leI (by omega) (by omega)]; omega)]
  · refine ⟨-3, r_text, nI n, z_text, nI n, ?_, ?_, hR⟩
    · unfold f_X6_write
      by_cases c1 : p3 < (1 : Int32)
      · rw [if_pos c1]
      · rw [if_neg c1, if_neg (by rw [fa_lt] at c1; rw [fa_le]; have e1 : (1 : Int32).toInt = 1 := rfl; have e8 : (8 : Int32).toInt = 8 := rfl; omega)]
    · unfold f_X7_write
      rw [zl_bF (zl_in7f (by rw [zl_wide]; exact hp))]
