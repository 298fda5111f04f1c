/-! ===== pure rows: sheets ===== -/
theorem up2_s {α : Type} {M : Nat → α} {i : Nat} {r : α} : zz_up2 M i r i = r := if_pos rfl
theorem up2_n {α : Type} {M : Nat → α} {i j : Nat} {r : α} (h : j ≠ i) : zz_up2 M i r j = M j := if_neg h
theorem zl_20 (n : Nat) : (20 : Int32) * nI n = nI (20 * n) := pk_mul 20 n
theorem bg_loop (N j : Nat) (k : (Nat → Nat → Int32) → Option ((Nat → Int32) × (Nat → Int32) × (Nat → Nat → Int32))) : ∀ (d v f : Nat) (its : Nat → Nat → Int32), v + d = 20 → d < f → ∃ its', f_X4_begin_L12 N k j f (nI v) its = k its' ∧ (∀ t, t ≠ j → its' t = its t) ∧ ∀ i, i < 20 → its' j i = if v ≤ i then 0 else its j i := by
  intro d
  induction d with
  | zero =>
    intro v f its hv hf
    obtain ⟨f', rfl⟩ : ∃ f', f = f' + 1 := ⟨f - 1, by omega⟩
    refine ⟨its, ?_, fun _ _ => rfl, fun i hi => by rw [if_neg (by omega)]⟩
    rw [f_X4_begin_L12_s, if_pos (show (20 : Int32) ≤ nI v by rw [show v = 20 by omega]; decide)]
  | succ d ih =>
    intro v f its hv hf
    obtain ⟨f', rfl⟩ : ∃ f', f = f' + 1 := ⟨f - 1, by omega⟩
    obtain ⟨its', e1, e2, e3⟩ := ih (v + 1) f' (zz_up2 its j (upd (its j) v 0)) (by omega) (by omega)
    refine ⟨its', ?_, fun t ht => by rw [e2 t ht, up2_n ht], fun i hi => ?_⟩
    · rw [f_X4_begin_L12_s, if_neg (show ¬ (20 : Int32) ≤ nI v from nI_ge (a := v) (b := 20) (by omega) (by decide)), zl_gd (zl_inN (by omega) (by decide)), zl_let, zl_let, zl_let, zl_cl (by omega), nI_1]
      exact e1
    · rw [e3 i hi, up2_s]
      by_cases h : v + 1 ≤ i
      · rw [if_pos h, if_pos (by omega)]
      · rw [if_neg h]
        by_cases h2 : i = v
        · subst h2
          rw [pk_us, if_pos (by omega)]
        · rw [pk_un h2, if_neg (by omega)]
theorem s7_loop (N j n : Nat) (hj : j < 3) (hn : n ≤ 20) (k : (Nat → Int32) → Option (Int32 × (Nat → Int32) × (Nat → Int32) × (Nat → Int32))) : ∀ (d v f : Nat) (its : Nat → Int32), v + d = n → d < f → ∃ its', f_X7_sheet_L55 N k (nI j) (nI n) f (nI v) its = k its' ∧ ∀ x, its' x = if 20 * j + v ≤ x ∧ x < 20 * j + n then 0 else its x := by
  intro d
  induction d with
  | zero =>
    intro v f its hv hf
    obtain ⟨f', rfl⟩ : ∃ f', f = f' + 1 := ⟨f - 1, by omega⟩
    refine ⟨its, ?_, fun x => by rw [if_neg (by omega)]⟩
    rw [f_X7_sheet_L55_s, if_pos (nI_le (by omega) (by omega))]
  | succ d ih =>
    intro v f its hv hf
    obtain ⟨f', rfl⟩ : ∃ f', f = f' + 1 := ⟨f - 1, by omega⟩
    obtain ⟨its', e1, e2⟩ := ih (v + 1) f' (upd its (20 * j + v) 0) (by omega) (by omega)
    refine ⟨its', ?_, fun x => ?_⟩
    · rw [f_X7_sheet_L55_s, if_neg (nI_ge (by omega) (by omega)), zl_20, nI_add, zl_gd (zl_inN (by omega) (by decide)), zl_let, zl_let, zl_cl (by omega), nI_1]
      exact e1
    · rw [e2 x]
      by_cases h : x = 20 * j + v
      · subst h
        rw [if_neg (by omega), if_pos (by omega), pk_us]
      · rw [pk_un h]
        by_cases h2 : 20 * j + (v + 1) ≤ x ∧ x < 20 * j + n
        · rw [if_pos h2, if_pos (by omega)]
        · rw [if_neg h2, if_neg (by omega)]
theorem zl_isLane_t {N : Nat} {p : Int32} (h : 0 ≤ p.toInt ∧ p.toInt < 3) : f_X6_isLane N p = some 1 := by
  unfold f_X6_isLane
  rw [if_neg (show ¬ p < 0 by rw [zl_lt0]; omega), if_neg (show ¬ (2 : Int32) < p by rw [fa_lt]; show ¬ (2 : Int) < _; omega)]
theorem zl_isLane_f {N : Nat} {p : Int32} (h : ¬ (0 ≤ p.toInt ∧ p.toInt < 3)) : f_X6_isLane N p = some 0 := by
  unfold f_X6_isLane
  by_cases h1 : p < 0
  · rw [if_pos h1]
  · rw [if_neg h1, if_pos (show (2 : Int32) < p by rw [zl_lt0] at h1; rw [fa_lt]; show (2 : Int) < _; omega)]
theorem pr_sheet (c : Nat → ClassId) (n_numbers : Nat → Int32) (n_syllables : Nat → Int64) (n_syllableCount : Int32) (n_days : Nat → Int32) (n_words : Nat → Int64) (n_parents : Nat → Int32) (n_otherParents : Nat → Int32) (n_kinds : Nat → Int32) (n_personCount : Int32) (n_hopeDays : Nat → Int32) (n_hopeTenths : Nat → Int32) (n_hopeCount : Int32) (n_degreesTold : Int32) (r_text : Nat → Int32) (r_length : Int32) (s_lane : Nat → Int32) (s_size : Nat → Int32) (s_items : Nat → Nat → Int32) (i_ir : Nat → Option Nat) (g0 : va_W) (g1 : va_W) (z_row : Nat → Int32) (z_words : Nat → Int64) (z_isKept : Nat → Int32) (z_text : Nat → Int32) (z_length : Int32) (z_lanes : Nat → Int32) (z_sizes : Nat → Int32) (z_items : Nat → Int32) (p1 : Int32) (p2 : Int32) (p3 : Int32) (N : Nat) (hN : 100000 ≤ N) (hR : zRel c n_numbers n_syllables n_syllableCount n_days n_words n_parents n_otherParents n_kinds n_personCount n_hopeDays n_hopeTenths n_hopeCount n_degreesTold r_text r_length s_lane s_size s_items i_ir g0 g1 z_row z_words z_isKept z_text z_length z_lanes z_sizes z_items) : ∃ (r : Int32) (o_s_lane : Nat → Int32) (o_s_size : Nat → Int32) (o_s_items : Nat → Nat → Int32) (e_lanes : Nat → Int32) (e_sizes : Nat → Int32) (e_items : Nat → Int32), f_X6_sheet N s_lane s_size s_items p1 p2 p3 = some (r, o_s_lane, o_s_size, o_s_items) ∧ f_X7_sheet N z_lanes z_sizes z_items p1 p2 p3 = some (r, e_lanes, e_sizes, e_items) ∧ zRel c n_numbers n_syllables n_syllableCount n_days n_words n_parents n_otherParents n_kinds n_personCount n_hopeDays n_hopeTenths n_hopeCount n_degreesTold r_text r_length o_s_lane o_s_size o_s_items i_ir g0 g1 z_row z_words z_isKept z_text z_length e_lanes e_sizes e_items := by
  obtain ⟨h1, h2, h3, h4⟩ := id hR
  rcases zl_case p1 3 (by decide) with ⟨j, hj, rfl⟩ | h
  · have hb : 0 ≤ (nI j).toInt ∧ (nI j).toInt < 3 := by rw [nI_toInt (by omega)]; omega
    rcases zl_case p2 3 (by decide) with ⟨ln, hln, rfl⟩ | h
    · have hl : 0 ≤ (nI ln).toInt ∧ (nI ln).toInt < 3 := by rw [nI_toInt (by omega)]; omega
      have hl7 : f_X7_in N (nI ln).toInt64 0 2 = some 1 := zl_in7t (by rw [zl_wide]; exact ⟨hl.1, by show _ ≤ (2 : Int); omega⟩)
      by_cases c1 : p3 ≤ (20 : Int32)
      · by_cases c2 : 0 ≤ p3
        · obtain ⟨n, hn, rfl⟩ : ∃ n : Nat, n ≤ 20 ∧ p3 = nI n := by
            rcases zl_case p3 21 (by decide) with ⟨n, hn, e⟩ | q
            · exact ⟨n, by omega, e⟩
            · rw [zl_0le] at c2
              rw [fa_le] at c1
              have e20 : (20 : Int32).toInt = 20 := rfl
              omega
          obtain ⟨i6, q1, q2, q3⟩ := bg_loop N j (fun it => some (zz_up2 s_lane j (nI ln), zz_up2 s_size j (nI n), it)) 20 0 N s_items (by omega) (by omega)
          obtain ⟨i7, q4, q5⟩ := s7_loop N j n hj hn (fun it => some (1, upd z_lanes j (nI ln), upd z_sizes j (nI n), it)) n 0 N z_items (by omega) (by omega)
          refine ⟨1, zz_up2 s_lane j (nI ln), zz_up2 s_size j (nI n), i6, upd z_lanes j (nI ln), upd z_sizes j (nI n), i7, ?_, ?_, h1, h2, ?_, h4⟩
          · unfold f_X6_sheet
            rw [zl_bT (zl_isSheet_t hb), zl_bT (zl_isLane_t hl), if_pos c1, if_pos c2, zl_gd (zl_inN hj (by decide)), zl_cl (by omega), zl_b3 (a1 := zz_up2 s_lane j (nI ln)) (a2 := zz_up2 s_size j (nI n)) (a3 := i6)]
            unfold f_X4_begin
            rw [zl_let, zl_let, zl_let]
            exact q1
          · unfold f_X7_sheet
            rw [zl_bT (zl_7isSheet_t hb), zl_bT hl7, if_pos c1, if_pos c2, zl_gd (zl_inN hj (by decide)), zl_cl (by omega), zl_let, zl_let, zl_let]
            exact q4
          · intro t ht
            by_cases e : t = j
            · subst e
              refine Or.inr ⟨ln, n, hln, hn, up2_s, pk_us, up2_s, pk_us, fun i hi => ?_⟩
              rw [q3 i (by omega), if_pos (by omega), q5, if_pos (by omega)]
            · rcases h3 t ht with q | ⟨l, m, q⟩
              · exact Or.inl ⟨by rw [up2_n e]; exact q.1, by rw [pk_un e]; exact q.2⟩
              · refine Or.inr ⟨l, m, q.1, q.2.1, by rw [up2_n e]; exact q.2.2.1, by rw [pk_un e]; exact q.2.2.2.1, by rw [up2_n e]; exact q.2.2.2.2.1, by rw [pk_un e]; exact q.2.2.2.2.2.1, fun i hi => ?_⟩
                rw [q2 t e, q5, if_neg (by have := q.2.1; omega)]
                exact q.2.2.2.2.2.2 i hi
        · refine ⟨-14, s_lane, s_size, s_items, z_lanes, z_sizes, z_items, ?_, ?_, hR⟩
          · unfold f_X6_sheet
            rw [zl_bT (zl_isSheet_t hb), zl_bT (zl_isLane_t hl), if_pos c1, if_neg c2]
          · unfold f_X7_sheet
            rw [zl_bT (zl_7isSheet_t hb), zl_bT hl7, if_pos c1, if_neg c2]
      · refine ⟨-3, s_lane, s_size, s_items, z_lanes, z_sizes, z_items, ?_, ?_, hR⟩
        · unfold f_X6_sheet
          rw [zl_bT (zl_isSheet_t hb), zl_bT (zl_isLane_t hl), if_neg c1]
        · unfold f_X7_sheet
          rw [zl_bT (zl_7isSheet_t hb), zl_bT hl7, if_neg c1]
    · refine ⟨-3, s_lane, s_size, s_items, z_lanes, z_sizes, z_items, ?_, ?_, hR⟩
      · unfold f_X6_sheet
        rw [zl_bT (zl_isSheet_t hb), zl_bF (zl_isLane_f h)]
      · unfold f_X7_sheet
        rw [zl_bT (zl_7isSheet_t hb), zl_bF (zl_in7f (by rw [zl_wide]; intro q; exact h ⟨q.1, by have : p2.toInt ≤ (2 : Int) := q.2; omega⟩))]
  · refine ⟨-2, s_lane, s_size, s_items, z_lanes, z_sizes, z_items, ?_, ?_, hR⟩
    · unfold f_X6_sheet
      rw [zl_bF (zl_isSheet_f h)]
    · unfold f_X7_sheet
      rw [zl_bF (zl_7isSheet_f h)]
theorem zl_miss_t {N : Nat} {f : Nat → Int32} {j : Nat} (h : f j = -1) : f_X4_isMissing N f j = some 1 := by
  unfold f_X4_isMissing
  rw [if_pos h]
theorem zl_miss_f {N : Nat} {f : Nat → Int32} {j n : Nat} (h : f j = nI n) (hn : n ≤ 20) : f_X4_isMissing N f j = some 0 := by
  unfold f_X4_isMissing
  rw [if_neg (by rw [h]; exact zl_nm1 (by omega))]
theorem zl_places {N : Nat} {f : Nat → Int32} {j n : Nat} (h : f j = nI n) (hn : n ≤ 20) (p q : Int32) : f_X4_hasPlaces N f j p q = some (if 0 ≤ p.toInt ∧ 0 ≤ q.toInt ∧ p.toInt + q.toInt ≤ n then 1 else 0) := by
  unfold f_X4_hasPlaces
  rw [h]
  by_cases c1 : p < 0
  · rw [if_pos c1, if_neg (by rw [zl_lt0] at c1; omega)]
  · rw [if_neg c1]
    rw [zl_lt0] at c1
    by_cases c2 : q < 0
    · rw [if_pos c2, if_neg (by rw [zl_lt0] at c2; omega)]
    · rw [if_neg c2]
      rw [zl_lt0] at c2
      by_cases c3 : nI n < p
      · rw [if_pos c3, if_neg (by rw [fa_lt, nI_toInt (by omega)] at c3; omega)]
      · rw [if_neg c3]
        rw [fa_lt, nI_toInt (by omega)] at c3
        have e : (nI n - p).toInt = (n : Int) - p.toInt := by
          rw [fb_subI, nI_toInt (by omega)] <;> rw [nI_toInt (by omega)] <;> omega
        by_cases c4 : nI n - p < q
        · rw [if_pos c4, if_neg (by rw [fa_lt, e] at c4; omega)]
        · rw [if_neg c4, if_pos (by rw [fa_lt, e] at c4; omega)]
theorem zSh_put {lane size : Nat → Int32} {items : Nat → Nat → Int32} {lanes sizes itemsM : Nat → Int32} (h : zSh lane size items lanes sizes itemsM) {j : Nat} {i6 : Nat → Int32} {i7 : Nat → Int32} (h1 : ∀ t i, t ≠ j → i < 20 → t < 3 → i7 (20 * t + i) = itemsM (20 * t + i)) (h2 : ∀ n, size j = nI n → n ≤ 20 → ∀ i, i < n → i6 i = i7 (20 * j + i)) : zSh lane size (zz_up2 items j i6) lanes sizes i7 := by
  intro t ht
  rcases h t ht with q | ⟨ln, n, q1, q2, q3, q4, q5, q6, q7⟩
  · exact Or.inl q
  · refine Or.inr ⟨ln, n, q1, q2, q3, q4, q5, q6, fun i hi => ?_⟩
    by_cases e : t = j
    · subst e
      rw [up2_s]
      exact h2 n q5 q2 i hi
    · rw [up2_n e, h1 t i e (by omega) ht]
      exact q7 i hi
theorem pr_lay (c : Nat → ClassId) (n_numbers : Nat → Int32) (n_syllables : Nat → Int64) (n_syllableCount : Int32) (n_days : Nat → Int32) (n_words : Nat → Int64) (n_parents : Nat → Int32) (n_otherParents : Nat → Int32) (n_kinds : Nat → Int32) (n_personCount : Int32) (n_hopeDays : Nat → Int32) (n_hopeTenths : Nat → Int32) (n_hopeCount : Int32) (n_degreesTold : Int32) (r_text : Nat → Int32) (r_length : Int32) (s_lane : Nat → Int32) (s_size : Nat → Int32) (s_items : Nat → Nat → Int32) (i_ir : Nat → Option Nat) (g0 : va_W) (g1 : va_W) (z_row : Nat → Int32) (z_words : Nat → Int64) (z_isKept : Nat → Int32) (z_text : Nat → Int32) (z_length : Int32) (z_lanes : Nat → Int32) (z_sizes : Nat → Int32) (z_items : Nat → Int32) (p1 : Int32) (p2 : Int32) (p3 : Int32) (N : Nat) (hN : 100000 ≤ N) (hR : zRel c n_numbers n_syllables n_syllableCount n_days n_words n_parents n_otherParents n_kinds n_personCount n_hopeDays n_hopeTenths n_hopeCount n_degreesTold r_text r_length s_lane s_size s_items i_ir g0 g1 z_row z_words z_isKept z_text z_length z_lanes z_sizes z_items) : ∃ (r : Int32) (o_s_items : Nat → Nat → Int32) (e_items : Nat → Int32), f_X6_lay N s_lane s_size s_items p1 p2 p3 = some (r, o_s_items) ∧ f_X7_lay N z_lanes z_sizes z_items p1 p2 p3 = some (r, e_items) ∧ zRel c n_numbers n_syllables n_syllableCount n_days n_words n_parents n_otherParents n_kinds n_personCount n_hopeDays n_hopeTenths n_hopeCount n_degreesTold r_text r_length s_lane s_size o_s_items i_ir g0 g1 z_row z_words z_isKept z_text z_length z_lanes z_sizes e_items := by
  obtain ⟨h1, h2, h3, h4⟩ := id hR
  rcases zl_case p1 3 (by decide) with ⟨j, hj, rfl⟩ | h
  · have hb : 0 ≤ (nI j).toInt ∧ (nI j).toInt < 3 := by rw [nI_toInt (by omega)]; omega
    rcases h3 j hj with ⟨q1, q2⟩ | ⟨ln, n, q1, q2, q3, q4, q5, q6, q7⟩
    · refine ⟨-11, s_items, z_items, ?_, ?_, hR⟩
      · unfold f_X6_lay
        rw [zl_bT (zl_isSheet_t hb), zl_gd (zl_inN hj (by decide)), zl_cl (by omega), zl_bT (zl_miss_t q1)]
      · unfold f_X7_lay
        rw [zl_bT (zl_7isSheet_t hb), zl_gd (zl_inN hj (by decide)), zl_cl (by omega), if_pos q2]
    · have e7 : (z_sizes j - 1).toInt64.toInt = (n : Int) - 1 := by
        rw [zl_wide, q6]
        exact pk_sub_toInt (a := n) (b := 1) (by omega) (by decide)
      have nm : ¬ z_lanes j = -1 := by rw [q4]; exact zl_nm1 (by omega)
      rcases zl_case p2 n (by omega) with ⟨i, hi, rfl⟩ | h
      · obtain ⟨x, hx⟩ : ∃ x, (if ln = 0 then p3.toInt8.toInt32 else if ln = 1 then p3.toInt16.toInt32 else p3) = x := ⟨_, rfl⟩
        refine ⟨1, zz_up2 s_items j (upd (s_items j) i x), upd z_items (20 * j + i) x, ?_, ?_, h1, h2, ?_, h4⟩
        · unfold f_X6_lay
          rw [zl_bT (zl_isSheet_t hb), zl_gd (zl_inN hj (by decide)), zl_cl (by omega), zl_bF (zl_miss_f q5 q2), zl_bT (show f_X4_hasPlaces N s_size j (nI i) 1 = some 1 by rw [zl_places q5 q2, nI_toInt (by omega), if_pos (by have : (1 : Int32).toInt = 1 := rfl; omega)]), zl_b1 (a := zz_up2 s_items j (upd (s_items j) i x))]
          unfold f_X4_put
          rw [q3, zl_cl (by omega)]
          match ln, q1 with
          | 0, _ => rw [if_pos (show nI 0 = 0 from rfl), zl_gd (zl_inN (by omega) (by decide)), zl_let, zl_let, ← hx]; rfl
          | 1, _ => rw [if_neg (show ¬ nI 1 = 0 by decide), if_pos (show nI 1 = 1 from rfl), zl_gd (zl_inN (by omega) (by decide)), zl_let, zl_let, ← hx]; rfl
          | 2, _ => rw [if_neg (show ¬ nI 2 = 0 by decide), if_neg (show ¬ nI 2 = 1 by decide), zl_gd (zl_inN (by omega) (by decide)), zl_let, zl_let, ← hx]; rfl
        · unfold f_X7_lay
          rw [zl_bT (zl_7isSheet_t hb), zl_gd (zl_inN hj (by decide)), zl_cl (by omega), if_neg nm, zl_bT (zl_in7t (by rw [e7, zl_wide, nI_toInt (by omega)]; show (0 : Int) ≤ _ ∧ _; omega)), zl_let, zl_20, nI_add, q4]
          match ln, q1 with
          | 0, _ => rw [if_pos (show nI 0 = 0 from rfl)]; dsimp only; rw [zl_gd (zl_inN (by omega) (by decide)), zl_cl (by omega), zl_let, ← hx]; rfl
          | 1, _ => rw [if_neg (show ¬ nI 1 = 0 by decide), if_pos (show nI 1 = 1 from rfl)]; dsimp only; rw [zl_gd (zl_inN (by omega) (by decide)), zl_cl (by omega), zl_let, ← hx]; rfl
          | 2, _ => rw [if_neg (show ¬ nI 2 = 0 by decide), if_neg (show ¬ nI 2 = 1 by decide)]; dsimp only; rw [zl_gd (zl_inN (by omega) (by decide)), zl_cl (by omega), zl_let, ← hx]; rfl
        · refine zSh_put h3 (fun t y ht hy _ => by rw [pk_un (by omega)]) (fun m em hm y hy => ?_)
          have : m = n := (nI_eq (by omega) (by omega)).mp (em.symm.trans q5)
          subst this
          by_cases e : y = i
          · subst e
            rw [pk_us, pk_us]
          · rw [pk_un e, pk_un (by omega)]
            exact q7 y hy
      · refine ⟨-13, s_items, z_items, ?_, ?_, hR⟩
        · unfold f_X6_lay
          rw [zl_bT (zl_isSheet_t hb), zl_gd (zl_inN hj (by decide)), zl_cl (by omega), zl_bF (zl_miss_f q5 q2), zl_bF (show f_X4_hasPlaces N s_size j p2 1 = some 0 by rw [zl_places q5 q2, if_neg (by have : (1 : Int32).toInt = 1 := rfl; omega)])]
        · unfold f_X7_lay
          rw [zl_bT (zl_7isSheet_t hb), zl_gd (zl_inN hj (by decide)), zl_cl (by omega), if_neg nm, zl_bF (zl_in7f (by rw [e7, zl_wide]; intro q; have : (0 : Int) ≤ p2.toInt := q.1; omega))]
  · refine ⟨-2, s_items, z_items, ?_, ?_, hR⟩
    · unfold f_X6_lay
      rw [zl_bF (zl_isSheet_f h)]
    · unfold f_X7_lay
      rw [zl_bF (zl_7isSheet_f h)]
