/-! ===== the sums of syllables laid; rows without, mend ===== -/
theorem ls_loop (N : Nat) (hN : 100000 ≤ N) {a : AW} {row : Nat → Int32} {w : Nat → Int64} (hok : zOK a) (hra : zRA a row w 0) (K) : ∀ (d i f k : Nat) (sums : Nat → Int32) (S : Nat → Nat), i + d = aSC a → d < f → k ≤ i → (∀ j, j < k → sums j = nI (S j) ∧ S j ≤ 2000) → (∀ x, qW a i x ↔ ∃ j, j < k ∧ S j = x) → ∃ (sums' : Nat → Int32) (k' : Nat) (S' : Nat → Nat), f_X7_laySums_L7 N K row f (nI i) sums (nI k) = K sums' (nI k') ∧ k' ≤ aSC a ∧ (∀ j, j < k' → sums' j = nI (S' j) ∧ S' j ≤ 2000) ∧ ∀ x, qW a (aSC a) x ↔ ∃ j, j < k' ∧ S' j = x := by
  have hsc : aSC a ≤ 10 := hok.2.1
  have h26 : row (26 : Int32).toNatClampNeg = nI (aSC a) := hra.2.1
  intro d
  induction d with
  | zero =>
    intro i f k sums S hi hf hk h1 h2
    obtain ⟨f', rfl⟩ : ∃ f', f = f' + 1 := ⟨f - 1, by omega⟩
    rw [f_X7_laySums_L7_s, h26, if_pos (nI_le (by omega) (by omega))]
    rw [show i = aSC a by omega] at h2
    exact ⟨sums, k, S, rfl, by omega, h1, h2⟩
  | succ d ih =>
    intro i f k sums S hi hf hk h1 h2
    obtain ⟨f', rfl⟩ : ∃ f', f = f' + 1 := ⟨f - 1, by omega⟩
    have hi3 : i < aSC a := by omega
    have hsy : isSy a (aS a i) := ⟨i, hi3, rfl⟩
    have h63 := sy_63 hok hsy
    have hsum := aSum_le hok h63
    rw [f_X7_laySums_L7_s, h26, if_neg (nI_ge hi3 (by omega)), show (27 : Int32) = nI 27 from rfl, nI_add, zl_gd (zl_inN (show 27 + i < 300 by omega) (by decide)), zl_cl (show 27 + i < 2 ^ 31 by omega), zl_row27 hok hra hi3, zl_b1 (ba_eq N hN hok (zl_row0 hra) h63 (sy_D hok hsy)), zl_let]
    cases c : aB a (aS a i) with
    | false =>
      rw [if_neg (show ¬ false = true by decide), if_pos rfl]
      dsimp only
      rw [zl_let, nI_1]
      refine ih (i + 1) f' k sums S (by omega) (by omega) (by omega) h1 (fun x => ?_)
      rw [← h2 x]
      constructor
      · rintro ⟨j, j1, j2, j3⟩
        refine ⟨j, ?_, j2, j3⟩
        by_cases e : j = i
        · rw [e, c] at j2
          cases j2
        · omega
      · rintro ⟨j, j1, j2⟩
        exact ⟨j, by omega, j2⟩
    | true =>
      rw [if_pos rfl, if_neg (show ¬ (1 : Int32) = 0 by decide), zl_b1 (sum7 N hN (zl_row0 hra) h63 (sy_D hok hsy)), zl_gd (zl_inN (show k < 11 by omega) (by decide)), zl_let, zl_let, nI_1, zl_cl (show k < 2 ^ 31 by omega)]
      dsimp only
      rw [zl_let, nI_1]
      refine ih (i + 1) f' (k + 1) _ (nup S k (aSum a (aS a i))) (by omega) (by omega) (by omega) (fun j hj => ?_) (fun x => ?_)
      · by_cases e : j = k
        · rw [e, pk_us, nup_s]
          exact ⟨rfl, by omega⟩
        · rw [pk_un e, nup_n e]
          exact h1 j (by omega)
      · constructor
        · rintro ⟨j, j1, j2, j3⟩
          by_cases e : j = i
          · rw [e] at j3
            exact ⟨k, by omega, by rw [nup_s]; exact j3⟩
          · obtain ⟨t, t1, t2⟩ := (h2 x).mp ⟨j, by omega, j2, j3⟩
            exact ⟨t, by omega, by rw [nup_n (by omega)]; exact t2⟩
        · rintro ⟨j, j1, j2⟩
          by_cases e : j = k
          · rw [e, nup_s] at j2
            exact ⟨i, by omega, c, j2⟩
          · rw [nup_n e] at j2
            obtain ⟨t, t1, t2⟩ := (h2 x).mpr ⟨j, by omega, j2⟩
            exact ⟨t, by omega, t2⟩
theorem ls_eq (N : Nat) (hN : 100000 ≤ N) {a : AW} {row : Nat → Int32} {w : Nat → Int64} (hok : zOK a) (hra : zRA a row w 0) (sums nm : Nat → Int32) : ∃ (sums' : Nat → Int32) (M : Nat) (S : Nat → Nat) (nm' : Nat → Int32), f_X7_laySums N row sums nm = some (sums', nI M, nm') ∧ M ≤ aSC a ∧ (∀ k, k < M → sums' k = nI (S k) ∧ S k ≤ 2000) ∧ (∀ x, qW a (aSC a) x ↔ ∃ k, k < M ∧ S k = x) ∧ ∀ d, 1 ≤ d → d ≤ 400 → (nm' d = 0 ↔ ¬ rk (qW a (aSC a)) 3 d) := by
  have hsc : aSC a ≤ 10 := hok.2.1
  obtain ⟨sums', M, S, q1, q2, q3, q4⟩ := ls_loop N hN hok hra (fun (t_sums_17 : Nat → Int32) (t_sumMany_18 : Int32) => zz_b1 (f_X7_layNamed N t_sums_17 t_sumMany_18 nm) (fun t_named_19 => (some (t_sums_17, t_sumMany_18, t_named_19)))) (aSC a) 0 N 0 sums (fun _ => 0) (by omega) (by omega) (by omega) (fun j hj => by omega) (fun x => ⟨fun ⟨j, j1, _⟩ => by omega, fun ⟨j, j1, _⟩ => by omega⟩)
  obtain ⟨nm', p1, p2⟩ := lnd_eq N hN (show M ≤ 11 by omega) q3 q4 nm
  refine ⟨sums', M, S, nm', ?_, q2, q3, q4, p2⟩
  unfold f_X7_laySums
  rw [zl_let, show f_X7_laySums_L7 N _ row N 0 sums 0 = _ from q1, zl_b1 p1]
theorem few_nm {few nm : Nat → Int32} {F : Nat → Nat} {Q : Nat → Prop} (h1 : zFe few F) (h2 : zFq F Q) (h3 : ∀ d, 1 ≤ d → d ≤ 400 → (nm d = 0 ↔ ¬ rk Q 3 d)) {d : Nat} (hd1 : 1 ≤ d) (hd : d ≤ 400) : few d ≤ (3 : Int32) ↔ ¬ nm d = 0 := by
  obtain ⟨e, e2⟩ := h1 d hd
  rw [h3 d hd1 hd, e, show (3 : Int32) = nI 3 from rfl, nI_leI (by omega) (by decide), h2 d hd 3 (Nat.le_refl _)]
  exact Classical.not_not.symm
theorem dw_both (N : Nat) {few nm : Nat → Int32} {t : Nat} (ht : t ≤ 400) (h : ∀ d, 1 ≤ d → d ≤ 400 → (few d ≤ (3 : Int32) ↔ ¬ nm d = 0)) (K6 K7 : Int32 → Option Int32) : ∀ (n d f f' c : Nat), d + n = t + 1 → 1 ≤ d → n < f → n < f' → ∃ c', f_X2_daysWithout_L5 N K6 few (nI t) f (nI c) (nI d) = K6 (nI c') ∧ f_X7_bare_L6 N K7 nm (nI t) 0 f' (nI c) (nI d) = K7 (nI c') := by
  intro n
  induction n with
  | zero =>
    intro d f f' c hd hd1 hf hf'
    obtain ⟨f, rfl⟩ : ∃ g, f = g + 1 := ⟨f - 1, by omega⟩
    obtain ⟨f', rfl⟩ : ∃ g, f' = g + 1 := ⟨f' - 1, by omega⟩
    rw [f_X2_daysWithout_L5_s, f_X7_bare_L6_s, if_pos (nI_lt (by omega) (by omega)), if_pos (nI_lt (by omega) (by omega))]
    exact ⟨c, rfl, rfl⟩
  | succ n ih =>
    intro d f f' c hd hd1 hf hf'
    obtain ⟨f, rfl⟩ : ∃ g, f = g + 1 := ⟨f - 1, by omega⟩
    obtain ⟨f', rfl⟩ : ∃ g, f' = g + 1 := ⟨f' - 1, by omega⟩
    have hh := h d hd1 (by omega)
    rw [f_X2_daysWithout_L5_s, f_X7_bare_L6_s, if_neg (nI_nlt (by omega) (by omega)), if_neg (nI_nlt (by omega) (by omega)), zl_gd (zl_inN (show d < 401 by omega) (by decide)), zl_gd (zl_inN (show d < 401 by omega) (by decide)), zl_let, zl_let, zl_let, zl_cl (show d < 2 ^ 31 by omega)]
    by_cases q : nm d = 0
    · rw [if_neg (fun r => hh.mp r q), if_pos q, if_pos rfl, zl_let]
      dsimp only
      rw [zl_let, zl_let, nI_1, nI_1]
      exact ih (d + 1) f f' (c + 1) (by omega) (by omega) (by omega) (by omega)
    · rw [if_pos (hh.mpr q), if_neg q]
      dsimp only
      rw [zl_let, zl_let, nI_1]
      exact ih (d + 1) f f' c (by omega) (by omega) (by omega) (by omega)
theorem fw_loop (N : Nat) {few nm : Nat → Int32} {t : Nat} (ht : t ≤ 400) (h : ∀ d, 1 ≤ d → d ≤ 400 → (few d ≤ (3 : Int32) ↔ ¬ nm d = 0)) (K7 : Int32 → Option Int32) : ∀ (n d f f' c : Nat), d + n = t + 1 → 1 ≤ d → n < f → n < f' → (f_X2_firstWithout_L2 N (some (-1)) few (nI t) f (nI d) = some (-1) ∧ f_X7_bare_L6 N K7 nm (nI t) 1 f' (nI c) (nI d) = K7 (nI c) ∧ ∀ x, d ≤ x → x ≤ t → ¬ nm x = 0) ∨ ∃ x, d ≤ x ∧ x ≤ t ∧ nm x = 0 ∧ f_X2_firstWithout_L2 N (some (-1)) few (nI t) f (nI d) = some (nI x) ∧ f_X7_bare_L6 N K7 nm (nI t) 1 f' (nI c) (nI d) = some (nI x) := by
  intro n
  induction n with
  | zero =>
    intro d f f' c hd hd1 hf hf'
    obtain ⟨f, rfl⟩ : ∃ g, f = g + 1 := ⟨f - 1, by omega⟩
    obtain ⟨f', rfl⟩ : ∃ g, f' = g + 1 := ⟨f' - 1, by omega⟩
    rw [f_X2_firstWithout_L2_s, f_X7_bare_L6_s, if_pos (nI_lt (by omega) (by omega)), if_pos (nI_lt (by omega) (by omega))]
    exact Or.inl ⟨rfl, rfl, fun x h1 h2 => by omega⟩
  | succ n ih =>
    intro d f f' c hd hd1 hf hf'
    obtain ⟨f, rfl⟩ : ∃ g, f = g + 1 := ⟨f - 1, by omega⟩
    obtain ⟨f', rfl⟩ : ∃ g, f' = g + 1 := ⟨f' - 1, by omega⟩
    have hh := h d hd1 (by omega)
    rw [f_X2_firstWithout_L2_s, f_X7_bare_L6_s, if_neg (nI_nlt (by omega) (by omega)), if_neg (nI_nlt (by omega) (by omega)), zl_gd (zl_inN (show d < 401 by omega) (by decide)), zl_gd (zl_inN (show d < 401 by omega) (by decide)), zl_let, zl_let, zl_cl (show d < 2 ^ 31 by omega)]
    by_cases q : nm d = 0
    · rw [if_neg (fun r => hh.mp r q), if_pos q, if_neg (show ¬ (1 : Int32) = 0 by decide)]
      exact Or.inr ⟨d, Nat.le_refl _, by omega, q, rfl, rfl⟩
    · rw [if_pos (hh.mpr q), if_neg q]
      dsimp only
      rw [zl_let, nI_1]
      rcases ih (d + 1) f f' c (by omega) (by omega) (by omega) (by omega) with ⟨a1, a2, a3⟩ | ⟨x, x1, x2, x3⟩
      · refine Or.inl ⟨a1, a2, fun x h1 h2 => ?_⟩
        by_cases e : x = d
        · rw [e]
          exact q
        · exact a3 x (by omega) h2
      · exact Or.inr ⟨x, by omega, x2, x3⟩
theorem fw_both (N : Nat) (hN : 100000 ≤ N) {few nm : Nat → Int32} {b t : Nat} (hb : 1 ≤ b) (hbt : b ≤ t) (ht : t ≤ 400) (h : ∀ d, 1 ≤ d → d ≤ 400 → (few d ≤ (3 : Int32) ↔ ¬ nm d = 0)) : ∃ r, f_X2_firstWithout N few (nI b) (nI t) = some r ∧ f_X7_bare N nm (nI b) (nI t) 1 = some r ∧ (r = -1 ↔ ∀ x, b ≤ x → x ≤ t → ¬ nm x = 0) := by
  unfold f_X2_firstWithout f_X7_bare
  rw [zl_let, zl_let]
  rcases fw_loop N ht h (fun (v4_12 : Int32) => (if (1 : Int32) = 0 then (some v4_12) else (some (-1 : Int32)))) (t + 1 - b) b N N 0 (by omega) hb (by omega) (by omega) with ⟨a1, a2, a3⟩ | ⟨x, x1, x2, x3, x4, x5⟩
  · exact ⟨-1, a1, a2, fun _ => a3, fun _ => rfl⟩
  · exact ⟨nI x, x4, x5, fun q => absurd q (zl_nm1 (by omega)), fun q => absurd x3 (q x x1 x2)⟩
theorem bare1 (N : Nat) (hN : 100000 ≤ N) {nm : Nat → Int32} {b t : Nat} (hb : 1 ≤ b) (hbt : b ≤ t) (ht : t ≤ 400) : ∃ r, f_X7_bare N nm (nI b) (nI t) 1 = some r ∧ (r = -1 ↔ ∀ x, b ≤ x → x ≤ t → ¬ nm x = 0) := by
  obtain ⟨r, _, h2, h3⟩ := fw_both N hN (few := fun d => if nm d = 0 then 4 else 0) (nm := nm) hb hbt ht (fun d _ _ => by
    by_cases q : nm d = 0
    · rw [if_pos q]
      exact ⟨fun r => absurd r (by decide), fun r => absurd q r⟩
    · rw [if_neg q]
      exact ⟨fun _ => q, fun _ => by decide⟩)
  exact ⟨r, h2, h3⟩
theorem ad_cases (p q : Int32) : (∃ b t : Nat, 1 ≤ b ∧ b ≤ t ∧ t ≤ 400 ∧ p = nI b ∧ q = nI t ∧ ∀ N, f_X6_areDays N p q = some 1 ∧ f_X7_areDays N p q = some 1) ∨ ∀ N, f_X6_areDays N p q = some 0 ∧ f_X7_areDays N p q = some 0 := by
  rcases isDay_cases p with ⟨b, b1, b2, rfl⟩ | h
  · rcases isDay_cases q with ⟨t, t1, t2, rfl⟩ | h
    · by_cases c : t < b
      · refine Or.inr (fun N => ?_)
        unfold f_X6_areDays f_X7_areDays
        rw [zl_bT (day6_t b1 b2), zl_bT (day6_t t1 t2), zl_bT (day7_t b1 b2), zl_bT (day7_t t1 t2), if_pos (nI_lt c (by omega))]
        exact ⟨rfl, rfl⟩
      · refine Or.inl ⟨b, t, b1, by omega, t2, rfl, rfl, fun N => ?_⟩
        unfold f_X6_areDays f_X7_areDays
        rw [zl_bT (day6_t b1 b2), zl_bT (day6_t t1 t2), zl_bT (day7_t b1 b2), zl_bT (day7_t t1 t2), if_neg (nI_nlt (by omega) (by omega))]
        exact ⟨rfl, rfl⟩
    · refine Or.inr (fun N => ?_)
      unfold f_X6_areDays f_X7_areDays
      rw [zl_bT (day6_t b1 b2), zl_bF (day6_f h), zl_bT (day7_t b1 b2), zl_bF (day7_f h)]
      exact ⟨rfl, rfl⟩
  · refine Or.inr (fun N => ?_)
    unfold f_X6_areDays f_X7_areDays
    rw [zl_bF (day6_f h), zl_bF (day7_f h)]
    exact ⟨rfl, rfl⟩
theorem fe0 {few : Nat → Int32} {F : Nat → Nat} {Q : Nat → Prop} (h1 : zFe few F) (h2 : zFq F Q) : few 0 = 0 := by
  have h3 := (h2 0 (by omega) 0 (by omega)).mpr (rk_zero Q 0)
  rw [(h1 0 (by omega)).1, show F 0 = 0 by omega]
  rfl
theorem pr_without (c : Nat → ClassId) (n_numbers : Nat → Int32) (n_syllables : Nat → Int64) (n_syllableCount : Int32) (n_days : Nat → Int32) (n_words : Nat → Int64) (n_parents : Nat → Int32) (n_otherParents : Nat → Int32) (n_kinds : Nat → Int32) (n_personCount : Int32) (n_hopeDays : Nat → Int32) (n_hopeTenths : Nat → Int32) (n_hopeCount : Int32) (n_degreesTold : Int32) (r_text : Nat → Int32) (r_length : Int32) (s_lane : Nat → Int32) (s_size : Nat → Int32) (s_items : Nat → Nat → Int32) (i_ir : Nat → Option Nat) (g0 : va_W) (g1 : va_W) (z_row : Nat → Int32) (z_words : Nat → Int64) (z_isKept : Nat → Int32) (z_text : Nat → Int32) (z_length : Int32) (z_lanes : Nat → Int32) (z_sizes : Nat → Int32) (z_items : Nat → Int32) (h_fewest : Nat → Int32) (z_sums : Nat → Int32) (z_sumMany : Int32) (z_named : Nat → Int32) (p1 : Int32) (p2 : Int32) (p3 : Int32) (N : Nat) (hN : 100000 ≤ N) (hR : zRel c n_numbers n_syllables n_syllableCount n_days n_words n_parents n_otherParents n_kinds n_personCount n_hopeDays n_hopeTenths n_hopeCount n_degreesTold r_text r_length s_lane s_size s_items i_ir g0 g1 z_row z_words z_isKept z_text z_length z_lanes z_sizes z_items) (hq_h : h_fewest 0 = 0) : ∃ (r : Int32) (o_h_fewest : Nat → Int32) (e_sums : Nat → Int32) (e_sumMany : Int32) (e_named : Nat → Int32), f_X6_without N n_numbers n_syllables n_syllableCount h_fewest p1 p2 p3 = some (r, o_h_fewest) ∧ f_X7_without N z_row z_sums z_sumMany z_named p1 p2 p3 = some (r, e_sums, e_sumMany, e_named) ∧ zRel c n_numbers n_syllables n_syllableCount n_days n_words n_parents n_otherParents n_kinds n_personCount n_hopeDays n_hopeTenths n_hopeCount n_degreesTold r_text r_length s_lane s_size s_items i_ir g0 g1 z_row z_words z_isKept z_text z_length z_lanes z_sizes z_items ∧ o_h_fewest 0 = 0 := by
  obtain ⟨⟨a, hok, hw, hra⟩, _⟩ := id hR
  suffices hh : ∃ (r : Int32) (o_h_fewest : Nat → Int32) (e_sums : Nat → Int32) (e_sumMany : Int32) (e_named : Nat → Int32), f_X6_without N n_numbers n_syllables n_syllableCount h_fewest p1 p2 p3 = some (r, o_h_fewest) ∧ f_X7_without N z_row z_sums z_sumMany z_named p1 p2 p3 = some (r, e_sums, e_sumMany, e_named) ∧ o_h_fewest 0 = 0 by
    obtain ⟨x0, x1, x2, x3, x4, h1, h2, h3⟩ := hh
    exact ⟨x0, x1, x2, x3, x4, h1, h2, hR, h3⟩
  unfold f_X6_without f_X7_without
  rw [hw.2.1]
  rcases ad_cases p1 p2 with ⟨b, t, b1, bt_, t2, rfl, rfl, hd⟩ | hd
  · rw [zl_bT (hd N).1, zl_bT (hd N).2]
    by_cases c3 : p3 = 0 ∨ p3 = 1
    · obtain ⟨few, F, m1, m2, m3⟩ := me_eq N hN hok hw.1 hw.2.2.1 hq_h
      obtain ⟨sums', M, S, nm', l1, l2, l3, l4, l5⟩ := ls_eq N hN hok hra z_sums z_named
      have key : ∀ d, 1 ≤ d → d ≤ 400 → (few d ≤ (3 : Int32) ↔ ¬ nm' d = 0) := fun d h1 h2 => few_nm m2 m3 l5 h1 h2
      rw [zl_bT (zo_t c3), zl_bT (in01_t c3), zl_b1 m1, zl_b3 l1, zl_let]
      by_cases c4 : p3 = 0
      · have c5 : ¬ p3 = 1 := fun e => by
          rw [c4] at e
          cases e
        obtain ⟨c', e1, e2⟩ := dw_both N t2 key (fun v => some v) (fun (v4_12 : Int32) => (if (0 : Int32) = 0 then (some v4_12) else (some (-1 : Int32)))) (t + 1 - b) b N N 0 (by omega) b1 (by omega) (by omega)
        have e1' : f_X2_daysWithout N few (nI b) (nI t) = some (nI c') := by
          unfold f_X2_daysWithout
          rw [zl_let]
          exact e1
        have e2' : f_X7_bare N nm' (nI b) (nI t) 0 = some (nI c') := by
          unfold f_X7_bare
          rw [zl_let]
          exact e2
        rw [if_pos c4, if_neg c5, zl_b1 e1']
        dsimp only
        rw [zl_b1 e2']
        exact ⟨_, _, _, _, _, rfl, rfl, fe0 m2 m3⟩
      · have c5 : p3 = 1 := by
          rcases c3 with c | c
          · exact absurd c c4
          · exact c
        obtain ⟨r, e1, e2, _⟩ := fw_both N hN b1 bt_ t2 key
        rw [if_neg c4, if_pos c5, zl_b1 e1]
        dsimp only
        rw [zl_b1 e2]
        exact ⟨_, _, _, _, _, rfl, rfl, fe0 m2 m3⟩
    · rw [zl_bF (zo_f c3), zl_bF (in01_f c3)]
      exact ⟨_, _, _, _, _, rfl, rfl, hq_h⟩
  · rw [zl_bF (hd N).1, zl_bF (hd N).2]
    exact ⟨_, _, _, _, _, rfl, rfl, hq_h⟩
