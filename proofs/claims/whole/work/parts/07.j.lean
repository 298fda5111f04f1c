theorem pr_hope (c : Nat → ClassId) (n_numbers : Nat → Int32) (n_syllables : Nat → Int64) (n_syllableCount : Int32) (n_days : Nat → Int32) (n_words : Nat → Int64) (n_parents : Nat → Int32) (n_otherParents : Nat → Int32) (n_kinds : Nat → Int32) (n_personCount : Int32) (n_hopeDays : Nat → Int32) (n_hopeTenths : Nat → Int32) (n_hopeCount : Int32) (n_degreesTold : Int32) (r_text : Nat → Int32) (r_length : Int32) (s_lane : Nat → Int32) (s_size : Nat → Int32) (s_items : Nat → Nat → Int32) (i_ir : Nat → Option Nat) (g0 : va_W) (g1 : va_W) (z_row : Nat → Int32) (z_words : Nat → Int64) (z_isKept : Nat → Int32) (z_text : Nat → Int32) (z_length : Int32) (z_lanes : Nat → Int32) (z_sizes : Nat → Int32) (z_items : Nat → Int32) (p1 : Int32) (p2 : Int32) (p3 : Int32) (p4 : Int32) (p5 : Int32) (N : Nat) (hN : 100000 ≤ N) (hR : zRel c n_numbers n_syllables n_syllableCount n_days n_words n_parents n_otherParents n_kinds n_personCount n_hopeDays n_hopeTenths n_hopeCount n_degreesTold r_text r_length s_lane s_size s_items i_ir g0 g1 z_row z_words z_isKept z_text z_length z_lanes z_sizes z_items) : ∃ (r : Int32) (o_n_hopeDays : Nat → Int32) (o_n_hopeTenths : Nat → Int32) (o_n_hopeCount : Int32) (e_row : Nat → Int32), f_X6_hope N n_hopeDays n_hopeTenths n_hopeCount s_lane s_size s_items p1 p2 p3 p4 p5 = some (r, o_n_hopeDays, o_n_hopeTenths, o_n_hopeCount) ∧ f_X7_hope N z_row z_lanes z_sizes z_items p1 p2 p3 p4 p5 = some (r, e_row) ∧ zRel c n_numbers n_syllables n_syllableCount n_days n_words n_parents n_otherParents n_kinds n_personCount o_n_hopeDays o_n_hopeTenths o_n_hopeCount n_degreesTold r_text r_length s_lane s_size s_items i_ir g0 g1 e_row z_words z_isKept z_text z_length z_lanes z_sizes z_items := by
  obtain ⟨⟨a, hok, hw, hra⟩, h2, h3, h4, h5, h6⟩ := id hR
  have hhc : aHC a ≤ 6 := hok.2.2.2.2.2.2.1
  have ehc : n_hopeCount = nI (aHC a) := hw.2.2.2.2.2.1
  have e87 : z_row 87 = nI (aHC a) := hra.2.2.2.2.2.2.1
  rcases zl_case p1 3 (by decide) with ⟨j, hj, rfl⟩ | h
  · have hb : 0 ≤ (nI j).toInt ∧ (nI j).toInt < 3 := by rw [nI_toInt (by omega)]; omega
    rcases zl_case p2 3 (by decide) with ⟨ln, hln, rfl⟩ | h
    · have hl : 0 ≤ (nI ln).toInt ∧ (nI ln).toInt < 3 := by rw [nI_toInt (by omega)]; omega
      have hl7 : f_X7_in N (nI ln).toInt64 0 2 = some 1 := zl_in7t (by rw [zl_wide]; exact ⟨hl.1, by show _ ≤ (2 : Int); omega⟩)
      have e1 : (1 : Int32).toInt = 1 := rfl
      have e6 : (6 : Int32).toInt = 6 := rfl
      have e10 : (10 : Int32).toInt = 10 := rfl
      by_cases hp4 : 1 ≤ p4.toInt ∧ p4.toInt ≤ 6
      · have i4 : f_X7_in N p4.toInt64 1 6 = some 1 := zl_in7t (by rw [zl_wide]; exact hp4)
        have c1 : ¬ p4 < 1 := by rw [fa_lt]; omega
        have c2 : ¬ 6 < p4 := by rw [fa_lt]; omega
        by_cases hp5 : 0 ≤ p5.toInt ∧ p5.toInt ≤ 10
        · have i5 : f_X7_in N p5.toInt64 0 10 = some 1 := zl_in7t (by rw [zl_wide]; exact hp5)
          have c3 : ¬ p5 < 0 := by rw [zl_lt0]; omega
          have c4 : p5 ≤ 10 := by rw [fa_le]; omega
          have st6 : ∀ X, (zz_b1 (f_X4_isMissing N s_size j) (fun r_10 => (if r_10 = 0 then (if (s_lane j) = nI ln then zz_b1 (f_X4_hasPlaces N s_size j p3 p4) (fun r_13 => (if r_13 = 0 then (some ((-13 : Int32), n_hopeDays, n_hopeTenths, n_hopeCount)) else zz_b1 (f_X4_hasOnlyDays N s_items j p3 p4) (fun r_15 => (if r_15 = 0 then (some ((-4 : Int32), n_hopeDays, n_hopeTenths, n_hopeCount)) else (if p4 ≤ ((6 : Int32) - n_hopeCount) then zz_let (fun (n_hopeDays_29 : Nat → Int32) (n_hopeTenths_30 : Nat → Int32) (n_hopeCount_31 : Int32) => (some (n_hopeCount_31, n_hopeDays_29, n_hopeTenths_30, n_hopeCount_31))) (fun k_18 => f_X6_hope_L125 N k_18 s_items (nI j) p3 p4 p5 N (0 : Int32) n_hopeDays n_hopeTenths n_hopeCount) else (some ((-5 : Int32), n_hopeDays, n_hopeTenths, n_hopeCount))))))) else (some ((-12 : Int32), n_hopeDays, n_hopeTenths, n_hopeCount))) else (some ((-11 : Int32), n_hopeDays, n_hopeTenths, n_hopeCount))))) = X → f_X6_hope N n_hopeDays n_hopeTenths n_hopeCount s_lane s_size s_items (nI j) (nI ln) p3 p4 p5 = X := by
            intro X hX
            unfold f_X6_hope
            rw [zl_bT (zl_isSheet_t hb), zl_bT (zl_isLane_t hl), if_neg c1, if_neg c2, if_neg c3, if_pos c4, zl_gd (zl_inN hj (by decide)), zl_cl (by omega)]
            exact hX
          have st7 : ∀ X, (if (z_lanes j) = (-1 : Int32) then (some ((-11 : Int32), z_row)) else (if (z_lanes j) = nI ln then (if p3 < 0 then (some ((-13 : Int32), z_row)) else (if (p3.toInt64 + p4.toInt64) ≤ ((z_sizes j).toInt64) then f_X7_hope_L107 N (fun (v6_25 : Int32) => (if v6_25 = 0 then (some ((-4 : Int32), z_row)) else (if ((z_row 87) + p4) ≤ (6 : Int32) then f_X7_hope_L181 N (fun (t_row_35 : Nat → Int32) => (some (t_row_35 87, t_row_35))) z_items (nI j) p3 p4 p5 N (0 : Int32) z_row else (some ((-5 : Int32), z_row))))) z_items (nI j) p3 p4 N (1 : Int32) (0 : Int32) else (some ((-13 : Int32), z_row)))) else (some ((-12 : Int32), z_row)))) = X → f_X7_hope N z_row z_lanes z_sizes z_items (nI j) (nI ln) p3 p4 p5 = X := by
            intro X hX
            unfold f_X7_hope
            rw [zl_bT (zl_7isSheet_t hb), zl_bT hl7, zl_bT i4, zl_bT i5, zl_gd (zl_inN hj (by decide)), zl_cl (by omega)]
            exact hX
          rcases h3 j hj with ⟨q1, q2⟩ | ⟨l0, n, q1, q2, q3, q4, q5, q6, q7⟩
          · refine ⟨-11, n_hopeDays, n_hopeTenths, n_hopeCount, z_row, st6 _ ?_, st7 _ ?_, hR⟩
            · rw [zl_bT (zl_miss_t q1)]
            · rw [if_pos q2]
          · have nm : ¬ z_lanes j = -1 := by rw [q4]; exact zl_nm1 (by omega)
            by_cases el : l0 = ln
            · have el6 : s_lane j = nI ln := by rw [q3, el]
              have el7 : z_lanes j = nI ln := by rw [q4, el]
              have s1 : (z_sizes j).toInt64.toInt = n := by rw [zl_wide, q6, nI_toInt (by omega)]
              by_cases w : 0 ≤ p3.toInt ∧ 0 ≤ p4.toInt ∧ p3.toInt + p4.toInt ≤ n
              · obtain ⟨p, hp, rfl⟩ : ∃ a : Nat, a < 21 ∧ p3 = nI a := by
                  rcases zl_case p3 21 (by decide) with q | q
                  · exact q
                  · omega
                obtain ⟨m, hm, rfl⟩ : ∃ a : Nat, a < 21 ∧ p4 = nI a := by
                  rcases zl_case p4 21 (by decide) with q | q
                  · exact q
                  · omega
                obtain ⟨t, htt, rfl⟩ : ∃ a : Nat, a < 21 ∧ p5 = nI a := by
                  rcases zl_case p5 21 (by decide) with q | q
                  · exact q
                  · omega
                have hpl : f_X4_hasPlaces N s_size j (nI p) (nI m) = some 1 := by rw [zl_places q5 q2, if_pos w]
                rw [nI_toInt (by omega), nI_toInt (by omega)] at w
                rw [nI_toInt (by omega)] at hp4 hp5
                have hsame : ∀ i, i < m → s_items j (p + i) = z_items (20 * j + p + i) := fun i hi => by
                  rw [q7 (p + i) (by omega)]
                  congr 1
                  omega
                have v7 : ¬ nI p < 0 := nI_pos (by omega)
                have v8 : (nI p).toInt64 + (nI m).toInt64 ≤ (z_sizes j).toInt64 := by rw [fa_le64, s1, zl_wadd, nI_toInt (by omega), nI_toInt (by omega)]; omega
                have d6 : f_X4_hasOnlyDays N s_items j (nI p) (nI m) = some (if (∀ i, i < m → 0 ≤ i → 1 ≤ (s_items j (p + i)).toInt ∧ (s_items j (p + i)).toInt ≤ 400) then 1 else 0) := od_loop N j p m (by omega) s_items m 0 N (by omega) (by omega)
                have d7 := fun k => od7_loop N j p m hj (by omega) z_items k m 0 N True (by omega) (by omega)
                rw [if_pos trivial] at d7
                by_cases q : ∀ i, i < m → 0 ≤ i → 1 ≤ (s_items j (p + i)).toInt ∧ (s_items j (p + i)).toInt ≤ 400
                · rw [if_pos q] at d6
                  have d7 : ∀ k, f_X7_hope_L107 N k z_items (nI j) (nI p) (nI m) N 1 (nI 0) = k 1 := fun k => by
                    rw [d7 k, if_pos]
                    exact ⟨trivial, fun i h1 h2 => by rw [← hsame i h1]; exact q i h1 h2⟩
                  by_cases hr : aHC a + m ≤ 6
                  · have hit : ∀ i, i < m → ∃ d : Nat, 1 ≤ d ∧ d ≤ 400 ∧ s_items j (p + i) = nI d ∧ z_items (20 * j + p + i) = nI d := fun i hi => by
                      have := q i hi (by omega)
                      rcases zl_case (s_items j (p + i)) 401 (by decide) with ⟨d, hd, e⟩ | r
                      · rw [e, nI_toInt (by omega)] at this
                        exact ⟨d, by omega, by omega, e, by rw [← hsame i hi]; exact e⟩
                      · omega
                    rw [ehc] at hw
                    obtain ⟨a', hd', ht', row', g1, g2, g3, g4, g5, g6⟩ := ho_loop N j p m t hj (by omega) (by omega) s_items z_items hit (fun x y z => some (z, x, y, z)) (fun r => some (r 87, r)) m 0 N a n_hopeDays n_hopeTenths z_row (by omega) (by omega) hr hok hw hra
                    have r87 : row' 87 = nI (aHC a') := g5.2.2.2.2.2.2.1
                    refine ⟨nI (aHC a'), hd', ht', nI (aHC a'), row', st6 _ ?_, st7 _ ?_, ⟨a', g3, g4, g5⟩, h2, h3, zIm_far g6 (fun _ _ => rfl) h4, zIm_far g6 (fun _ _ => rfl) h5, h6⟩
                    · rw [zl_bF (zl_miss_f q5 q2), if_pos el6, zl_bT hpl, zl_bT d6, ehc, if_pos (by rw [fa_le, show (6 : Int32) = nI 6 from rfl, pk_sub_toInt (by decide) (by omega), nI_toInt (by omega)]; omega), zl_let]
                      exact g1
                    · rw [if_neg nm, if_pos el7, if_neg v7, if_pos v8]
                      refine (d7 _).trans ?_
                      rw [if_neg (show ¬ (1 : Int32) = 0 by decide), e87, nI_add, if_pos (show nI (aHC a + m) ≤ 6 from nI_le (b := 6) hr (by decide))]
                      refine g2.trans ?_
                      rw [r87]
                  · refine ⟨-5, n_hopeDays, n_hopeTenths, n_hopeCount, z_row, st6 _ ?_, st7 _ ?_, hR⟩
                    · rw [zl_bF (zl_miss_f q5 q2), if_pos el6, zl_bT hpl, zl_bT d6, if_neg (by rw [ehc, fa_le, show (6 : Int32) = nI 6 from rfl, pk_sub_toInt (by decide) (by omega), nI_toInt (by omega)]; omega)]
                    · rw [if_neg nm, if_pos el7, if_neg v7, if_pos v8]
                      refine (d7 _).trans ?_
                      rw [if_neg (show ¬ (1 : Int32) = 0 by decide), e87, nI_add, if_neg (show ¬ nI (aHC a + m) ≤ 6 from nI_ge (a := 6) (by omega) (by omega))]
                · rw [if_neg q] at d6
                  have d7 : ∀ k, f_X7_hope_L107 N k z_items (nI j) (nI p) (nI m) N 1 (nI 0) = k 0 := fun k => by
                    rw [d7 k, if_neg]
                    exact fun r => q (fun i h1 h2 => by rw [hsame i h1]; exact r.2 i h1 h2)
                  refine ⟨-4, n_hopeDays, n_hopeTenths, n_hopeCount, z_row, st6 _ ?_, st7 _ ?_, hR⟩
                  · rw [zl_bF (zl_miss_f q5 q2), if_pos el6, zl_bT hpl, zl_bF d6]
                  · rw [if_neg nm, if_pos el7, if_neg v7, if_pos v8]
                    refine (d7 _).trans ?_
                    rw [if_pos rfl]
              · refine ⟨-13, n_hopeDays, n_hopeTenths, n_hopeCount, z_row, st6 _ ?_, st7 _ ?_, hR⟩
                · rw [zl_bF (zl_miss_f q5 q2), if_pos el6, zl_bF (show f_X4_hasPlaces N s_size j p3 p4 = some 0 by rw [zl_places q5 q2, if_neg w])]
                · rw [if_neg nm, if_pos el7]
                  by_cases v1 : p3 < 0
                  · rw [if_pos v1]
                  · rw [if_neg v1, if_neg]
                    rw [zl_lt0] at v1
                    rw [fa_le64, s1, zl_wadd]
                    omega
            · refine ⟨-12, n_hopeDays, n_hopeTenths, n_hopeCount, z_row, st6 _ ?_, st7 _ ?_, hR⟩
              · rw [zl_bF (zl_miss_f q5 q2), if_neg (show ¬ s_lane j = nI ln by rw [q3, nI_eq (by omega) (by omega)]; exact el)]
              · rw [if_neg nm, if_neg (show ¬ z_lanes j = nI ln by rw [q4, nI_eq (by omega) (by omega)]; exact el)]
        · refine ⟨-3, n_hopeDays, n_hopeTenths, n_hopeCount, z_row, ?_, ?_, hR⟩
          · unfold f_X6_hope
            rw [zl_bT (zl_isSheet_t hb), zl_bT (zl_isLane_t hl), if_neg c1, if_neg c2]
            by_cases c3 : p5 < 0
            · rw [if_pos c3]
            · rw [if_neg c3, if_neg (show ¬ p5 ≤ 10 by rw [zl_lt0] at c3; rw [fa_le]; omega)]
          · unfold f_X7_hope
            rw [zl_bT (zl_7isSheet_t hb), zl_bT hl7, zl_bT i4, zl_bF (zl_in7f (by rw [zl_wide]; exact hp5))]
      · refine ⟨-3, n_hopeDays, n_hopeTenths, n_hopeCount, z_row, ?_, ?_, hR⟩
        · unfold f_X6_hope
          rw [zl_bT (zl_isSheet_t hb), zl_bT (zl_isLane_t hl)]
          by_cases c1 : p4 < 1
          · rw [if_pos c1]
          · rw [if_neg c1, if_pos (show 6 < p4 by rw [fa_lt] at c1 ⊢; omega)]
        · unfold f_X7_hope
          rw [zl_bT (zl_7isSheet_t hb), zl_bT hl7, zl_bF (zl_in7f (by rw [zl_wide]; exact hp4))]
    · refine ⟨-3, n_hopeDays, n_hopeTenths, n_hopeCount, z_row, ?_, ?_, hR⟩
      · unfold f_X6_hope
        rw [zl_bT (zl_isSheet_t hb), zl_bF (zl_isLane_f h)]
      · unfold f_X7_hope
        rw [zl_bT (zl_7isSheet_t hb), zl_bF (zl_in7f (by rw [zl_wide]; intro q; exact h ⟨q.1, by have : p2.toInt ≤ (2 : Int) := q.2; omega⟩))]
  · refine ⟨-2, n_hopeDays, n_hopeTenths, n_hopeCount, z_row, ?_, ?_, hR⟩
    · unfold f_X6_hope
      rw [zl_bF (zl_isSheet_f h)]
    · unfold f_X7_hope
      rw [zl_bF (zl_7isSheet_f h)]
