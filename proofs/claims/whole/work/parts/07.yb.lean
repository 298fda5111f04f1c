/-! ===== the row of hopes ===== -/
theorem in01_t {N : Nat} {p : Int32} (h : p = 0 ∨ p = 1) : f_X7_in N p.toInt64 (0 : Int64) (1 : Int64) = some 1 := by
  rcases h with rfl | rfl
  · rfl
  · rfl
theorem in01_f {N : Nat} {p : Int32} (h : ¬ (p = 0 ∨ p = 1)) : f_X7_in N p.toInt64 (0 : Int64) (1 : Int64) = some 0 := by
  refine zl_in7f (fun q => h ?_)
  rw [zl_wide] at q
  have q1 : (0 : Int) ≤ p.toInt := q.1
  have q2 : p.toInt ≤ 1 := q.2
  have h0 : (0 : Int32).toInt = 0 := rfl
  have h1 : (1 : Int32).toInt = 1 := rfl
  rw [fa_eq, fa_eq, h0, h1]
  omega
theorem zo_t {N : Nat} {p : Int32} (h : p = 0 ∨ p = 1) : f_X6_isZeroOrOne N p = some 1 := by
  rcases h with rfl | rfl
  · rfl
  · rfl
theorem zo_f {N : Nat} {p : Int32} (h : ¬ (p = 0 ∨ p = 1)) : f_X6_isZeroOrOne N p = some 0 := by
  unfold f_X6_isZeroOrOne
  rw [if_neg (fun q => h (Or.inl q)), if_neg (fun q => h (Or.inr q))]
theorem nch_eq (N : Nat) (hN : 100000 ≤ N) {a : AW} {row : Nat → Int32} {w : Nat → Int64} {par oth kin : Nat → Int32} (hok : zOK a) (hra : zRA a row w 0) (hwa : zKin a par oth kin) {p q : Nat} (hp : p < aPC a) (hq : q < aPC a) (far : Nat → Int32) : ∃ m1 m2 far1 far2, f_X5_nearChildOf N par oth kin (nI (aPC a)) (nI (aDT a)) (nI p) (nI q) = some (m1 ||| m2) ∧ f_X7_within N row far (nI p) (nI (aDT a) - 1) = some (m1, far1) ∧ f_X7_within N row far1 (nI q) (nI (aDT a) - 1) = some (m2, far2) := by
  have hdt : aDT a ≤ 4 := hok.2.2.2.2.2.2.2.2.2
  have hdt1 : 1 ≤ aDT a := hok.2.2.2.2.2.2.2.2.1
  have e : nI (aDT a) - 1 = nI (aDT a - 1) := by
    rw [show (1 : Int32) = nI 1 from rfl, pk_sub hdt1]
  obtain ⟨v1, e1, h1⟩ := wi_eq N hN hok hwa hp (show aDT a - 1 ≤ 16 by omega)
  obtain ⟨u1, far1, f1, g1⟩ := w7_eq N hN hok hra hp (show aDT a - 1 ≤ 16 by omega) far
  obtain ⟨v2, e2, h2⟩ := wi_eq N hN hok hwa hq (show aDT a - 1 ≤ 16 by omega)
  obtain ⟨u2, far2, f2, g2⟩ := w7_eq N hN hok hra hq (show aDT a - 1 ≤ 16 by omega) far1
  have w1 : v1 = u1 := ms_eq h1 g1 (fun x _ => fr_within hp (by omega))
  have w2 : v2 = u2 := ms_eq h2 g2 (fun x _ => fr_within hq (by omega))
  subst w1
  subst w2
  refine ⟨v1, v2, far1, far2, ?_, ?_, ?_⟩
  · unfold f_X5_nearChildOf
    rw [e, zl_b1 e1, zl_b1 e2]
  · rw [e]
    exact f1
  · rw [e]
    exact f2
theorem pr_hopes (c : Nat → ClassId) (n_numbers : Nat → Int32) (n_syllables : Nat → Int64) (n_syllableCount : Int32) (n_days : Nat → Int32) (n_words : Nat → Int64) (n_parents : Nat → Int32) (n_otherParents : Nat → Int32) (n_kinds : Nat → Int32) (n_personCount : Int32) (n_hopeDays : Nat → Int32) (n_hopeTenths : Nat → Int32) (n_hopeCount : Int32) (n_degreesTold : Int32) (r_text : Nat → Int32) (r_length : Int32) (s_lane : Nat → Int32) (s_size : Nat → Int32) (s_items : Nat → Nat → Int32) (i_ir : Nat → Option Nat) (g0 : va_W) (g1 : va_W) (z_row : Nat → Int32) (z_words : Nat → Int64) (z_isKept : Nat → Int32) (z_text : Nat → Int32) (z_length : Int32) (z_lanes : Nat → Int32) (z_sizes : Nat → Int32) (z_items : Nat → Int32) (t_rooms : Nat → Int32) (m_codes : Nat → Int64) (m_size : Int32) (m_partCodes : Nat → Int64) (m_partShifts : Nat → Int64) (m_partSums : Nat → Int32) (m_partCount : Int32) (m_wantedDay : Int32) (m_divisorsWanted : Int32) (z_far : Nat → Int32) (z_names : Nat → Int64) (z_nameMany : Int32) (z_room : Nat → Int32) (p1 : Int32) (p2 : Int32) (p3 : Int32) (N : Nat) (hN : 100000 ≤ N) (hR : zRel c n_numbers n_syllables n_syllableCount n_days n_words n_parents n_otherParents n_kinds n_personCount n_hopeDays n_hopeTenths n_hopeCount n_degreesTold r_text r_length s_lane s_size s_items i_ir g0 g1 z_row z_words z_isKept z_text z_length z_lanes z_sizes z_items) : ∃ (r : Int64) (o_t_rooms : Nat → Int32) (o_m_codes : Nat → Int64) (o_m_size : Int32) (o_m_partCodes : Nat → Int64) (o_m_partShifts : Nat → Int64) (o_m_partSums : Nat → Int32) (o_m_partCount : Int32) (o_m_wantedDay : Int32) (o_m_divisorsWanted : Int32) (e_far : Nat → Int32) (e_names : Nat → Int64) (e_nameMany : Int32) (e_room : Nat → Int32), f_X6_hopes N t_rooms n_numbers n_syllables n_syllableCount n_words n_parents n_otherParents n_kinds n_personCount n_hopeDays n_hopeTenths n_hopeCount n_degreesTold m_codes m_size m_partCodes m_partShifts m_partSums m_partCount m_wantedDay m_divisorsWanted p1 p2 p3 = some (r, o_t_rooms, o_m_codes, o_m_size, o_m_partCodes, o_m_partShifts, o_m_partSums, o_m_partCount, o_m_wantedDay, o_m_divisorsWanted) ∧ f_X7_hopes N z_row z_words z_far z_names z_nameMany z_room p1 p2 p3 = some (r, e_far, e_names, e_nameMany, e_room) ∧ zRel c n_numbers n_syllables n_syllableCount n_days n_words n_parents n_otherParents n_kinds n_personCount n_hopeDays n_hopeTenths n_hopeCount n_degreesTold r_text r_length s_lane s_size s_items i_ir g0 g1 z_row z_words z_isKept z_text z_length z_lanes z_sizes z_items := by
  obtain ⟨⟨a, hok, hw, hra⟩, _⟩ := id hR
  have hpc : aPC a ≤ 16 := hok.2.2.2.2.1
  have hhc : aHC a ≤ 6 := hok.2.2.2.2.2.2.1
  have h38 : z_row 38 = nI (aPC a) := hra.2.2.2.2.1
  have h37 : z_row (37 : Int32).toNatClampNeg = nI (aDT a) := hra.2.2.2.1
  suffices hh : ∃ (r : Int64) (o_t_rooms : Nat → Int32) (o_m_codes : Nat → Int64) (o_m_size : Int32) (o_m_partCodes : Nat → Int64) (o_m_partShifts : Nat → Int64) (o_m_partSums : Nat → Int32) (o_m_partCount : Int32) (o_m_wantedDay : Int32) (o_m_divisorsWanted : Int32) (e_far : Nat → Int32) (e_names : Nat → Int64) (e_nameMany : Int32) (e_room : Nat → Int32), f_X6_hopes N t_rooms n_numbers n_syllables n_syllableCount n_words n_parents n_otherParents n_kinds n_personCount n_hopeDays n_hopeTenths n_hopeCount n_degreesTold m_codes m_size m_partCodes m_partShifts m_partSums m_partCount m_wantedDay m_divisorsWanted p1 p2 p3 = some (r, o_t_rooms, o_m_codes, o_m_size, o_m_partCodes, o_m_partShifts, o_m_partSums, o_m_partCount, o_m_wantedDay, o_m_divisorsWanted) ∧ f_X7_hopes N z_row z_words z_far z_names z_nameMany z_room p1 p2 p3 = some (r, e_far, e_names, e_nameMany, e_room) by
    obtain ⟨x0, x1, x2, x3, x4, x5, x6, x7, x8, x9, x10, x11, x12, x13, h1, h2⟩ := hh
    exact ⟨x0, x1, x2, x3, x4, x5, x6, x7, x8, x9, x10, x11, x12, x13, h1, h2, hR⟩
  unfold f_X6_hopes f_X7_hopes
  rw [hw.2.2.2.1]
  rcases zl_case p1 (aPC a) (by omega) with ⟨p, hp, rfl⟩ | h
  · rw [zl_bT (zl_isPerson_t hp hpc), zl_bT (zl_7isPerson_t h38 hpc hp)]
    rcases zl_case p2 (aPC a) (by omega) with ⟨q, hq, rfl⟩ | h
    · rw [zl_bT (zl_isPerson_t hq hpc), zl_bT (zl_7isPerson_t h38 hpc hq)]
      by_cases c : nI p = nI q
      · rw [if_pos c, if_pos c]
        exact ⟨_, _, _, _, _, _, _, _, _, _, _, _, _, _, rfl, rfl⟩
      · rw [if_neg c, if_neg c]
        by_cases c3 : p3 = 0 ∨ p3 = 1
        · have hwo : ∀ p, p < aPC a → n_words p = lN (aW a p) := fun q hq => (hw.2.2.2.2.1 q hq).2.1
          have hhd : ∀ i, i < aHC a → n_hopeDays i = nI (aHD a i) := fun i hi => (hw.2.2.2.2.2.2.1 i hi).1
          have hht : ∀ i, i < aHC a → n_hopeTenths i = nI (aHT a i) := fun i hi => (hw.2.2.2.2.2.2.1 i hi).2
          obtain ⟨m1, m2, far1, far2, e1, e2, e3⟩ := nch_eq N hN hok hra (zKin_of hw) hp hq z_far
          obtain ⟨names', l, r1, r2, r3, r4, r5, r6, r7⟩ := nd_eq N hN hok hw.1 hw.2.2.1 hra z_names
          obtain ⟨ro, c6, s6, pc6, ps6, pm6, pk6, wd6, dw6, f1, f2⟩ := rm6 N hN hok hwo hhd (m1 ||| m2) r3 r4 r7 (fun (t_rooms_26 : Nat → Int32) (m_codes_27 : Nat → Int64) (m_size_28 : Int32) (m_partCodes_29 : Nat → Int64) (m_partShifts_30 : Nat → Int64) (m_partSums_31 : Nat → Int32) (m_partCount_32 : Int32) (m_wantedDay_33 : Int32) (m_divisorsWanted_34 : Int32) => (some (t_rooms_26, m_codes_27, m_size_28, m_partCodes_29, m_partShifts_30, m_partSums_31, m_partCount_32, m_wantedDay_33, m_divisorsWanted_34))) (aHC a) 0 N t_rooms m_codes m_size m_partCodes m_partShifts m_partSums m_partCount m_wantedDay m_divisorsWanted (by omega) (by omega) (fun j hj => by omega)
          have f1' : f_X6_findRooms N t_rooms n_numbers n_syllables n_syllableCount n_words (nI (aPC a)) n_hopeDays n_hopeCount m_codes m_size m_partCodes m_partShifts m_partSums m_partCount m_wantedDay m_divisorsWanted (m1 ||| m2) = some (ro, c6, s6, pc6, ps6, pm6, pk6, wd6, dw6) := by
            unfold f_X6_findRooms
            rw [zl_let, hw.2.1, hw.2.2.2.2.2.1]
            exact f1
          have hRb : ∀ j, rmN a l (m1 ||| m2) j ≤ 1110 := fun j => Nat.le_trans (List.length_filter_le _ _) r3
          have hRd : ∀ i j, i < aHC a → j < aHC a → aHD a i = aHD a j → rmN a l (m1 ||| m2) i = rmN a l (m1 ||| m2) j := fun i j _ _ e => by
            unfold rmN
            rw [e]
          obtain ⟨room', b1, b2⟩ := rm81 N hN hok hra (m1 ||| m2) r2 r3 r4 (fun (t_room_37 : Nat → Int32) => zz_let (fun (v7_44 : Int64) => zz_let (fun (v5_68 : Int64) => zz_b1 (f_X7_divisor N v5_68 v7_44) (fun r_69 => (if p3 = 0 then zz_gd (zz_nzL r_69) ((some (v5_68 / r_69, far2, names', nI l.length, t_room_37))) else zz_gd (zz_nzL r_69) ((some (v7_44 / r_69, far2, names', nI l.length, t_room_37)))))) (fun k_45 => f_X7_hopes_L218 N k_45 z_row t_room_37 N (0 : Int64) (0 : Int32))) (fun k_38 => f_X7_hopes_L189 N k_38 z_row N (1 : Int64) (0 : Int32))) (aHC a) 0 N z_room (by omega) (by omega) (fun j hj => by omega)
          have hp10 : 10 ^ aHC a ≤ 10 ^ 6 := Nat.pow_le_pow_right (by decide) hhc
          have hp10' : 0 < 10 ^ aHC a := Nat.pow_pos (by decide)
          have hp2 : 2 ^ aHC a ≤ 2 ^ 6 := Nat.pow_le_pow_right (by decide) hhc
          have e10 : (10 : Nat) ^ 6 = 1000000 := rfl
          have e2' : (2 : Nat) ^ 6 = 64 := rfl
          obtain ⟨A, a1, a2, a3⟩ := ws_both N hN hok hra hhd hht (fun i hi => ⟨b2 i hi, hRb i⟩) (fun i hi => ⟨f2 i hi, hRb i⟩) hRd (fun v => some v) (fun (v5_68 : Int64) => zz_b1 (f_X7_divisor N v5_68 (lN (10 ^ aHC a))) (fun r_69 => (if p3 = 0 then zz_gd (zz_nzL r_69) ((some (v5_68 / r_69, far2, names', nI l.length, room'))) else zz_gd (zz_nzL r_69) ((some (lN (10 ^ aHC a) / r_69, far2, names', nI l.length, room')))))) (2 ^ aHC a) 0 N N 0 (by omega) (by omega) (by omega)
          have hA : A < 2 ^ 62 := by
            have h1 : 2 ^ aHC a * 10 ^ aHC a ≤ 64 * 1000000 := Nat.mul_le_mul hp2 hp10
            omega
          obtain ⟨g, g0, g1, g2, g3⟩ := gcd_eq N hN (a := A) (b := 10 ^ aHC a) hA (by omega) hp10'
          have a2' : f_X6_waysWithNames N ro n_hopeDays n_hopeTenths n_hopeCount = some (lN A) := by
            unfold f_X6_waysWithNames
            rw [zl_let, hw.2.2.2.2.2.1]
            exact a2
          have gz : zz_nzL (lN g) = true := decide_eq_true (fun q => by
            rw [cd_0 (by omega)] at q
            omega)
          have e37 : z_row (37 : Int32).toNatClampNeg - (1 : Int32) = nI (aDT a) - 1 := by rw [h37]
          rw [zl_bT (zo_t c3), zl_bT (in01_t c3), hw.2.2.2.2.2.2.2, zl_b1 e1, e37, zl_b2 e2, zl_b2 e3, zl_let, zl_b2 r1, zl_let]
          rw [show f_X7_hopes_L81 N _ z_row z_words (m1 ||| m2) names' (nI l.length) N 0 z_room = _ from b1, zl_let]
          have b7 := bl7 N hok hra (fun (v7_44 : Int64) => zz_let (fun (v5_68 : Int64) => zz_b1 (f_X7_divisor N v5_68 v7_44) (fun r_69 => (if p3 = 0 then zz_gd (zz_nzL r_69) ((some (v5_68 / r_69, far2, names', nI l.length, room'))) else zz_gd (zz_nzL r_69) ((some (v7_44 / r_69, far2, names', nI l.length, room')))))) (fun k_45 => f_X7_hopes_L218 N k_45 z_row room' N (0 : Int64) (0 : Int32))) (aHC a) 0 N 1 (by omega) (by omega)
          rw [Nat.one_mul] at b7
          rw [show f_X7_hopes_L189 N _ z_row N 1 0 = _ from b7, zl_let]
          rw [show f_X7_hopes_L218 N _ z_row room' N 0 0 = _ from a3, zl_b1 g3]
          simp only [zz_b9, f1', Option.bind_some]
          rw [zl_b1 a2', zl_let, hw.2.2.2.2.2.1]
          have b6 := bl6 N hhc (fun (v6_25 : Int64) => zz_b1 (f_X6_commonDivisor N (lN A) v6_25) (fun r_26 => zz_let (fun (q_29 : Int64) => zz_gd (zz_nzL r_26) ((some (q_29 / r_26, ro, c6, s6, pc6, ps6, pm6, pk6, wd6, dw6)))) (fun k_28 => (if p3 = 0 then (k_28 (lN A)) else (k_28 v6_25))))) (aHC a) 0 N 1 (by omega) (by omega)
          rw [Nat.one_mul] at b6
          rw [show f_X6_hopes_L67 N _ (nI (aHC a)) N 1 0 = _ from b6, zl_b1 g2, zl_let, zl_gd gz, zl_gd gz]
          by_cases c4 : p3 = 0
          · rw [if_pos c4, if_pos c4]
            dsimp only
            rw [zl_gd gz]
            exact ⟨_, _, _, _, _, _, _, _, _, _, _, _, _, _, rfl, rfl⟩
          · rw [if_neg c4, if_neg c4]
            dsimp only
            rw [zl_gd gz]
            exact ⟨_, _, _, _, _, _, _, _, _, _, _, _, _, _, rfl, rfl⟩
        · rw [zl_bF (zo_f c3), zl_bF (in01_f c3)]
          exact ⟨_, _, _, _, _, _, _, _, _, _, _, _, _, _, rfl, rfl⟩
    · rw [zl_bF (zl_isPerson_f h hpc), zl_bF (zl_7isPerson_f h38 hpc h)]
      exact ⟨_, _, _, _, _, _, _, _, _, _, _, _, _, _, rfl, rfl⟩
  · rw [zl_bF (zl_isPerson_f h hpc), zl_bF (zl_7isPerson_f h38 hpc h)]
    exact ⟨_, _, _, _, _, _, _, _, _, _, _, _, _, _, rfl, rfl⟩
