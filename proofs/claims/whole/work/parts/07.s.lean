/-! ===== judged names, and who took one ===== -/
theorem b_bitv {v : Int32} {n : Nat} (hn : n < 32) : ((v >>> (nI n &&& 31)) &&& (1 : Int32)) = if bt v n = true then 1 else 0 := by
  cases c : bt v n with
  | false =>
    rw [(b_test hn).mpr c]
    rfl
  | true =>
    rw [if_pos rfl]
    refine b_ext (fun j hj => ?_)
    rw [b_and, b_sshr n hn _ hj, b_one j hj]
    by_cases e : j = 0
    · subst e
      rw [if_pos (by omega), show n + 0 = n from rfl, c]
      rfl
    · rw [decide_eq_false e, Bool.and_false]
theorem has_eq {N : Nat} {v : Int32} {n : Nat} (hn : n < 32) : f_X7_has N v (nI n) = some (if bt v n = true then 1 else 0) := by
  unfold f_X7_has
  rw [b_bitv hn]
  cases bt v n <;> rfl
theorem lc_loop (N : Nat) {a : AW} {row : Nat → Int32} {w : Nat → Int64} {words : Nat → Int64} (hok : zOK a) (hra : zRA a row w 0) (hw : ∀ p, p < aPC a → words p = lN (aW a p)) {p : Nat} (hp : p < aPC a) (m : Int32) (far : Nat → Int32) : ∀ (d i f : Nat), i + d = aPC a → d < f → ∃ r, f_X5_leastCalled_L3 N (some (-1)) words (nI (aPC a)) (lN (aW a p)) m f (nI i) = some r ∧ f_X7_takerOf_L8 N (some (-1, far)) row w (nI p) m far f (nI i) = some (r, far) := by
  have hpc : aPC a ≤ 16 := hok.2.2.2.2.1
  have h38 : row (38 : Int32).toNatClampNeg = nI (aPC a) := hra.2.2.2.2.1
  intro d
  induction d with
  | zero =>
    intro i f hi hf
    obtain ⟨f', rfl⟩ : ∃ f', f = f' + 1 := ⟨f - 1, by omega⟩
    refine ⟨-1, ?_, ?_⟩
    · rw [f_X5_leastCalled_L3_s, if_pos (nI_le (by omega) (by omega))]
    · rw [f_X7_takerOf_L8_s, h38, if_pos (nI_le (by omega) (by omega))]
  | succ d ih =>
    intro i f hi hf
    obtain ⟨f', rfl⟩ : ∃ f', f = f' + 1 := ⟨f - 1, by omega⟩
    obtain ⟨r, r1, r2⟩ := ih (i + 1) f' (by omega) (by omega)
    have hi2 : i < aPC a := by omega
    obtain ⟨_, _, _, g3⟩ := zl_p55 hra hi2
    obtain ⟨_, _, _, g4⟩ := zl_p55 hra hp
    rw [f_X5_leastCalled_L3_s, f_X7_takerOf_L8_s, h38, if_neg (nI_ge (by omega) (by omega)), if_neg (nI_ge (by omega) (by omega)), zl_let, zl_let, zl_b1 (has_eq (show i < 32 by omega)), zl_let, zl_let, nI_1, b_bitv (show i < 32 by omega)]
    cases c : bt m i with
    | false => exact ⟨r, r1, r2⟩
    | true =>
      rw [if_pos rfl, if_neg (show ¬ (1 : Int32) = 0 by decide), if_neg (show ¬ (1 : Int32) = 0 by decide), zl_gd (zl_inN (show i < 16 by omega) (by decide)), zl_gd (zl_inN (show i < 48 by omega) (by decide)), zl_gd (zl_inN (show p < 48 by omega) (by decide)), zl_cl (show i < 2 ^ 31 by omega), zl_cl (show p < 2 ^ 31 by omega), hw i hi2, g3, g4]
      by_cases c2 : lN (aW a i) = lN (aW a p)
      · exact ⟨nI i, if_pos c2, if_pos c2⟩
      · rw [if_neg c2, if_neg c2]
        exact ⟨r, r1, r2⟩
theorem tk_eq (N : Nat) (hN : 100000 ≤ N) {a : AW} {row : Nat → Int32} {w : Nat → Int64} {words : Nat → Int64} {par oth kin : Nat → Int32} (hok : zOK a) (hra : zRA a row w 0) (hwa : zKin a par oth kin) (hw : ∀ p, p < aPC a → words p = lN (aW a p)) {p : Nat} (hp : p < aPC a) : ∃ m r, f_X5_nearOf N par oth kin (nI (aPC a)) (nI (aDT a)) (nI p) = some m ∧ f_X5_leastCalled N words (nI (aPC a)) (lN (aW a p)) m = some r ∧ ∀ far, ∃ far', f_X7_takerOf N row w far (nI p) = some (r, far') := by
  have hpc : aPC a ≤ 16 := hok.2.2.2.2.1
  obtain ⟨m, _, e1, _, _⟩ := near_eq N hN hok hra hwa hp (fun _ => 0)
  obtain ⟨r, r1, _⟩ := lc_loop N hok hra hw hp m (fun _ => 0) (aPC a) 0 N (by omega) (by omega)
  refine ⟨m, r, e1, ?_, fun far => ?_⟩
  · unfold f_X5_leastCalled
    rw [zl_let]
    exact r1
  · obtain ⟨m', far', e1', e2', _⟩ := near_eq N hN hok hra hwa hp far
    have em : m' = m := Option.some.inj (e1'.symm.trans e1)
    subst em
    obtain ⟨r', q1, q2⟩ := lc_loop N hok hra hw hp m' far' (aPC a) 0 N (by omega) (by omega)
    have er : r' = r := Option.some.inj (q1.symm.trans r1)
    subst er
    refine ⟨far', ?_⟩
    unfold f_X7_takerOf
    rw [zl_b2 e2', zl_let]
    exact q2
theorem jg_eq (N : Nat) (hN : 100000 ≤ N) {a : AW} {row : Nat → Int32} {w : Nat → Int64} {n1 : Nat → Int32} {n2 : Nat → Int64} {n3 : Int32} {n4 : Nat → Int32} {n5 : Nat → Int64} {n6 n7 n8 : Nat → Int32} {n9 : Int32} {n10 n11 : Nat → Int32} {n12 n13 : Int32} (hok : zOK a) (hw : zWA a n1 n2 n3 n4 n5 n6 n7 n8 n9 n10 n11 n12 n13) (hra : zRA a row w 0) {p : Nat} (hp : p < aPC a) : ∃ r, f_X5_faultOfName N n1 n2 n3 n4 n5 n6 n7 n8 n9 n13 (nI p) = some r ∧ ∀ far, ∃ far', f_X7_judge N row w far (nI p) = some (r, far') := by
  have hpc : aPC a ≤ 16 := hok.2.2.2.2.1
  have h38 : row 38 = nI (aPC a) := hra.2.2.2.2.1
  have hwo : ∀ p, p < aPC a → n5 p = lN (aW a p) := fun q hq => (hw.2.2.2.2.1 q hq).2.1
  obtain ⟨m, r, t1, t2, t3⟩ := tk_eq N hN hok hra (zKin_of hw) hwo hp
  obtain ⟨g0, _, _, g3⟩ := zl_p55 hra hp
  obtain ⟨d0, d1, _⟩ := hw.2.2.2.2.1 p hp
  have hd := hok.2.2.2.2.2.1 p hp
  unfold f_X5_faultOfName
  rw [hw.2.1, hw.2.2.2.1, hw.2.2.2.2.2.2.2, zl_gd (zl_inN (show p < 16 by omega) (by decide)), zl_let, zl_cl (show p < 2 ^ 31 by omega), d1]
  have e7 : ∀ far, f_X7_judge N row w far (nI p) = (if lN (aW a p) = (0 : Int64) then (some ((1 : Int32), far)) else zz_b1 (f_X7_isName N row (lN (aW a p))) (fun r_5 => (if r_5 = 0 then (some ((2 : Int32), far)) else zz_b1 (f_X7_sumOf N row (lN (aW a p))) (fun r_7 => (if r_7 = nI (aD a p) then zz_b2 (f_X7_takerOf N row w far (nI p)) (fun r_10 t_far_11 => (if r_10 = (-1 : Int32) then (some ((0 : Int32), t_far_11)) else (some ((4 : Int32), t_far_11)))) else (some ((3 : Int32), far))))))) := fun far => by
    unfold f_X7_judge
    rw [zl_bT (zl_7isPerson_t h38 hpc hp), zl_gd (zl_inN (show p < 48 by omega) (by decide)), zl_cl (show p < 2 ^ 31 by omega), show (39 : Int32) = nI 39 from rfl, nI_add, g3, zl_cl (show 39 + p < 2 ^ 31 by omega), g0]
    simp only [zl_gd (zl_inN (show 39 + p < 300 by omega) (by decide))]
  rcases hd.2.2.1 with c | c
  · refine ⟨1, ?_, fun far => ⟨far, ?_⟩⟩
    · rw [c, if_pos (show lN 0 = (0 : Int64) from rfl)]
    · skip
      rw [e7, c, if_pos (show lN 0 = (0 : Int64) from rfl)]
  · obtain ⟨h0, h9, hD⟩ := isW_iff.mp c
    have h63 : aW a p < 2 ^ 63 := by rw [p27] at h9; omega
    have hne : ¬ lN (aW a p) = (0 : Int64) := fun q => h0 ((cd_0 h63).mp q)
    rw [if_neg hne]
    rcases name6 N hN hok hw.1 hw.2.2.1 c with ⟨q1, q2⟩ | ⟨q1, q2⟩
    · rcases name7 N hN hok hra c with ⟨r1, r2⟩ | ⟨r1, r2⟩
      · rw [zl_bT q2]
        unfold f_X5_addsUp
        rw [zl_gd (zl_inN (show p < 16 by omega) (by decide)), zl_cl (show p < 2 ^ 31 by omega), d1, if_neg hne, zl_b1 (sum6 N hN hw.1 h9 hD), d0]
        by_cases cs : nI (aSum a (aW a p)) = nI (aD a p)
        · rw [if_pos cs, zl_b1 rfl, if_neg (show ¬ (1 : Int32) = 0 by decide), zl_b1 t1, zl_b1 t2]
          by_cases c9 : r = -1
          · rw [if_pos c9]
            refine ⟨0, rfl, fun far => ?_⟩
            obtain ⟨far', t3'⟩ := t3 far
            refine ⟨far', ?_⟩
            rw [e7, if_neg hne, zl_bT r2, zl_b1 (sum7 N hN (zl_row0 hra) h63 hD), if_pos cs, zl_b2 t3', if_pos c9]
          · rw [if_neg c9]
            refine ⟨4, rfl, fun far => ?_⟩
            obtain ⟨far', t3'⟩ := t3 far
            refine ⟨far', ?_⟩
            rw [e7, if_neg hne, zl_bT r2, zl_b1 (sum7 N hN (zl_row0 hra) h63 hD), if_pos cs, zl_b2 t3', if_neg c9]
        · rw [if_neg cs, zl_b1 rfl, if_pos rfl]
          refine ⟨3, rfl, fun far => ⟨far, ?_⟩⟩
          rw [e7, if_neg hne, zl_bT r2, zl_b1 (sum7 N hN (zl_row0 hra) h63 hD), if_neg cs]
      · exact absurd q1 r1
    · rcases name7 N hN hok hra c with ⟨r1, r2⟩ | ⟨r1, r2⟩
      · exact absurd r1 q1
      · rw [zl_bF q2]
        refine ⟨2, rfl, fun far => ⟨far, ?_⟩⟩
        rw [e7, if_neg hne, zl_bF r2]
theorem pr_judge (c : Nat → ClassId) (n_numbers : Nat → Int32) (n_syllables : Nat → Int64) (n_syllableCount : Int32) (n_days : Nat → Int32) (n_words : Nat → Int64) (n_parents : Nat → Int32) (n_otherParents : Nat → Int32) (n_kinds : Nat → Int32) (n_personCount : Int32) (n_hopeDays : Nat → Int32) (n_hopeTenths : Nat → Int32) (n_hopeCount : Int32) (n_degreesTold : Int32) (r_text : Nat → Int32) (r_length : Int32) (s_lane : Nat → Int32) (s_size : Nat → Int32) (s_items : Nat → Nat → Int32) (i_ir : Nat → Option Nat) (g0 : va_W) (g1 : va_W) (z_row : Nat → Int32) (z_words : Nat → Int64) (z_isKept : Nat → Int32) (z_text : Nat → Int32) (z_length : Int32) (z_lanes : Nat → Int32) (z_sizes : Nat → Int32) (z_items : Nat → Int32) (z_far : Nat → Int32) (p1 : Int32) (N : Nat) (hN : 100000 ≤ N) (hR : zRel c n_numbers n_syllables n_syllableCount n_days n_words n_parents n_otherParents n_kinds n_personCount n_hopeDays n_hopeTenths n_hopeCount n_degreesTold r_text r_length s_lane s_size s_items i_ir g0 g1 z_row z_words z_isKept z_text z_length z_lanes z_sizes z_items) : ∃ (r : Int32) (e_far : Nat → Int32), f_X6_judge N n_numbers n_syllables n_syllableCount n_days n_words n_parents n_otherParents n_kinds n_personCount n_degreesTold p1 = some r ∧ f_X7_judge N z_row z_words z_far p1 = some (r, e_far) ∧ zRel c n_numbers n_syllables n_syllableCount n_days n_words n_parents n_otherParents n_kinds n_personCount n_hopeDays n_hopeTenths n_hopeCount n_degreesTold r_text r_length s_lane s_size s_items i_ir g0 g1 z_row z_words z_isKept z_text z_length z_lanes z_sizes z_items := by
  obtain ⟨⟨a, hok, hw, hra⟩, _⟩ := id hR
  have hpc : aPC a ≤ 16 := hok.2.2.2.2.1
  have h38 : z_row 38 = nI (aPC a) := hra.2.2.2.2.1
  suffices hh : ∃ (r : Int32) (e_far : Nat → Int32), f_X6_judge N n_numbers n_syllables n_syllableCount n_days n_words n_parents n_otherParents n_kinds n_personCount n_degreesTold p1 = some r ∧ f_X7_judge N z_row z_words z_far p1 = some (r, e_far) by
    obtain ⟨r, e, h1, h2⟩ := hh
    exact ⟨r, e, h1, h2, hR⟩
  unfold f_X6_judge
  rw [hw.2.2.2.1]
  rcases zl_case p1 (aPC a) (by omega) with ⟨p, hp, rfl⟩ | h
  · obtain ⟨r, r1, r2⟩ := jg_eq N hN hok hw hra hp
    obtain ⟨far', r2⟩ := r2 z_far
    rw [hw.2.2.2.1] at r1
    rw [zl_bT (zl_isPerson_t hp hpc), zl_b1 r1]
    exact ⟨r, far', rfl, r2⟩
  · rw [zl_bF (zl_isPerson_f h hpc)]
    unfold f_X7_judge
    rw [zl_bF (zl_7isPerson_f h38 hpc h)]
    exact ⟨_, _, rfl, rfl⟩
theorem pr_taker (c : Nat → ClassId) (n_numbers : Nat → Int32) (n_syllables : Nat → Int64) (n_syllableCount : Int32) (n_days : Nat → Int32) (n_words : Nat → Int64) (n_parents : Nat → Int32) (n_otherParents : Nat → Int32) (n_kinds : Nat → Int32) (n_personCount : Int32) (n_hopeDays : Nat → Int32) (n_hopeTenths : Nat → Int32) (n_hopeCount : Int32) (n_degreesTold : Int32) (r_text : Nat → Int32) (r_length : Int32) (s_lane : Nat → Int32) (s_size : Nat → Int32) (s_items : Nat → Nat → Int32) (i_ir : Nat → Option Nat) (g0 : va_W) (g1 : va_W) (z_row : Nat → Int32) (z_words : Nat → Int64) (z_isKept : Nat → Int32) (z_text : Nat → Int32) (z_length : Int32) (z_lanes : Nat → Int32) (z_sizes : Nat → Int32) (z_items : Nat → Int32) (z_far : Nat → Int32) (p1 : Int32) (N : Nat) (hN : 100000 ≤ N) (hR : zRel c n_numbers n_syllables n_syllableCount n_days n_words n_parents n_otherParents n_kinds n_personCount n_hopeDays n_hopeTenths n_hopeCount n_degreesTold r_text r_length s_lane s_size s_items i_ir g0 g1 z_row z_words z_isKept z_text z_length z_lanes z_sizes z_items) : ∃ (r : Int32) (e_far : Nat → Int32), f_X6_taker N n_numbers n_syllables n_syllableCount n_days n_words n_parents n_otherParents n_kinds n_personCount n_degreesTold p1 = some r ∧ f_X7_taker N z_row z_words z_far p1 = some (r, e_far) ∧ zRel c n_numbers n_syllables n_syllableCount n_days n_words n_parents n_otherParents n_kinds n_personCount n_hopeDays n_hopeTenths n_hopeCount n_degreesTold r_text r_length s_lane s_size s_items i_ir g0 g1 z_row z_words z_isKept z_text z_length z_lanes z_sizes z_items := by
  obtain ⟨⟨a, hok, hw, hra⟩, _⟩ := id hR
  have hpc : aPC a ≤ 16 := hok.2.2.2.2.1
  have h38 : z_row 38 = nI (aPC a) := hra.2.2.2.2.1
  suffices hh : ∃ (r : Int32) (e_far : Nat → Int32), f_X6_taker N n_numbers n_syllables n_syllableCount n_days n_words n_parents n_otherParents n_kinds n_personCount n_degreesTold p1 = some r ∧ f_X7_taker N z_row z_words z_far p1 = some (r, e_far) by
    obtain ⟨r, e, h1, h2⟩ := hh
    exact ⟨r, e, h1, h2, hR⟩
  unfold f_X6_taker f_X7_taker
  rw [hw.2.2.2.1]
  rcases zl_case p1 (aPC a) (by omega) with ⟨p, hp, rfl⟩ | h
  · obtain ⟨r, r1, r2⟩ := jg_eq N hN hok hw hra hp
    obtain ⟨far', r2⟩ := r2 z_far
    have hwo : ∀ p, p < aPC a → n_words p = lN (aW a p) := fun q hq => (hw.2.2.2.2.1 q hq).2.1
    obtain ⟨m, s, t1, t2, t3⟩ := tk_eq N hN hok hra (zKin_of hw) hwo hp
    rw [hw.2.2.2.1] at r1
    rw [zl_bT (zl_isPerson_t hp hpc), zl_b1 r1, zl_bT (zl_7isPerson_t h38 hpc hp), zl_b2 r2]
    by_cases c : r = 4
    · obtain ⟨far'', t3⟩ := t3 far'
      rw [if_pos c, if_pos c, zl_gd (zl_inN (show p < 16 by omega) (by decide)), zl_cl (show p < 2 ^ 31 by omega), hwo p hp, hw.2.2.2.2.2.2.2, zl_b1 t1, zl_b1 t2, zl_b2 t3]
      exact ⟨_, _, rfl, rfl⟩
    · rw [if_neg c, if_neg c]
      exact ⟨_, _, rfl, rfl⟩
  · rw [zl_bF (zl_isPerson_f h hpc), zl_bF (zl_7isPerson_f h38 hpc h)]
    exact ⟨_, _, rfl, rfl⟩
