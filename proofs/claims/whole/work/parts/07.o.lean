/-! ===== how many bits; the rows person, degrees, as ===== -/
def pc1 (n : Nat) : Nat := n - ((n >>> 1) &&& 1431655765)
def pc2 (n : Nat) : Nat := (pc1 n &&& 858993459) + ((pc1 n >>> 2) &&& 858993459)
def pc3 (n : Nat) : Nat := (pc2 n + (pc2 n >>> 4)) &&& 252645135
def pc4 (n : Nat) : Nat := pc3 n + (pc3 n >>> 8)
def pc5 (n : Nat) : Nat := (pc4 n + (pc4 n >>> 16)) &&& 63
def pcT (n : Nat) : Nat := n % 2 + n / 2 % 2 + n / 4 % 2 + n / 8 % 2 + n / 16 % 2 + n / 32 % 2 + n / 64 % 2 + n / 128 % 2
def pcC (n m : Nat) : Bool := Nat.ble ((n >>> 1) &&& 1431655765) n && Nat.ble (pc1 n) 65535 && Nat.ble (pc2 n) 65535 && Nat.ble (pc4 n) 65535 && Nat.ble (pc3 n) 65535 && Nat.beq (pc5 n) m
def pcAll (f : Nat → Bool) : Nat → Bool
  | 0 => true
  | n + 1 => f n && pcAll f n
theorem pcAll_mp {f : Nat → Bool} : ∀ {n : Nat}, pcAll f n = true → ∀ k, k < n → f k = true
  | 0, _, k, hk => absurd hk (by omega)
  | n + 1, h, k, hk => by
    rw [pcAll, Bool.and_eq_true] at h
    by_cases e : k = n
    · rw [e]
      exact h.1
    · exact pcAll_mp h.2 k (by omega)
theorem pc_all : pcAll (fun h => pcAll (fun l => pcC (256 * h + l) (pcT l + pcT h)) 256) 256 = true := by decide +kernel
theorem pc_at {n : Nat} (h : n < 65536) : ((n >>> 1) &&& 1431655765) ≤ n ∧ pc1 n < 65536 ∧ pc2 n < 65536 ∧ pc4 n < 65536 ∧ pc3 n < 65536 ∧ pc5 n = pcT (n % 256) + pcT (n / 256) := by
  have h1 := pcAll_mp (pcAll_mp pc_all (n / 256) (by omega)) (n % 256) (by omega)
  rw [show 256 * (n / 256) + n % 256 = n by omega] at h1
  unfold pcC at h1
  simp only [Bool.and_eq_true] at h1
  obtain ⟨⟨⟨⟨⟨q1, q2⟩, q3⟩, q4⟩, q5⟩, q6⟩ := h1
  have q1 := Nat.le_of_ble_eq_true q1
  have q2 := Nat.le_of_ble_eq_true q2
  have q3 := Nat.le_of_ble_eq_true q3
  have q4 := Nat.le_of_ble_eq_true q4
  have q5 := Nat.le_of_ble_eq_true q5
  exact ⟨q1, by omega, by omega, by omega, by omega, Nat.eq_of_beq_eq_true q6⟩
theorem bc_eq (N : Nat) {n : Nat} (h : n < 65536) : f_J6_bitCount_0f7a4 N (nI n) = some (nI (pcT (n % 256) + pcT (n / 256))) := by
  obtain ⟨h1, h2, h3, h4, h5, h6⟩ := pc_at h
  have s1 : ∀ k, k < 65536 → ((nI k).toUInt32 >>> ((1 : Int32).toUInt32 &&& Int32.toUInt32 31)).toInt32 = nI (k >>> 1) := fun k hk => nx_ush (j := 1) hk (by decide)
  have s2 : ∀ k, k < 65536 → ((nI k).toUInt32 >>> ((2 : Int32).toUInt32 &&& Int32.toUInt32 31)).toInt32 = nI (k >>> 2) := fun k hk => nx_ush (j := 2) hk (by decide)
  have s4 : ∀ k, k < 65536 → ((nI k).toUInt32 >>> ((4 : Int32).toUInt32 &&& Int32.toUInt32 31)).toInt32 = nI (k >>> 4) := fun k hk => nx_ush (j := 4) hk (by decide)
  have s8 : ∀ k, k < 65536 → ((nI k).toUInt32 >>> ((8 : Int32).toUInt32 &&& Int32.toUInt32 31)).toInt32 = nI (k >>> 8) := fun k hk => nx_ush (j := 8) hk (by decide)
  have s16 : ∀ k, k < 65536 → ((nI k).toUInt32 >>> ((16 : Int32).toUInt32 &&& Int32.toUInt32 31)).toInt32 = nI (k >>> 16) := fun k hk => nx_ush (j := 16) hk (by decide)
  have e1 : nI n - (nI (n >>> 1) &&& nI 1431655765) = nI (pc1 n) := by
    rw [fa_and, pk_sub h1]
    rfl
  have e2 : (nI (pc1 n) &&& nI 858993459) + (nI (pc1 n >>> 2) &&& nI 858993459) = nI (pc2 n) := by
    rw [fa_and, fa_and, nI_add]
    rfl
  have e3 : (nI (pc2 n) + nI (pc2 n >>> 4)) &&& nI 252645135 = nI (pc3 n) := by
    rw [nI_add, fa_and]
    rfl
  have e4 : nI (pc3 n) + nI (pc3 n >>> 8) = nI (pc4 n) := by
    rw [nI_add]
    rfl
  have e5 : (nI (pc4 n) + nI (pc4 n >>> 16)) &&& nI 63 = nI (pc5 n) := by
    rw [nI_add, fa_and]
    rfl
  unfold f_J6_bitCount_0f7a4
  rw [zl_let, s1 n h, show (1431655765 : Int32) = nI 1431655765 from rfl, e1, zl_let, s2 _ h2, show (858993459 : Int32) = nI 858993459 from rfl, e2, zl_let, s4 _ h3, show (252645135 : Int32) = nI 252645135 from rfl, e3, zl_let, s8 _ h5, e4, zl_let, s16 _ h4, show (63 : Int32) = nI 63 from rfl, e5, h6]
theorem b_val {n i : Nat} (hn : n < 65536) (hi : i < 16) : ((nI n >>> (nI i &&& 31)) &&& (1 : Int32)) = nI (n / 2 ^ i % 2) := by
  have hb : bt (nI n) i = n.testBit i := by
    show (BitVec.ofNat 32 n).getLsbD i = n.testBit i
    rw [BitVec.getLsbD_ofNat, decide_eq_true (by omega), Bool.true_and]
  have hd : n.testBit i = decide (n / 2 ^ i % 2 = 1) := Nat.testBit_eq_decide_div_mod_eq
  cases c : bt (nI n) i with
  | false =>
    rw [(b_test (by omega)).mpr c]
    rw [hb, hd] at c
    have c := of_decide_eq_false c
    have : n / 2 ^ i % 2 = 0 := by omega
    rw [this]
    rfl
  | true =>
    have c' := c
    rw [hb, hd] at c
    rw [of_decide_eq_true c]
    refine b_ext (fun j hj => ?_)
    rw [b_and, b_sshr i (by omega) _ hj, show nI 1 = (1 : Int32) from rfl, b_one j hj]
    by_cases e : j = 0
    · subst e
      rw [if_pos (by omega), show i + 0 = i from rfl, c']
      rfl
    · rw [decide_eq_false e, Bool.and_false]
theorem bits_eq (N : Nat) (hN : 100000 ≤ N) {n : Nat} (h : n < 65536) : f_X7_bits N (nI n) = some (nI (pcT (n % 256) + pcT (n / 256))) := by
  have lp : ∀ (d i f : Nat) (s : Nat), i + d = 16 → d < f → f_X7_bits_L4 N (fun v => some v) (nI n) f (nI s) (nI i) = some (nI (s + fb_sm (fun k => n / 2 ^ (i + k) % 2) d)) := by
    intro d
    induction d with
    | zero =>
      intro i f s hi hf
      obtain ⟨f', rfl⟩ : ∃ f', f = f' + 1 := ⟨f - 1, by omega⟩
      rw [f_X7_bits_L4_s, if_pos (show (16 : Int32) ≤ nI i from nI_le (a := 16) (by omega) (by omega))]
      rfl
    | succ d ih =>
      intro i f s hi hf
      obtain ⟨f', rfl⟩ : ∃ f', f = f' + 1 := ⟨f - 1, by omega⟩
      rw [f_X7_bits_L4_s, if_neg (show ¬ (16 : Int32) ≤ nI i from nI_ge (b := 16) (by omega) (by omega)), zl_let, zl_let, b_val h (by omega), nI_add, nI_1, ih (i + 1) f' _ (by omega) (by omega), show d + 1 = 1 + d by omega, fb_sm_split]
      have e : fb_sm (fun k => n / 2 ^ (i + k) % 2) 1 = n / 2 ^ i % 2 := by
        rw [fb_sm_succ]
        exact Nat.zero_add _
      rw [e]
      have e2 : fb_sm (fun k => n / 2 ^ (i + 1 + k) % 2) d = fb_sm (fun k => n / 2 ^ (i + (1 + k)) % 2) d := fb_sm_cong (fun k _ => by rw [show i + 1 + k = i + (1 + k) by omega])
      rw [e2, Nat.add_assoc]
  unfold f_X7_bits
  rw [zl_let]
  have := lp 16 0 N 0 (by omega) (by omega)
  rw [show (0 : Int32) = nI 0 from rfl, this]
  refine congrArg (fun x => some (nI x)) ?_
  simp only [fb_sm, Nat.zero_add]
  unfold pcT
  have a0 : n % 256 % 2 = n % 2 := by omega
  have a1 : n % 256 / 2 % 2 = n / 2 % 2 := by omega
  have c1 : n / 256 / 2 % 2 = n / 512 % 2 := by omega
  have a2 : n % 256 / 4 % 2 = n / 4 % 2 := by omega
  have c2 : n / 256 / 4 % 2 = n / 1024 % 2 := by omega
  have a3 : n % 256 / 8 % 2 = n / 8 % 2 := by omega
  have c3 : n / 256 / 8 % 2 = n / 2048 % 2 := by omega
  have a4 : n % 256 / 16 % 2 = n / 16 % 2 := by omega
  have c4 : n / 256 / 16 % 2 = n / 4096 % 2 := by omega
  have a5 : n % 256 / 32 % 2 = n / 32 % 2 := by omega
  have c5 : n / 256 / 32 % 2 = n / 8192 % 2 := by omega
  have a6 : n % 256 / 64 % 2 = n / 64 % 2 := by omega
  have c6 : n / 256 / 64 % 2 = n / 16384 % 2 := by omega
  have a7 : n % 256 / 128 % 2 = n / 128 % 2 := by omega
  have c7 : n / 256 / 128 % 2 = n / 32768 % 2 := by omega
  rw [a0, a1, c1, a2, c2, a3, c3, a4, c4, a5, c5, a6, c6, a7, c7]
  simp only [Nat.pow_zero, Nat.div_one, show 2 ^ 1 = 2 from rfl, show 2 ^ 2 = 4 from rfl, show 2 ^ 3 = 8 from rfl, show 2 ^ 4 = 16 from rfl, show 2 ^ 5 = 32 from rfl, show 2 ^ 6 = 64 from rfl, show 2 ^ 7 = 128 from rfl, show 2 ^ 8 = 256 from rfl, show 2 ^ 9 = 512 from rfl, show 2 ^ 10 = 1024 from rfl, show 2 ^ 11 = 2048 from rfl, show 2 ^ 12 = 4096 from rfl, show 2 ^ 13 = 8192 from rfl, show 2 ^ 14 = 16384 from rfl, show 2 ^ 15 = 32768 from rfl, Nat.add_assoc]
theorem ms_small {v : Int32} {S : Nat → Prop} (h : zMs v S) (hS : ∀ x, S x → x < 16) : ∃ n, n < 65536 ∧ v = nI n := by
  obtain ⟨n, h1, rfl⟩ := wb_of32 v
  refine ⟨n, ?_, rfl⟩
  refine Nat.lt_pow_two_of_testBit (n := 16) n (fun i hi => ?_)
  by_cases c : i < 32
  · have hb : bt (nI n) i = n.testBit i := by
      show (BitVec.ofNat 32 n).getLsbD i = n.testBit i
      rw [BitVec.getLsbD_ofNat, decide_eq_true c, Bool.true_and]
    cases e : n.testBit i with
    | false => rfl
    | true =>
      rw [e] at hb
      have := hS i ((h i c).mp hb)
      omega
  · exact Nat.testBit_lt_two_pow (Nat.lt_of_lt_of_le h1 (Nat.pow_le_pow_right (by decide) (by omega)))
theorem pr_degrees (c : Nat → ClassId) (n_numbers : Nat → Int32) (n_syllables : Nat → Int64) (n_syllableCount : Int32) (n_days : Nat → Int32) (n_words : Nat → Int64) (n_parents : Nat → Int32) (n_otherParents : Nat → Int32) (n_kinds : Nat → Int32) (n_personCount : Int32) (n_hopeDays : Nat → Int32) (n_hopeTenths : Nat → Int32) (n_hopeCount : Int32) (n_degreesTold : Int32) (r_text : Nat → Int32) (r_length : Int32) (s_lane : Nat → Int32) (s_size : Nat → Int32) (s_items : Nat → Nat → Int32) (i_ir : Nat → Option Nat) (g0 : va_W) (g1 : va_W) (z_row : Nat → Int32) (z_words : Nat → Int64) (z_isKept : Nat → Int32) (z_text : Nat → Int32) (z_length : Int32) (z_lanes : Nat → Int32) (z_sizes : Nat → Int32) (z_items : Nat → Int32) (z_far : Nat → Int32) (p1 : Int32) (p2 : Int32) (N : Nat) (hN : 100000 ≤ N) (hR : zRel c n_numbers n_syllables n_syllableCount n_days n_words n_parents n_otherParents n_kinds n_personCount n_hopeDays n_hopeTenths n_hopeCount n_degreesTold r_text r_length s_lane s_size s_items i_ir g0 g1 z_row z_words z_isKept z_text z_length z_lanes z_sizes z_items) : ∃ (r : Int32) (e_far : Nat → Int32), f_X6_degrees N n_parents n_otherParents n_kinds n_personCount p1 p2 = some r ∧ f_X7_degrees N z_row z_far p1 p2 = some (r, e_far) ∧ zRel c n_numbers n_syllables n_syllableCount n_days n_words n_parents n_otherParents n_kinds n_personCount n_hopeDays n_hopeTenths n_hopeCount n_degreesTold r_text r_length s_lane s_size s_items i_ir g0 g1 z_row z_words z_isKept z_text z_length z_lanes z_sizes z_items := by
  obtain ⟨⟨a, hok, hw, hra⟩, _⟩ := id hR
  have hpc : aPC a ≤ 16 := hok.2.2.2.2.1
  have h38 : z_row 38 = nI (aPC a) := hra.2.2.2.2.1
  have hk := zKin_of hw
  rw [hw.2.2.2.1]
  rcases zl_case p1 (aPC a) (by omega) with ⟨p, hp, rfl⟩ | h
  · rcases zl_case p2 (aPC a) (by omega) with ⟨q, hq, rfl⟩ | h'
    · obtain ⟨far, e1, h1⟩ := lf_eq N hN hok hra hp z_far
      refine ⟨frI (fr a p 16 q), far, ?_, ?_, hw.2.2.2.1 ▸ hR⟩
      · unfold f_X6_degrees
        rw [zl_bT (zl_isPerson_t hp hpc), zl_bT (zl_isPerson_t hq hpc), zl_b1 (sb_eq N hN hok hk hp hq)]
      · unfold f_X7_degrees
        rw [zl_bT (zl_7isPerson_t h38 hpc hp), zl_bT (zl_7isPerson_t h38 hpc hq), zl_b1 e1, zl_gd (zl_inN (show q < 16 by omega) (by decide)), zl_cl (by omega), h1 q (by omega)]
    · refine ⟨-2, z_far, ?_, ?_, hw.2.2.2.1 ▸ hR⟩
      · unfold f_X6_degrees
        rw [zl_bT (zl_isPerson_t hp hpc), zl_bF (zl_isPerson_f h' hpc)]
      · unfold f_X7_degrees
        rw [zl_bT (zl_7isPerson_t h38 hpc hp), zl_bF (zl_7isPerson_f h38 hpc h')]
  · refine ⟨-2, z_far, ?_, ?_, hw.2.2.2.1 ▸ hR⟩
    · unfold f_X6_degrees
      rw [zl_bF (zl_isPerson_f h hpc)]
    · unfold f_X7_degrees
      rw [zl_bF (zl_7isPerson_f h38 hpc h)]
theorem pr_person (c : Nat → ClassId) (n_numbers : Nat → Int32) (n_syllables : Nat → Int64) (n_syllableCount : Int32) (n_days : Nat → Int32) (n_words : Nat → Int64) (n_parents : Nat → Int32) (n_otherParents : Nat → Int32) (n_kinds : Nat → Int32) (n_personCount : Int32) (n_hopeDays : Nat → Int32) (n_hopeTenths : Nat → Int32) (n_hopeCount : Int32) (n_degreesTold : Int32) (r_text : Nat → Int32) (r_length : Int32) (s_lane : Nat → Int32) (s_size : Nat → Int32) (s_items : Nat → Nat → Int32) (i_ir : Nat → Option Nat) (g0 : va_W) (g1 : va_W) (z_row : Nat → Int32) (z_words : Nat → Int64) (z_isKept : Nat → Int32) (z_text : Nat → Int32) (z_length : Int32) (z_lanes : Nat → Int32) (z_sizes : Nat → Int32) (z_items : Nat → Int32) (z_far : Nat → Int32) (p1 : Int32) (p2 : Int32) (N : Nat) (hN : 100000 ≤ N) (hR : zRel c n_numbers n_syllables n_syllableCount n_days n_words n_parents n_otherParents n_kinds n_personCount n_hopeDays n_hopeTenths n_hopeCount n_degreesTold r_text r_length s_lane s_size s_items i_ir g0 g1 z_row z_words z_isKept z_text z_length z_lanes z_sizes z_items) : ∃ (r : Int32) (e_far : Nat → Int32), f_X6_person N n_days n_parents n_otherParents n_kinds n_personCount n_degreesTold p1 p2 = some r ∧ f_X7_person N z_row z_far p1 p2 = some (r, e_far) ∧ zRel c n_numbers n_syllables n_syllableCount n_days n_words n_parents n_otherParents n_kinds n_personCount n_hopeDays n_hopeTenths n_hopeCount n_degreesTold r_text r_length s_lane s_size s_items i_ir g0 g1 z_row z_words z_isKept z_text z_length z_lanes z_sizes z_items := by
  obtain ⟨⟨a, hok, hw, hra⟩, _⟩ := id hR
  have hpc : aPC a ≤ 16 := hok.2.2.2.2.1
  have h38 : z_row 38 = nI (aPC a) := hra.2.2.2.2.1
  have hk := zKin_of hw
  suffices hh : ∃ (r : Int32) (e_far : Nat → Int32), f_X6_person N n_days n_parents n_otherParents n_kinds n_personCount n_degreesTold p1 p2 = some r ∧ f_X7_person N z_row z_far p1 p2 = some (r, e_far) by
    obtain ⟨r, e, h1, h2⟩ := hh
    exact ⟨r, e, h1, h2, hR⟩
  rw [hw.2.2.2.1]
  rcases zl_case p1 (aPC a) (by omega) with ⟨p, hp, rfl⟩ | h
  · obtain ⟨g0, g1, g2, g3⟩ := zl_p55 hra hp
    obtain ⟨d0, _, d1, d2, d3⟩ := hw.2.2.2.2.1 p hp
    obtain ⟨m, far', e1, e2, _⟩ := near_eq N hN hok hra hk hp z_far
    unfold f_X6_person f_X7_person
    rw [zl_bT (zl_isPerson_t hp hpc), zl_bT (zl_7isPerson_t h38 hpc hp)]
    rw [show (55 : Int32) = nI 55 from rfl, show (71 : Int32) = nI 71 from rfl, show (39 : Int32) = nI 39 from rfl, nI_add 55 p, nI_add 71 p, nI_add 39 p, zl_gd (zl_inN (show 55 + p < 300 by omega) (by decide)), zl_gd (zl_inN (show 71 + p < 300 by omega) (by decide)), zl_gd (zl_inN (show 39 + p < 300 by omega) (by decide)), zl_gd (zl_inN (show p < 16 by omega) (by decide)), zl_gd (zl_inN (show p < 16 by omega) (by decide)), zl_gd (zl_inN (show p < 16 by omega) (by decide)), zl_gd (zl_inN (show p < 16 by omega) (by decide)), zl_cl (show 55 + p < 2 ^ 31 by omega), zl_cl (show 71 + p < 2 ^ 31 by omega), zl_cl (show 39 + p < 2 ^ 31 by omega), zl_cl (show p < 2 ^ 31 by omega), g0, g1, g2, d0, d1, d2, d3, zl_b1 (kd_eq N hN hok hra hp), hw.2.2.2.2.2.2.2, zl_b1 e1, zl_b2 e2]
    by_cases c0 : p2 = 0
    · exact ⟨_, _, if_pos c0, if_pos c0⟩
    rw [if_neg c0, if_neg c0]
    by_cases c1 : p2 = 1
    · exact ⟨_, _, if_pos c1, if_pos c1⟩
    rw [if_neg c1, if_neg c1]
    by_cases c2 : p2 = 2
    · exact ⟨_, _, if_pos c2, if_pos c2⟩
    rw [if_neg c2, if_neg c2]
    by_cases c3 : p2 = 3
    · exact ⟨_, _, if_pos c3, if_pos c3⟩
    rw [if_neg c3, if_neg c3]
    by_cases c4 : p2 = 4
    · exact ⟨_, _, if_pos c4, if_pos c4⟩
    rw [if_neg c4, if_neg c4]
    exact ⟨_, _, rfl, rfl⟩
  · refine ⟨-2, z_far, ?_, ?_⟩
    · unfold f_X6_person
      rw [zl_bF (zl_isPerson_f h hpc)]
    · unfold f_X7_person
      rw [zl_bF (zl_7isPerson_f h38 hpc h)]
theorem pr_as (c : Nat → ClassId) (n_numbers : Nat → Int32) (n_syllables : Nat → Int64) (n_syllableCount : Int32) (n_days : Nat → Int32) (n_words : Nat → Int64) (n_parents : Nat → Int32) (n_otherParents : Nat → Int32) (n_kinds : Nat → Int32) (n_personCount : Int32) (n_hopeDays : Nat → Int32) (n_hopeTenths : Nat → Int32) (n_hopeCount : Int32) (n_degreesTold : Int32) (r_text : Nat → Int32) (r_length : Int32) (s_lane : Nat → Int32) (s_size : Nat → Int32) (s_items : Nat → Nat → Int32) (i_ir : Nat → Option Nat) (g0 : va_W) (g1 : va_W) (z_row : Nat → Int32) (z_words : Nat → Int64) (z_isKept : Nat → Int32) (z_text : Nat → Int32) (z_length : Int32) (z_lanes : Nat → Int32) (z_sizes : Nat → Int32) (z_items : Nat → Int32) (z_far : Nat → Int32) (p1 : Int32) (p2 : Int32) (N : Nat) (hN : 100000 ≤ N) (hR : zRel c n_numbers n_syllables n_syllableCount n_days n_words n_parents n_otherParents n_kinds n_personCount n_hopeDays n_hopeTenths n_hopeCount n_degreesTold r_text r_length s_lane s_size s_items i_ir g0 g1 z_row z_words z_isKept z_text z_length z_lanes z_sizes z_items) : ∃ (r : Int32) (e_far : Nat → Int32), f_X6_as N n_parents n_otherParents n_kinds n_personCount n_degreesTold p1 p2 = some r ∧ f_X7_as N z_row z_far p1 p2 = some (r, e_far) ∧ zRel c n_numbers n_syllables n_syllableCount n_days n_words n_parents n_otherParents n_kinds n_personCount n_hopeDays n_hopeTenths n_hopeCount n_degreesTold r_text r_length s_lane s_size s_items i_ir g0 g1 z_row z_words z_isKept z_text z_length z_lanes z_sizes z_items := by
  obtain ⟨⟨a, hok, hw, hra⟩, _⟩ := id hR
  have hpc : aPC a ≤ 16 := hok.2.2.2.2.1
  have h38 : z_row 38 = nI (aPC a) := hra.2.2.2.2.1
  have hk := zKin_of hw
  suffices hh : ∃ (r : Int32) (e_far : Nat → Int32), f_X6_as N n_parents n_otherParents n_kinds n_personCount n_degreesTold p1 p2 = some r ∧ f_X7_as N z_row z_far p1 p2 = some (r, e_far) by
    obtain ⟨r, e, h1, h2⟩ := hh
    exact ⟨r, e, h1, h2, hR⟩
  rw [hw.2.2.2.1, hw.2.2.2.2.2.2.2]
  rcases zl_case p1 (aPC a) (by omega) with ⟨p, hp, rfl⟩ | h
  · obtain ⟨d0, _, d1, d2, d3⟩ := hw.2.2.2.2.1 p hp
    obtain ⟨m, far', e1, e2, e3⟩ := near_eq N hN hok hra hk hp z_far
    obtain ⟨mm, hm, rfl⟩ := ms_small e3 (fun x q => by
      have := q.2.1
      omega)
    unfold f_X6_as f_X7_as
    rw [zl_bT (zl_isPerson_t hp hpc), zl_bT (zl_7isPerson_t h38 hpc hp)]
    rcases zl_case p2 4 (by decide) with ⟨t, ht, rfl⟩ | h'
    · have ht2 : (nI t).toInt64.toInt = t := by rw [zl_wide, nI_toInt (by omega)]
      rw [if_neg (nI_pos (by omega)), if_pos (show nI t ≤ (3 : Int32) from nI_le (b := 3) (by omega) (by decide)), zl_gd (zl_inN (show p < 16 by omega) (by decide)), zl_cl (show p < 2 ^ 31 by omega), d3, zl_bT (zl_in7t (by rw [ht2]; exact ⟨by show (0 : Int) ≤ t; omega, by show (t : Int) ≤ 3; omega⟩)), zl_b1 (kd_eq N hN hok hra hp), e1, e2]
      simp only [zl_let]
      have hkk : aK a p = 0 ∨ aK a p = 1 ∨ aK a p = 2 := by
        unfold aK
        by_cases c : aP a p = 0
        · rw [if_pos c]
          exact Or.inl rfl
        · rw [if_neg c]
          by_cases c2 : aTw a p = true
          · rw [if_pos c2]
            exact Or.inr (Or.inr rfl)
          · rw [if_neg c2]
            exact Or.inr (Or.inl rfl)
      have fin : ∃ r e_far, (zz_b1 (some (nI mm)) fun r_8 => zz_b1 (f_J6_bitCount_0f7a4 N r_8) fun r_9 => some r_9) = some r ∧ (zz_b2 (some (nI mm, far')) fun r_24 t_far_25 => zz_b1 (f_X7_bits N r_24) fun r_26 => some (r_26, t_far_25)) = some (r, e_far) := ⟨_, far', by rw [zl_b1 rfl, zl_b1 (bc_eq N hm)], by rw [zl_b2 rfl, zl_b1 (bits_eq N hN hm)]⟩
      have fin0 : ∃ (r : Int32) (e_far : Nat → Int32), (some (-4 : Int32)) = some r ∧ some ((-4 : Int32), z_far) = some (r, e_far) := ⟨-4, z_far, rfl, rfl⟩
      match t, ht with
      | 0, _ =>
        rcases hkk with e | e | e <;> rw [e] <;> exact fin
      | 1, _ =>
        rcases hkk with e | e | e <;> rw [e]
        · exact fin
        · exact fin0
        · exact fin0
      | 2, _ =>
        rcases hkk with e | e | e <;> rw [e]
        · exact fin0
        · exact fin
        · exact fin
      | 3, _ =>
        rcases hkk with e | e | e <;> rw [e]
        · exact fin0
        · exact fin0
        · exact fin
    · refine ⟨-3, z_far, ?_, ?_⟩
      · by_cases c : p2 < 0
        · rw [if_pos c]
        · rw [if_neg c, if_neg (fun q => by
            rw [zl_lt0] at c
            rw [fa_le] at q
            exact h' ⟨by omega, by
              have : (3 : Int32).toInt = 3 := rfl
              omega⟩)]
      · rw [zl_bF (zl_in7f (by
          rw [zl_wide]
          intro q
          have q1 : (0 : Int) ≤ p2.toInt := q.1
          have q2 : p2.toInt ≤ 3 := q.2
          exact h' ⟨q1, by omega⟩))]
  · refine ⟨-2, z_far, ?_, ?_⟩
    · unfold f_X6_as
      rw [zl_bF (zl_isPerson_f h hpc)]
    · unfold f_X7_as
      rw [zl_bF (zl_7isPerson_f h38 hpc h)]
