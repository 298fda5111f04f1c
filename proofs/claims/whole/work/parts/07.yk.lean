/-! ===== page: the row ===== -/
def pgS (a : AW) (m : Int32) (j : Nat) : Nat := if bt m j = true then aSum a (aW a j) else 0
theorem aW_D {a : AW} (hok : zOK a) {j : Nat} (hj : j < aPC a) : zDg (zL (aW a j)) = true ∧ aW a j < 27 ^ 9 := by
  rcases (hok.2.2.2.2.2.1 j hj).2.2.1 with q | q
  · rw [q]
    exact ⟨rfl, by decide⟩
  · exact ⟨(isW_iff.mp q).2.2, (isW_iff.mp q).2.1⟩
theorem sa_loop (N : Nat) (hN : 100000 ≤ N) {a : AW} {num : Nat → Int32} {words : Nat → Int64} (hok : zOK a) (hn : ∀ i, i < 26 → num i = nI (aN a i)) (hw : ∀ p, p < aPC a → words p = lN (aW a p)) (m : Int32) (K : Int32 → Option Int32) : ∀ (d i f : Nat), i + d = aPC a → d < f → f_X5_sumOfAll_L4 N K num words (nI (aPC a)) m f (nI (fb_sm (pgS a m) i)) (nI i) = K (nI (fb_sm (pgS a m) (aPC a))) := by
  have hpc : aPC a ≤ 16 := hok.2.2.2.2.1
  intro d
  induction d with
  | zero =>
    intro i f hi hf
    obtain ⟨f', rfl⟩ : ∃ f', f = f' + 1 := ⟨f - 1, by omega⟩
    rw [f_X5_sumOfAll_L4_s, if_pos (nI_le (by omega) (by omega)), show i = aPC a by omega]
  | succ d ih =>
    intro i f hi hf
    obtain ⟨f', rfl⟩ : ∃ f', f = f' + 1 := ⟨f - 1, by omega⟩
    have hi2 : i < aPC a := by omega
    have ih2 := ih (i + 1) f' (by omega) (by omega)
    rw [fb_sm_succ] at ih2
    obtain ⟨hD, h9⟩ := aW_D hok hi2
    rw [f_X5_sumOfAll_L4_s, if_neg (nI_ge (by omega) (by omega)), zl_let, b_bitv (show i < 32 by omega)]
    cases c : bt m i with
    | false =>
      have e : pgS a m i = 0 := by
        unfold pgS
        rw [c]
        rfl
      rw [e] at ih2
      rw [if_pos (show (if false = true then (1 : Int32) else 0) = 0 from rfl)]
      dsimp only
      rw [zl_let, nI_1]
      exact ih2
    | true =>
      have e : pgS a m i = aSum a (aW a i) := by
        unfold pgS
        rw [c, if_pos rfl]
      rw [e] at ih2
      rw [if_neg (show ¬ (if true = true then (1 : Int32) else 0) = 0 by decide), zl_gd (zl_inN (show i < 16 by omega) (by decide)), zl_cl (show i < 2 ^ 31 by omega), hw i hi2, zl_b1 (sum6 N hN hn h9 hD), zl_let, nI_add]
      dsimp only
      rw [zl_let, nI_1]
      exact ih2
theorem p55 (N : Nat) (hN : 100000 ≤ N) {a : AW} {row : Nat → Int32} {w : Nat → Int64} (hok : zOK a) (hra : zRA a row w 0) (m : Int32) (K : Int32 → Int32 → Option Int32) : ∀ (d i f : Nat) (z : Bool), i + d = aPC a → d < f → ∃ z' : Bool, f_X7_page_L55 N K row w m f (nI (fb_sm (pgS a m) i)) (zBo z) (nI i) = K (nI (fb_sm (pgS a m) (aPC a))) (zBo z') ∧ (z' = true ↔ (z = true ∧ ∀ j, i ≤ j → j < aPC a → ¬ (bt m j = true ∧ aW a j = 0))) := by
  have hpc : aPC a ≤ 16 := hok.2.2.2.2.1
  have h38 : row (38 : Int32).toNatClampNeg = nI (aPC a) := hra.2.2.2.2.1
  intro d
  induction d with
  | zero =>
    intro i f z hi hf
    obtain ⟨f', rfl⟩ : ∃ f', f = f' + 1 := ⟨f - 1, by omega⟩
    rw [f_X7_page_L55_s, h38, if_pos (nI_le (by omega) (by omega)), show i = aPC a by omega]
    exact ⟨z, rfl, fun h => ⟨h, fun j h1 h2 => by omega⟩, fun h => h.1⟩
  | succ d ih =>
    intro i f z hi hf
    obtain ⟨f', rfl⟩ : ∃ f', f = f' + 1 := ⟨f - 1, by omega⟩
    have hi2 : i < aPC a := by omega
    obtain ⟨hD, h9⟩ := aW_D hok hi2
    have h63 := aW_63 hok hi2
    obtain ⟨_, _, _, g3⟩ := zl_p55 hra hi2
    have step : ∀ z1 : Bool, (z1 = true ↔ (z = true ∧ ¬ (bt m i = true ∧ aW a i = 0))) → ∃ z' : Bool, zz_b1 (f_X7_has N m (nI i)) (fun r_19 => zz_let (fun (q_24 : Int32) => zz_let (nI (fb_sm (pgS a m) i) + q_24) (fun v4_25 => zz_let (nI i + (1 : Int32)) (fun v6_26 => (f_X7_page_L55 N K row w m f' v4_25 (zBo z1) v6_26)))) (fun k_23 => (if r_19 = 0 then (k_23 (0 : Int32)) else zz_gd (zz_in (nI i) 48) (zz_b1 (f_X7_sumOf N row (w (nI i).toNatClampNeg)) (fun r_22 => (k_23 r_22)))))) = K (nI (fb_sm (pgS a m) (aPC a))) (zBo z') ∧ (z' = true ↔ (z = true ∧ ∀ j, i ≤ j → j < aPC a → ¬ (bt m j = true ∧ aW a j = 0))) := fun z1 h1 => by
      obtain ⟨z', q1, q2⟩ := ih (i + 1) f' z1 (by omega) (by omega)
      rw [fb_sm_succ] at q1
      refine ⟨z', ?_, q2.trans ?_⟩
      · rw [zl_b1 (has_eq (show i < 32 by omega)), zl_let]
        cases c : bt m i with
        | false =>
          have e : pgS a m i = 0 := by
            unfold pgS
            rw [c]
            rfl
          rw [e] at q1
          rw [if_pos (show (if false = true then (1 : Int32) else 0) = 0 from rfl)]
          dsimp only
          rw [zl_let, zl_let, nI_1, show (0 : Int32) = nI 0 from rfl, nI_add]
          exact q1
        | true =>
          have e : pgS a m i = aSum a (aW a i) := by
            unfold pgS
            rw [c, if_pos rfl]
          rw [e] at q1
          rw [if_neg (show ¬ (if true = true then (1 : Int32) else 0) = 0 by decide), zl_gd (zl_inN (show i < 48 by omega) (by decide)), zl_cl (show i < 2 ^ 31 by omega), g3, zl_b1 (sum7 N hN (zl_row0 hra) h63 hD)]
          dsimp only
          rw [zl_let, zl_let, nI_1, nI_add]
          exact q1
      · rw [h1]
        constructor
        · rintro ⟨⟨w1, w2⟩, w3⟩
          refine ⟨w1, fun j j1 j2 => ?_⟩
          by_cases e : j = i
          · rw [e]
            exact w2
          · exact w3 j (by omega) j2
        · rintro ⟨w1, w2⟩
          exact ⟨⟨w1, w2 i (Nat.le_refl _) hi2⟩, fun j j1 j2 => w2 j (by omega) j2⟩
    rw [f_X7_page_L55_s, h38, if_neg (nI_ge (by omega) (by omega)), zl_let]
    cases z with
    | false =>
      rw [if_pos (show zBo false = 0 from rfl)]
      exact step false ⟨fun q => by (cases q), fun q => q.1⟩
    | true =>
      rw [if_neg (show ¬ zBo true = 0 by decide)]
      have st2 : ∀ z1 : Bool, (z1 = true ↔ ¬ (bt m i = true ∧ aW a i = 0)) → _ := fun z1 h1 => step z1 ⟨fun q => ⟨rfl, h1.mp q⟩, fun q => h1.mpr q.2⟩
      cases c : bt m i with
      | false =>
        have s2 := st2 true ⟨fun _ q => by (rw [c] at q; cases q.1), fun _ => rfl⟩
        rw [zl_b1 (show f_X7_has N m (nI i) = some 0 from by rw [has_eq (show i < 32 by omega), c]; rfl), if_pos rfl]
        exact s2
      | true =>
        rw [zl_b1 (show f_X7_has N m (nI i) = some 1 from by rw [has_eq (show i < 32 by omega), c]; rfl), if_neg (show ¬ (1 : Int32) = 0 by decide), zl_gd (zl_inN (show i < 48 by omega) (by decide)), zl_cl (show i < 2 ^ 31 by omega), g3]
        by_cases c2 : aW a i = 0
        · have s2 := st2 false ⟨fun q => by (cases q), fun q => absurd ⟨c, c2⟩ q⟩
          rw [zl_cl (show i < 2 ^ 31 by omega), g3] at s2
          rw [if_pos ((cd_pos h63).mpr c2)]
          exact s2
        · have s2 := st2 true ⟨fun _ q => c2 q.2, fun _ => rfl⟩
          rw [zl_cl (show i < 2 ^ 31 by omega), g3] at s2
          rw [if_neg (fun q => c2 ((cd_pos h63).mp q))]
          exact s2
theorem pgm_eq {k : Nat} (hk : k ≤ 16) (p : Int32) : (p &&& ((-1 : Int32) <<< (nI k &&& 31))) = 0 ↔ (0 ≤ p.toInt ∧ p.toInt ≤ 2 ^ k - 1) := by
  have hp : (2 : Nat) ^ k ≤ 2 ^ 16 := Nat.pow_le_pow_right (by decide) hk
  have hcast : ((2 : Int) ^ k) = ((2 ^ k : Nat) : Int) := by
    rw [Int.natCast_pow]
    rfl
  have hs : ∀ i, i < 32 → bt ((-1 : Int32) <<< (nI k &&& 31)) i = decide (k ≤ i) := fun i hi => by
    rw [b_shl k (by omega) _ hi]
    by_cases c : k ≤ i
    · rw [b_m1 (i - k) (by omega), Bool.and_true]
    · rw [decide_eq_false c, Bool.false_and]
  have hbit : ∀ (n i : Nat), i < 32 → bt (nI n) i = n.testBit i := fun n i hi => by
    show (BitVec.ofNat 32 n).getLsbD i = n.testBit i
    rw [BitVec.getLsbD_ofNat, decide_eq_true hi, Bool.true_and]
  rw [b_none]
  constructor
  · intro h
    obtain ⟨n, h1, rfl⟩ := wb_of32 p
    have hn : n < 2 ^ k := by
      refine Nat.lt_pow_two_of_testBit n (fun i hi => ?_)
      by_cases c : i < 32
      · cases e : n.testBit i with
        | false => rfl
        | true => exact absurd ⟨by rw [hbit n i c]; exact e, by rw [hs i c]; exact decide_eq_true hi⟩ (h i c)
      · exact Nat.testBit_lt_two_pow (Nat.lt_of_lt_of_le h1 (Nat.pow_le_pow_right (by decide) (by omega)))
    rw [nI_toInt (by omega), hcast]
    omega
  · rintro ⟨h1, h2⟩ i hi ⟨q1, q2⟩
    rw [hcast] at h2
    obtain ⟨n, hn, rfl⟩ := nI_of (x := p) (fun q => by
      rw [zl_lt0] at q
      omega)
    rw [nI_toInt hn] at h2
    rw [hs i hi] at q2
    have hki := of_decide_eq_true q2
    rw [hbit n i hi, Nat.testBit_lt_two_pow (Nat.lt_of_lt_of_le (show n < 2 ^ k by omega) (Nat.pow_le_pow_right (by decide) hki))] at q1
    cases q1
theorem sh_pow17 : ∀ h, h < 17 → ((1 : Int32) <<< (nI h &&& 31)) = nI (2 ^ h) := by decide +kernel
theorem pr_page (c : Nat → ClassId) (n_numbers : Nat → Int32) (n_syllables : Nat → Int64) (n_syllableCount : Int32) (n_days : Nat → Int32) (n_words : Nat → Int64) (n_parents : Nat → Int32) (n_otherParents : Nat → Int32) (n_kinds : Nat → Int32) (n_personCount : Int32) (n_hopeDays : Nat → Int32) (n_hopeTenths : Nat → Int32) (n_hopeCount : Int32) (n_degreesTold : Int32) (r_text : Nat → Int32) (r_length : Int32) (s_lane : Nat → Int32) (s_size : Nat → Int32) (s_items : Nat → Nat → Int32) (i_ir : Nat → Option Nat) (g0 : va_W) (g1 : va_W) (z_row : Nat → Int32) (z_words : Nat → Int64) (z_isKept : Nat → Int32) (z_text : Nat → Int32) (z_length : Int32) (z_lanes : Nat → Int32) (z_sizes : Nat → Int32) (z_items : Nat → Int32) (p1 : Int32) (p2 : Int32) (p3 : Int32) (N : Nat) (hN : 100000 ≤ N) (hR : zRel c n_numbers n_syllables n_syllableCount n_days n_words n_parents n_otherParents n_kinds n_personCount n_hopeDays n_hopeTenths n_hopeCount n_degreesTold r_text r_length s_lane s_size s_items i_ir g0 g1 z_row z_words z_isKept z_text z_length z_lanes z_sizes z_items) : ∃ (r : Int32), f_X6_page N n_numbers n_words n_personCount p1 p2 p3 = some r ∧ f_X7_page N z_row z_words p1 p2 p3 = some r ∧ zRel c n_numbers n_syllables n_syllableCount n_days n_words n_parents n_otherParents n_kinds n_personCount n_hopeDays n_hopeTenths n_hopeCount n_degreesTold r_text r_length s_lane s_size s_items i_ir g0 g1 z_row z_words z_isKept z_text z_length z_lanes z_sizes z_items := by
  obtain ⟨⟨a, hok, hw, hra⟩, _⟩ := id hR
  have hpc : aPC a ≤ 16 := hok.2.2.2.2.1
  have h38 : z_row (38 : Int32).toNatClampNeg = nI (aPC a) := hra.2.2.2.2.1
  suffices hh : ∃ r, f_X6_page N n_numbers n_words n_personCount p1 p2 p3 = some r ∧ f_X7_page N z_row z_words p1 p2 p3 = some r by
    obtain ⟨r, h1, h2⟩ := hh
    exact ⟨r, h1, h2, hR⟩
  have hpp : (2 : Nat) ^ aPC a ≤ 2 ^ 16 := Nat.pow_le_pow_right (by decide) hpc
  have hpp0 : 0 < (2 : Nat) ^ aPC a := Nat.pow_pos (by decide)
  have hcast : ((2 : Int) ^ aPC a) = ((2 ^ aPC a : Nat) : Int) := by
    rw [Int.natCast_pow]
    rfl
  have e16 : (2 : Nat) ^ 16 = 65536 := rfl
  have eR : (((1 : Int32) <<< (nI (aPC a) &&& 31)) - (1 : Int32)).toInt64.toInt = 2 ^ aPC a - 1 := by
    rw [zl_wide, sh_pow17 _ (by omega), show (1 : Int32) = nI 1 from rfl, pk_sub_toInt (by omega) (by omega), hcast]
    rfl
  unfold f_X6_page f_X7_page
  rw [hw.2.2.2.1, h38]
  by_cases cm : 0 ≤ p1.toInt ∧ p1.toInt ≤ 2 ^ aPC a - 1
  · rw [if_pos ((pgm_eq hpc p1).mpr cm), zl_bT (zl_in7t (by
      rw [zl_wide, eR]
      exact cm))]
    rcases zl_case p2 10000 (by decide) with ⟨s, hs, rfl⟩ | h'
    · have ht2 : (nI s).toInt64.toInt = s := by rw [zl_wide, nI_toInt (by omega)]
      rw [if_neg (nI_pos (by omega)), if_neg (show ¬ (9999 : Int32) < nI s from nI_nlt (a := 9999) (by omega) (by decide)), zl_bT (zl_in7t (by rw [ht2]; exact ⟨by show (0 : Int) ≤ s; omega, by show (s : Int) ≤ 9999; omega⟩))]
      by_cases c3 : p3 = 0 ∨ p3 = 1
      · have hwo : ∀ p, p < aPC a → n_words p = lN (aW a p) := fun q hq => (hw.2.2.2.2.1 q hq).2.1
        obtain ⟨r, r1, r2⟩ := lc6_eq N hN hok hwo p1 (y := 0) (by decide)
        obtain ⟨T, hTe⟩ : ∃ T, T = fb_sm (pgS a p1) (aPC a) := ⟨_, rfl⟩
        have hT : T ≤ 50000 := by
          have h1 : fb_sm (pgS a p1) (aPC a) ≤ aPC a * 1386 := fb_sm_bound (fun j hj => by
            unfold pgS
            by_cases q : bt p1 j = true
            · rw [if_pos q]
              exact aSum_le hok (aW_63 hok hj)
            · rw [if_neg q]
              omega)
          have h2 : aPC a * 1386 ≤ 16 * 1386 := Nat.mul_le_mul_right _ hpc
          omega
        obtain ⟨z, z1, z2⟩ := p55 N hN hok hra p1 (fun (v4_27 : Int32) (v5_28 : Int32) => (if v5_28 = 0 then (some (-4 : Int32)) else zz_let (fun (v6_70 : Int32) (v7_71 : Int32) => (if p3 = 0 then (some v6_70) else (some v7_71))) (fun k_30 => f_X7_page_L152 N k_30 z_row z_words p1 (nI s) v4_27 N (0 : Int32) (-1 : Int32) (0 : Int32)))) (aPC a) 0 N true (by omega) (by omega)
        rw [zl_bT (zo_t c3), zl_bT (in01_t c3), zl_b1 (show f_X5_leastCalled N n_words (nI (aPC a)) 0 p1 = some r from r1), zl_let]
        rw [show f_X7_page_L55 N _ z_row z_words p1 N 0 1 0 = _ from z1, ← hTe]
        have hz : z = true ↔ fre a p1 0 = true := z2.trans (by
          rw [fre_iff]
          exact ⟨fun h j hj => h.2 j (by omega) hj, fun h => ⟨rfl, fun j _ hj => h j hj⟩⟩)
        by_cases cf : fre a p1 0 = true
        · have hall : ∀ j, j < aPC a → bt p1 j = true → isW 9 (aW a j) := fun j hj hb => by
            rcases (hok.2.2.2.2.2.1 j hj).2.2.1 with q | q
            · exact absurd ⟨hb, q⟩ (fre_iff.mp cf j hj)
            · exact q
          have e6 : f_X5_sumOfAll N n_numbers n_words (nI (aPC a)) p1 = some (nI T) := by
            unfold f_X5_sumOfAll
            rw [zl_let, hTe]
            exact sa_loop N hN hok hw.1 hwo p1 (fun v => some v) (aPC a) 0 N (by omega) (by omega)
          have hmis : (nI s - nI T).toInt = (s : Int) - T := pk_sub_toInt (by omega) (by omega)
          obtain ⟨a1, a2⟩ := p69 N hN hok hw.1 hwo hmis (by omega) (by omega) p1 p3 hall (fun (v5_24 : Int32) => (if p3 = 0 then (some v5_24) else (some (-1 : Int32)))) (aPC a) 0 N 0 (by omega) (by omega)
          obtain ⟨v7, b1, _, b3⟩ := p152 N hN hok hra p1 hT (show s ≤ 9999 by omega) (fun (v6_70 : Int32) (v7_71 : Int32) => (if p3 = 0 then (some v6_70) else (some v7_71))) (aPC a) 0 N 0 (-1) (by omega) (by omega)
          rw [if_pos (r2.mpr cf), zl_b1 e6, zl_let, zl_let, hz.mpr cf, if_neg (show ¬ zBo true = 0 by decide), zl_let]
          rw [show f_X7_page_L152 N _ z_row z_words p1 (nI s) (nI T) N 0 (-1) 0 = _ from b1]
          by_cases c4 : p3 = 0
          · have c5 : ¬ p3 = 1 := fun e => by
              rw [c4] at e
              cases e
            rw [show f_X6_page_L69 N _ n_numbers n_words (nI (aPC a)) p1 p3 (nI s - nI T) N 0 0 = _ from a1 c5, if_pos c4, if_pos c4]
            exact ⟨_, rfl, rfl⟩
          · have c5 : p3 = 1 := by
              rcases c3 with c | c
              · exact absurd c c4
              · exact c
            rw [if_neg c4]
            rcases a2 c5 with ⟨w1, w2⟩ | ⟨j, j1, j2, j3, j4, j5⟩
            · rw [show f_X6_page_L69 N _ n_numbers n_words (nI (aPC a)) p1 p3 (nI s - nI T) N 0 0 = _ from w2, if_neg c4]
              rcases b3 rfl with ⟨x1, _⟩ | ⟨k, _, k2, k3, _⟩
              · rw [x1]
                exact ⟨_, rfl, rfl⟩
              · have := w1 k (by omega) k2
                omega
            · rw [show f_X6_page_L69 N _ n_numbers n_words (nI (aPC a)) p1 p3 (nI s - nI T) N 0 0 = _ from j5]
              rcases b3 rfl with ⟨_, x2⟩ | ⟨k, k1, k2, k3, k4, k5⟩
              · have := x2 j j1 j2
                omega
              · have ej : j = k := by
                  have h1 : ¬ j < k := fun h => by
                    have := k4 j j1 h
                    omega
                  have h2 : ¬ k < j := fun h => by
                    have := j4 k k1 h
                    omega
                  omega
                rw [k5, ej]
                exact ⟨_, rfl, rfl⟩
        · have hz0 : z = false := by
            cases hzz : z with
            | false => rfl
            | true => exact absurd (hz.mp hzz) cf
          rw [if_neg (fun q => cf (r2.mp q)), hz0, if_pos (show zBo false = 0 from rfl)]
          exact ⟨_, rfl, rfl⟩
      · rw [zl_bF (zo_f c3), zl_bF (in01_f c3)]
        exact ⟨_, rfl, rfl⟩
    · rw [zl_bF (zl_in7f (by
          rw [zl_wide]
          intro q
          have q1 : (0 : Int) ≤ p2.toInt := q.1
          have q2 : p2.toInt ≤ 9999 := q.2
          exact h' ⟨q1, by omega⟩))]
      by_cases c : p2 < 0
      · rw [if_pos c]
        exact ⟨_, rfl, rfl⟩
      · rw [if_neg c, if_pos (by
            rw [zl_lt0] at c
            rw [fa_lt]
            have e9 : (9999 : Int32).toInt = 9999 := rfl
            refine Classical.byContradiction (fun q => h' ⟨by omega, by omega⟩))]
        exact ⟨_, rfl, rfl⟩
  · rw [if_neg (fun q => cm ((pgm_eq hpc p1).mp q)), zl_bF (zl_in7f (by
      rw [zl_wide, eR]
      exact cm))]
    exact ⟨_, rfl, rfl⟩
