/-! ===== old names: the letters, the words ===== -/
theorem tm6g (N : Nat) (hN : 100000 ≤ N) {L : Nat} (hL : L < 26) {n : Nat} (h9 : n < 27 ^ 9) (hD : zDg (zL n) = true) : f_X6_timesIn N (lN n) (nI L) = some (nI (tmN n L)) := by
  unfold f_X6_timesIn
  rw [zl_let]
  have := tm6_loop N hL (fun v => some v) 9 0 N n 0 (by omega) (by omega) h9 (by rw [p27] at h9; omega) hD
  rw [Nat.zero_add] at this
  exact this
theorem tmg_le {n L : Nat} (h9 : n < 27 ^ 9) : tmN n L ≤ 9 := Nat.le_trans List.count_le_length (zL_lt h9 (by rw [p27] at h9; omega))
def inO (a : AW) (l : Nat) : Prop := ∃ q, q < aPC a ∧ 0 < tmN (aW a q) l
theorem ia_loop (N : Nat) (hN : 100000 ≤ N) {a : AW} {words : Nat → Int64} (hok : zOK a) (hw : ∀ p, p < aPC a → words p = lN (aW a p)) {l : Nat} (hl : l < 26) : ∀ (d i f : Nat), i + d = aPC a → d < f → ∃ z : Bool, f_X1_isInAny_L2 N (some 0) words (nI (aPC a)) (nI l) f (nI i) = some (zBo z) ∧ (z = true ↔ ∃ q, i ≤ q ∧ q < aPC a ∧ 0 < tmN (aW a q) l) := by
  have hpc : aPC a ≤ 16 := hok.2.2.2.2.1
  intro d
  induction d with
  | zero =>
    intro i f hi hf
    obtain ⟨f, rfl⟩ : ∃ g, f = g + 1 := ⟨f - 1, by omega⟩
    rw [f_X1_isInAny_L2_s, if_pos (nI_le (by omega) (by omega))]
    exact ⟨false, rfl, fun q => by (cases q), fun ⟨q, q1, q2, _⟩ => by omega⟩
  | succ d ih =>
    intro i f hi hf
    obtain ⟨f, rfl⟩ : ∃ g, f = g + 1 := ⟨f - 1, by omega⟩
    obtain ⟨hD, h9⟩ := aW_D hok (show i < aPC a by omega)
    have hle := tmg_le (L := l) h9
    rw [f_X1_isInAny_L2_s, if_neg (nI_ge (by omega) (by omega)), zl_gd (zl_inN (show i < 16 by omega) (by decide)), zl_cl (show i < 2 ^ 31 by omega), hw i (by omega), zl_b1 (tm6g N hN hl h9 hD)]
    by_cases c : 0 < tmN (aW a i) l
    · rw [if_neg (nI_nle c (by omega))]
      exact ⟨true, rfl, fun _ => ⟨i, Nat.le_refl _, by omega, c⟩, fun _ => rfl⟩
    · rw [if_pos (show nI (tmN (aW a i) l) ≤ 0 by rw [show tmN (aW a i) l = 0 by omega]; decide), zl_let, nI_1]
      obtain ⟨z, z1, z2⟩ := ih (i + 1) f (by omega) (by omega)
      refine ⟨z, z1, z2.trans ⟨fun ⟨q, q1, q2⟩ => ⟨q, by omega, q2⟩, fun ⟨q, q1, q2, q3⟩ => ⟨q, ?_, q2, q3⟩⟩⟩
      by_cases e : q = i
      · rw [e] at q3
        exact absurd q3 c
      · omega
theorem ia_eq (N : Nat) (hN : 100000 ≤ N) {a : AW} {words : Nat → Int64} (hok : zOK a) (hw : ∀ p, p < aPC a → words p = lN (aW a p)) {l : Nat} (hl : l < 26) : ∃ z : Bool, f_X1_isInAny N words (nI (aPC a)) (nI l) = some (zBo z) ∧ (z = true ↔ inO a l) := by
  have hpc : aPC a ≤ 16 := hok.2.2.2.2.1
  unfold f_X1_isInAny
  rw [zl_let]
  obtain ⟨z, z1, z2⟩ := ia_loop N hN hok hw hl (aPC a) 0 N (by omega) (by omega)
  exact ⟨z, z1, z2.trans ⟨fun ⟨q, _, q2⟩ => ⟨q, q2⟩, fun ⟨q, q2⟩ => ⟨q, by omega, q2⟩⟩⟩
theorem tmN_mem {n l : Nat} : 0 < tmN n l ↔ (l + 1) ∈ zL n := List.count_pos_iff
theorem u22 (N : Nat) (K) : ∀ (d f m : Nat) (v : Int32), (zL m).length ≤ d → d < f → m < 2 ^ 63 → zDg (zL m) = true → ∃ v', f_X7_layUsed_L22 N K f v (lN m) = K v' ∧ ∀ l, l < 26 → (bt v' l = true ↔ (bt v l = true ∨ (l + 1) ∈ zL m)) := by
  intro d
  induction d with
  | zero =>
    intro f m v hd hf h2 _
    obtain ⟨f', rfl⟩ : ∃ f', f = f' + 1 := ⟨f - 1, by omega⟩
    have : m = 0 := by
      by_cases c : m = 0
      · exact c
      · rw [zL_s c h2, List.length_cons] at hd
        omega
    rw [this, f_X7_layUsed_L22_s, if_pos (show lN 0 ≤ (0 : Int64) by decide)]
    refine ⟨v, rfl, fun l _ => ⟨Or.inl, ?_⟩⟩
    rintro (q | q)
    · exact q
    · cases q
  | succ d ih =>
    intro f m v hd hf h2 hD
    obtain ⟨f', rfl⟩ : ∃ f', f = f' + 1 := ⟨f - 1, by omega⟩
    rw [f_X7_layUsed_L22_s]
    by_cases c : m = 0
    · rw [if_pos ((cd_pos h2).mpr c), c]
      refine ⟨v, rfl, fun l _ => ⟨Or.inl, ?_⟩⟩
      rintro (q | q)
      · exact q
      · cases q
    · rw [zL_s c h2, List.length_cons] at hd
      rw [zDg_s c h2, Bool.and_eq_true, Bool.not_eq_true', beq_eq_false_iff_ne] at hD
      have e : ((lN m - lN m / (27 : Int64) * (27 : Int64)).toInt32) - (1 : Int32) = nI (m % 27 - 1) := by
        rw [cd_rem h2, lN_i, show (1 : Int32) = nI 1 from rfl, pk_sub (by omega)]
      rw [if_neg (fun q => c ((cd_pos h2).mp q)), e, zl_let, zl_let, cd_div h2]
      obtain ⟨v', q1, q2⟩ := ih f' (m / 27) (v ||| ((1 : Int32) <<< (nI (m % 27 - 1) &&& 31))) (by omega) (by omega) (by omega) hD.2
      refine ⟨v', q1, fun l hl => ?_⟩
      rw [q2 l hl, b_or, Bool.or_eq_true, b_pow (by omega) (by omega), zL_s c h2, List.mem_cons]
      constructor
      · rintro ((q | q) | q)
        · exact Or.inl q
        · exact Or.inr (Or.inl (by omega))
        · exact Or.inr (Or.inr q)
      · rintro (q | q | q)
        · exact Or.inl (Or.inl q)
        · exact Or.inl (Or.inr (by omega))
        · exact Or.inr q
theorem u4 (N : Nat) (hN : 100000 ≤ N) {a : AW} {row : Nat → Int32} {w : Nat → Int64} (hok : zOK a) (hra : zRA a row w 0) (K) : ∀ (d i f : Nat) (v : Int32), i + d = aPC a → d < f → (∀ l, l < 26 → (bt v l = true ↔ ∃ q, q < i ∧ 0 < tmN (aW a q) l)) → ∃ v', f_X7_layUsed_L4 N K row w f v (nI i) = K v' ∧ ∀ l, l < 26 → (bt v' l = true ↔ inO a l) := by
  have hpc : aPC a ≤ 16 := hok.2.2.2.2.1
  have h38 : row (38 : Int32).toNatClampNeg = nI (aPC a) := hra.2.2.2.2.1
  intro d
  induction d with
  | zero =>
    intro i f v hi hf h
    obtain ⟨f, rfl⟩ : ∃ g, f = g + 1 := ⟨f - 1, by omega⟩
    rw [f_X7_layUsed_L4_s, h38, if_pos (nI_le (by omega) (by omega))]
    rw [show i = aPC a by omega] at h
    exact ⟨v, rfl, h⟩
  | succ d ih =>
    intro i f v hi hf h
    obtain ⟨f, rfl⟩ : ∃ g, f = g + 1 := ⟨f - 1, by omega⟩
    have hi2 : i < aPC a := by omega
    obtain ⟨_, _, _, g3⟩ := zl_p55 hra hi2
    obtain ⟨hD, h9⟩ := aW_D hok hi2
    have h63 := aW_63 hok hi2
    rw [f_X7_layUsed_L4_s, h38, if_neg (nI_ge (by omega) (by omega)), zl_gd (zl_inN (show i < 48 by omega) (by decide)), zl_let, zl_let, zl_cl (show i < 2 ^ 31 by omega), g3]
    obtain ⟨v1, q1, q2⟩ := u22 N (fun (v1_13 : Int32) => zz_let (nI i + (1 : Int32)) (fun v2_14 => (f_X7_layUsed_L4 N K row w f v1_13 v2_14))) 14 N (aW a i) v (zL_14 h63) (by omega) h63 hD
    rw [q1, zl_let, nI_1]
    refine ih (i + 1) f v1 (by omega) (by omega) (fun l hl => ?_)
    rw [q2 l hl, h l hl, ← tmN_mem]
    constructor
    · rintro (⟨q, r1, r2⟩ | r)
      · exact ⟨q, by omega, r2⟩
      · exact ⟨i, by omega, r⟩
    · rintro ⟨q, r1, r2⟩
      by_cases e : q = i
      · rw [e] at r2
        exact Or.inr r2
      · exact Or.inl ⟨q, by omega, r2⟩
def ltO (a : AW) (k l : Nat) (lt : Nat → Nat) : Prop := k ≤ 5 ∧ (∀ i, i < k → lt i < l) ∧ (∀ i j, i < j → j < k → lt i ≠ lt j) ∧ ∀ x, x < l → (inO a x ↔ ∃ i, i < k ∧ lt i = x)
theorem pl_loop (N : Nat) (hN : 100000 ≤ N) {a : AW} {words : Nat → Int64} (hok : zOK a) (hw : ∀ p, p < aPC a → words p = lN (aW a p)) {v : Int32} (hv : ∀ l, l < 26 → (bt v l = true ↔ inO a l)) (K6) (K7) : ∀ (d l f f' c : Nat) (letters used : Nat → Int32) (lt : Nat → Nat), l + d = 26 → d < f → d < f' → ltO a c l lt → (∀ i, i < c → letters i = nI (lt i) ∧ used i = nI (lt i)) → (∃ letters' used' : Nat → Int32, ∃ c6 c7, f_X1_findLetters_L7 N K6 words (nI (aPC a)) f (nI l) letters (nI c) = some (0, letters', c6) ∧ f_X7_layUsed_L63 N K7 v f' (nI l) used (nI c) = some (0, used', c7)) ∨ ∃ (letters' used' : Nat → Int32) (k : Nat) (lt' : Nat → Nat), f_X1_findLetters_L7 N K6 words (nI (aPC a)) f (nI l) letters (nI c) = K6 letters' (nI k) ∧ f_X7_layUsed_L63 N K7 v f' (nI l) used (nI c) = K7 used' (nI k) ∧ ltO a k 26 lt' ∧ ∀ i, i < k → letters' i = nI (lt' i) ∧ used' i = nI (lt' i) := by
  intro d
  induction d with
  | zero =>
    intro l f f' c letters used lt hl hf hf' h1 h2
    obtain ⟨f, rfl⟩ : ∃ g, f = g + 1 := ⟨f - 1, by omega⟩
    obtain ⟨f', rfl⟩ : ∃ g, f' = g + 1 := ⟨f' - 1, by omega⟩
    have hl : l = 26 := by omega
    subst hl
    rw [f_X1_findLetters_L7_s, f_X7_layUsed_L63_s, if_pos (show (26 : Int32) ≤ nI 26 by decide), if_pos (show (26 : Int32) ≤ nI 26 by decide)]
    exact Or.inr ⟨letters, used, c, lt, rfl, rfl, h1, h2⟩
  | succ d ih =>
    intro l f f' c letters used lt hl hf hf' h1 h2
    obtain ⟨f, rfl⟩ : ∃ g, f = g + 1 := ⟨f - 1, by omega⟩
    obtain ⟨f', rfl⟩ : ∃ g, f' = g + 1 := ⟨f' - 1, by omega⟩
    obtain ⟨z, z1, z2⟩ := ia_eq N hN hok hw (show l < 26 by omega)
    have hz : bt v l = z := by
      have h := (hv l (by omega)).trans z2.symm
      cases hb : bt v l <;> cases z
      · rfl
      · exact absurd (h.mpr rfl) (by rw [hb]; decide)
      · exact absurd (h.mp hb) (by decide)
      · rfl
    obtain ⟨g1, g2, g3, g4⟩ := h1
    rw [f_X1_findLetters_L7_s, f_X7_layUsed_L63_s, if_neg (show ¬ (26 : Int32) ≤ nI l from nI_ge (b := 26) (by omega) (by decide)), if_neg (show ¬ (26 : Int32) ≤ nI l from nI_ge (b := 26) (by omega) (by decide)), zl_b1 z1, zl_b1 (has_eq (show l < 32 by omega)), hz]
    simp only [zl_let]
    cases z with
    | false =>
      rw [if_pos (show zBo false = 0 from rfl), if_pos (show (if false = true then (1 : Int32) else 0) = 0 from rfl)]
      rw [nI_1]
      refine ih (l + 1) f f' c letters used lt (by omega) (by omega) (by omega) ⟨g1, fun i hi => by have := g2 i hi; omega, g3, fun x hx => ?_⟩ h2
      by_cases e : x = l
      · rw [e]
        constructor
        · intro q
          exact absurd (z2.mpr q) (by decide)
        · rintro ⟨i, i1, i2⟩
          have := g2 i i1
          omega
      · exact g4 x (by omega)
    | true =>
      rw [if_neg (show ¬ zBo true = 0 by decide), if_neg (show ¬ (if true = true then (1 : Int32) else 0) = 0 by decide)]
      by_cases c5 : c = 5
      · rw [if_neg (show ¬ nI c < (5 : Int32) by rw [c5]; decide), if_pos (show nI c = (5 : Int32) by rw [c5]; rfl)]
        exact Or.inl ⟨_, _, _, _, rfl, rfl⟩
      · rw [if_pos (show nI c < (5 : Int32) from nI_lt (b := 5) (by omega) (by decide)), if_neg (show ¬ nI c = (5 : Int32) from fun q => c5 ((nI_eq (b := 5) (by omega) (by decide)).mp q)), zl_gd (zl_inN (show c < 5 by omega) (by decide)), zl_gd (zl_inN (show c < 5 by omega) (by decide)), nI_1, nI_1, zl_cl (show c < 2 ^ 31 by omega)]
        refine ih (l + 1) f f' (c + 1) _ _ (nup lt c l) (by omega) (by omega) (by omega) ⟨by omega, fun i hi => ?_, fun i j hij hj => ?_, fun x hx => ?_⟩ (fun i hi => ?_)
        · by_cases e : i = c
          · rw [e, nup_s]
            omega
          · rw [nup_n e]
            have := g2 i (by omega)
            omega
        · by_cases e : j = c
          · rw [e, nup_s, nup_n (by omega)]
            have := g2 i (by omega)
            omega
          · rw [nup_n e, nup_n (by omega)]
            exact g3 i j hij (by omega)
        · by_cases e : x = l
          · rw [e]
            exact ⟨fun _ => ⟨c, by omega, nup_s⟩, fun _ => z2.mp rfl⟩
          · rw [g4 x (by omega)]
            constructor
            · rintro ⟨i, i1, i2⟩
              exact ⟨i, by omega, by rw [nup_n (by omega)]; exact i2⟩
            · rintro ⟨i, i1, i2⟩
              by_cases e2 : i = c
              · rw [e2, nup_s] at i2
                omega
              · rw [nup_n e2] at i2
                exact ⟨i, by omega, i2⟩
        · by_cases e : i = c
          · rw [e, pk_us, pk_us, nup_s]
            exact ⟨rfl, rfl⟩
          · rw [pk_un e, pk_un e, nup_n e]
            exact h2 i (by omega)
/-! the letters of a word, by places of letters -/
theorem ls_sum {k : Nat} {lt : Nat → Nat} (hd : ∀ i j, i < j → j < k → lt i ≠ lt j) (F : Nat → Nat) : ∀ L : List Nat, (∀ x ∈ L, ∃ i, i < k ∧ lt i + 1 = x) → (L.map (fun x => F (x - 1))).sum = fb_sm (fun i => L.count (lt i + 1) * F (lt i)) k := by
  intro L
  induction L with
  | nil =>
    intro _
    have e : fb_sm (fun i => ([] : List Nat).count (lt i + 1) * F (lt i)) k = fb_sm (fun _ => 0) k := fb_sm_cong (fun i _ => by rw [List.count_nil, Nat.zero_mul])
    rw [e, fb_sm_const, Nat.mul_zero]
    rfl
  | cons x L ih =>
    intro h
    obtain ⟨j, j1, j2⟩ := h x List.mem_cons_self
    have ih2 := ih (fun y hy => h y (List.mem_cons_of_mem _ hy))
    have e : fb_sm (fun i => (x :: L).count (lt i + 1) * F (lt i)) k = fb_sm (fun i => if i = j then (L.count (lt j + 1) + 1) * F (lt j) else L.count (lt i + 1) * F (lt i)) k := fb_sm_cong (fun i hi => by
      rw [List.count_cons]
      by_cases c : i = j
      · rw [if_pos c, c, if_pos (beq_iff_eq.mpr j2.symm)]
      · rw [if_neg c, if_neg (fun q => by
          have q := beq_iff_eq.mp q
          have e2 : lt i = lt j := by omega
          rcases Nat.lt_or_gt_of_ne c with r | r
          · exact hd i j r j1 e2
          · exact hd j i r hi e2.symm), Nat.add_zero])
    have e3 := fb_sm_upd (fun i => L.count (lt i + 1) * F (lt i)) ((L.count (lt j + 1) + 1) * F (lt j)) j1
    have e4 : (L.count (lt j + 1) + 1) * F (lt j) = L.count (lt j + 1) * F (lt j) + F (lt j) := Nat.succ_mul _ _
    rw [e, List.map_cons, List.sum_cons, ih2, ← j2, Nat.add_sub_cancel]
    omega
theorem fig_loop (N : Nat) {n j : Nat} (hn : 1 ≤ n) (hn9 : n ≤ 9) (K : Int32 → Option Int32) : ∀ (d i f v : Nat), i = j + d → d < f → v < 2 ^ 31 → i < 10 → f_X7_figure_L11 N K (nI n) (nI j) f (nI v) (nI i) = K (nI (v / n ^ d)) := by
  intro d
  induction d with
  | zero =>
    intro i f v hi hf hv _
    obtain ⟨f, rfl⟩ : ∃ g, f = g + 1 := ⟨f - 1, by omega⟩
    rw [f_X7_figure_L11_s, if_pos (nI_le (by omega) (by omega)), Nat.pow_zero, Nat.div_one]
  | succ d ih =>
    intro i f v hi hf hv hi2
    obtain ⟨f, rfl⟩ : ∃ g, f = g + 1 := ⟨f - 1, by omega⟩
    obtain ⟨i', rfl⟩ : ∃ i', i = i' + 1 := ⟨i - 1, by omega⟩
    rw [f_X7_figure_L11_s, if_neg (nI_ge (by omega) (by omega)), zl_gd (show zz_nz (nI n) = true from decide_eq_true (nI_ne0 (by omega) (by omega))), zl_let, zl_let, nI_dec, pk_div hv (by omega) (by omega), ih i' f (v / n) (by omega) (by omega) (Nat.lt_of_le_of_lt (Nat.div_le_self _ _) hv) (by omega), Nat.div_div_eq_div_mul, ← Nat.pow_succ']
theorem fig_eq (N : Nat) (hN : 100000 ≤ N) {n k j v : Nat} (hn : 1 ≤ n) (hn9 : n ≤ 9) (hk : k ≤ 5) (hj : j < k) (hv : v < 2 ^ 31) : f_X7_figure N (nI k) (nI v) (nI n) (nI j) = some (nI (dgO n k v j)) := by
  unfold f_X7_figure
  rw [show (1 : Int32) = nI 1 from rfl, pk_sub (show 1 ≤ k by omega), zl_let, zl_let, fig_loop N hn hn9 _ (k - 1 - j) (k - 1) N v (by omega) (by omega) hv (by omega), zl_gd (show zz_nz (nI n) = true from decide_eq_true (nI_ne0 (by omega) (by omega))), pk_rem (Nat.lt_of_le_of_lt (Nat.div_le_self _ _) hv) (by omega) (by omega), nI_add]
  rfl
theorem t110 (N : Nat) (hN : 100000 ≤ N) {n k v : Nat} {used : Nat → Int32} {lt : Nat → Nat} (hn : 1 ≤ n) (hn9 : n ≤ 9) (hk : k ≤ 5) (hv : v < 2 ^ 31) (hu : ∀ i, i < k → used i = nI (lt i) ∧ lt i < 26) (hd : ∀ i j, i < j → j < k → lt i ≠ lt j) (K) : ∀ (d i f : Nat) (trial : Nat → Int32), i + d = k → d < f → (∀ j, j < i → trial (lt j) = nI (dgO n k v j)) → ∃ trial', f_X7_old_L110 N K (nI n) used (nI k) (nI v) f (nI i) trial = K trial' ∧ ∀ j, j < k → trial' (lt j) = nI (dgO n k v j) := by
  intro d
  induction d with
  | zero =>
    intro i f trial hi hf h
    obtain ⟨f, rfl⟩ : ∃ g, f = g + 1 := ⟨f - 1, by omega⟩
    rw [f_X7_old_L110_s, if_pos (nI_le (by omega) (by omega))]
    exact ⟨trial, rfl, fun j hj => h j (by omega)⟩
  | succ d ih =>
    intro i f trial hi hf h
    obtain ⟨f, rfl⟩ : ∃ g, f = g + 1 := ⟨f - 1, by omega⟩
    obtain ⟨u1, u2⟩ := hu i (by omega)
    rw [f_X7_old_L110_s, if_neg (nI_ge (by omega) (by omega)), zl_gd (zl_inN (show i < 5 by omega) (by decide)), zl_b1 (fig_eq N hN hn hn9 hk (show i < k by omega) hv), zl_cl (show i < 2 ^ 31 by omega), u1, zl_gd (zl_inN u2 (by decide)), zl_let, zl_let, nI_1, zl_cl (show lt i < 2 ^ 31 by omega)]
    refine ih (i + 1) f _ (by omega) (by omega) (fun j hj => ?_)
    by_cases e : j = i
    · rw [e, pk_us]
    · rw [pk_un (hd j i (by omega) (by omega))]
      exact h j (by omega)
theorem a25 (N : Nat) {trial : Nat → Int32} {F : Nat → Nat} (K : Int32 → Option Int32) : ∀ (d f m s : Nat), (zL m).length ≤ d → d < f → m < 2 ^ 63 → zDg (zL m) = true → (∀ x ∈ zL m, trial (x - 1) = nI (F (x - 1))) → f_X7_allAdd_L25 N K trial f (nI s) (lN m) = K (nI (s + ((zL m).map (fun x => F (x - 1))).sum)) := by
  intro d
  induction d with
  | zero =>
    intro f m s hd hf h2 _ _
    obtain ⟨f', rfl⟩ : ∃ f', f = f' + 1 := ⟨f - 1, by omega⟩
    have : m = 0 := by
      by_cases c : m = 0
      · exact c
      · rw [zL_s c h2, List.length_cons] at hd
        omega
    rw [this, f_X7_allAdd_L25_s, if_pos (show lN 0 ≤ (0 : Int64) by decide)]
    rfl
  | succ d ih =>
    intro f m s hd hf h2 hD ht
    obtain ⟨f', rfl⟩ : ∃ f', f = f' + 1 := ⟨f - 1, by omega⟩
    rw [f_X7_allAdd_L25_s]
    by_cases c : m = 0
    · rw [if_pos ((cd_pos h2).mpr c), c]
      rfl
    · rw [zL_s c h2, List.length_cons] at hd
      rw [zDg_s c h2, Bool.and_eq_true, Bool.not_eq_true', beq_eq_false_iff_ne] at hD
      rw [zL_s c h2] at ht ⊢
      have e : ((lN m - lN m / (27 : Int64) * (27 : Int64)).toInt32) - (1 : Int32) = nI (m % 27 - 1) := by
        rw [cd_rem h2, lN_i, show (1 : Int32) = nI 1 from rfl, pk_sub (by omega)]
      rw [if_neg (fun q => c ((cd_pos h2).mp q)), e, zl_gd (zl_inN (show m % 27 - 1 < 26 by omega) (by decide)), zl_let, zl_let, cd_div h2, zl_cl (by omega), ht (m % 27) List.mem_cons_self, nI_add, ih f' (m / 27) _ (by omega) (by omega) (by omega) hD.2 (fun x hx => ht x (List.mem_cons_of_mem _ hx)), List.map_cons, List.sum_cons, Nat.add_assoc]
theorem aa_loop (N : Nat) (hN : 100000 ≤ N) {a : AW} {row trial : Nat → Int32} {w : Nat → Int64} {F : Nat → Nat} (hok : zOK a) (hra : zRA a row w 0) (ht : ∀ q, q < aPC a → ∀ x ∈ zL (aW a q), trial (x - 1) = nI (F (x - 1)) ∧ F (x - 1) ≤ 9) (K : Int32 → Option Int32) : ∀ (d i f : Nat) (z : Bool), i + d = aPC a → d < f → ∃ z' : Bool, f_X7_allAdd_L4 N K row w trial f (zBo z) (nI i) = K (zBo z') ∧ (z' = true ↔ (z = true ∧ ∀ q, i ≤ q → q < aPC a → aW a q ≠ 0 → ((zL (aW a q)).map (fun x => F (x - 1))).sum = aD a q)) := by
  have hpc : aPC a ≤ 16 := hok.2.2.2.2.1
  have h38 : row (38 : Int32).toNatClampNeg = nI (aPC a) := hra.2.2.2.2.1
  intro d
  induction d with
  | zero =>
    intro i f z hi hf
    obtain ⟨f, rfl⟩ : ∃ g, f = g + 1 := ⟨f - 1, by omega⟩
    rw [f_X7_allAdd_L4_s, h38, if_pos (nI_le (by omega) (by omega))]
    exact ⟨z, rfl, fun h => ⟨h, fun q h1 h2 => by omega⟩, fun h => h.1⟩
  | succ d ih =>
    intro i f z hi hf
    obtain ⟨f, rfl⟩ : ∃ g, f = g + 1 := ⟨f - 1, by omega⟩
    have hi2 : i < aPC a := by omega
    obtain ⟨g0, _, _, g3⟩ := zl_p55 hra hi2
    obtain ⟨hD, h9⟩ := aW_D hok hi2
    have h63 := aW_63 hok hi2
    have hd := hok.2.2.2.2.2.1 i hi2
    have hsum : ((zL (aW a i)).map (fun x => F (x - 1))).sum ≤ 1000 := by
      have h1 : ∀ L : List Nat, (∀ x ∈ L, F (x - 1) ≤ 9) → (L.map (fun x => F (x - 1))).sum ≤ 9 * L.length := by
        intro L
        induction L with
        | nil =>
          intro _
          exact Nat.le_refl 0
        | cons x L ihL =>
          intro hx
          have a1 := ihL (fun y hy => hx y (List.mem_cons_of_mem _ hy))
          have a2 := hx x List.mem_cons_self
          rw [List.map_cons, List.sum_cons, List.length_cons]
          omega
      have h2 := h1 (zL (aW a i)) (fun x hx => (ht i hi2 x hx).2)
      have h3 := zL_14 h63
      omega
    have step : ∀ z1 : Bool, (z1 = true ↔ (z = true ∧ (aW a i ≠ 0 → ((zL (aW a i)).map (fun x => F (x - 1))).sum = aD a i))) → ∃ z' : Bool, f_X7_allAdd_L4 N K row w trial f (zBo z1) (nI (i + 1)) = K (zBo z') ∧ (z' = true ↔ (z = true ∧ ∀ q, i ≤ q → q < aPC a → aW a q ≠ 0 → ((zL (aW a q)).map (fun x => F (x - 1))).sum = aD a q)) := fun z1 h1 => by
      obtain ⟨z', q1, q2⟩ := ih (i + 1) f z1 (by omega) (by omega)
      refine ⟨z', q1, q2.trans ?_⟩
      rw [h1]
      constructor
      · rintro ⟨⟨w1, w2⟩, w3⟩
        refine ⟨w1, fun j j1 j2 => ?_⟩
        by_cases e : j = i
        · rw [e]
          exact w2
        · exact w3 j (by omega) j2
      · rintro ⟨w1, w2⟩
        exact ⟨⟨w1, w2 i (Nat.le_refl _) hi2⟩, fun j j1 j2 => w2 j (by omega) j2⟩
    rw [f_X7_allAdd_L4_s, h38, if_neg (nI_ge (by omega) (by omega)), zl_gd (zl_inN (show i < 48 by omega) (by decide)), zl_let, zl_let, zl_cl (show i < 2 ^ 31 by omega), g3]
    have e25 := a25 N (trial := trial) (F := F) (fun (v3_14 : Int32) => zz_let (fun (q_20 : Int32) => zz_let (nI i + (1 : Int32)) (fun v2_21 => (f_X7_allAdd_L4 N K row w trial f q_20 v2_21))) (fun k_19 => (if zBo z = 0 then (k_19 (0 : Int32)) else (if lN (aW a i) = (0 : Int64) then (k_19 (1 : Int32)) else zz_gd (zz_in ((39 : Int32) + nI i) 300) ((if v3_14 = (row ((39 : Int32) + nI i).toNatClampNeg) then (k_19 (1 : Int32)) else (k_19 (0 : Int32)))))))) 14 N (aW a i) 0 (zL_14 h63) (by omega) h63 hD (fun x hx => (ht i hi2 x hx).1)
    rw [show f_X7_allAdd_L25 N _ trial N 0 (lN (aW a i)) = _ from e25, zl_let, Nat.zero_add, show (39 : Int32) = nI 39 from rfl, nI_add, zl_gd (zl_inN (show 39 + i < 300 by omega) (by decide)), zl_cl (show 39 + i < 2 ^ 31 by omega), g0]
    cases z with
    | false =>
      rw [if_pos (show zBo false = 0 from rfl)]
      dsimp only
      rw [zl_let, nI_1]
      exact step false ⟨fun q => by (cases q), fun q => q.1⟩
    | true =>
      rw [if_neg (show ¬ zBo true = 0 by decide)]
      by_cases c0 : aW a i = 0
      · rw [if_pos ((cd_0 h63).mpr c0)]
        dsimp only
        rw [zl_let, nI_1]
        exact step true ⟨fun _ => ⟨rfl, fun q => absurd c0 q⟩, fun _ => rfl⟩
      · rw [if_neg (fun q => c0 ((cd_0 h63).mp q))]
        by_cases c1 : ((zL (aW a i)).map (fun x => F (x - 1))).sum = aD a i
        · rw [if_pos (show nI ((zL (aW a i)).map (fun x => F (x - 1))).sum = nI (aD a i) by rw [c1])]
          dsimp only
          rw [zl_let, nI_1]
          exact step true ⟨fun _ => ⟨rfl, fun _ => c1⟩, fun _ => rfl⟩
        · rw [if_neg (show ¬ nI ((zL (aW a i)).map (fun x => F (x - 1))).sum = nI (aD a i) from fun q => c1 ((nI_eq (by omega) (by omega)).mp q))]
          dsimp only
          rw [zl_let, nI_1]
          exact step false ⟨fun q => by (cases q), fun q => absurd (q.2 c0) c1⟩
