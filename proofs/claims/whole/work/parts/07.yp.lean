/-! ===== old names: the row ===== -/
abbrev tW (W : Nat → Nat) (lt : Nat → Nat) : Nat → Nat → Nat := fun w i => tmN (W w) (lt i)
theorem aw11 (N : Nat) (hN : 100000 ≤ N) {letters : Nat → Int32} {lt : Nat → Nat} {k wd w : Nat} (hk : k ≤ 5) (hl : ∀ i, i < k → letters i = nI (lt i) ∧ lt i < 26) (h9 : wd < 27 ^ 9) (hD : zDg (zL wd) = true) (hw : w < 16) (K) : ∀ (j f : Nat) (xm ym : Nat → Nat → Int32), j ≤ k → j < f → (∀ i, j ≤ i → i < k → xm w i = nI (tmN wd (lt i)) ∧ ym w i = nI (rO (tW (fun _ => wd) lt) k w (i + 1))) → ∃ xm' ym', f_X1_addWord_L11 N K letters (nI w) (lN wd) f (nI (rO (tW (fun _ => wd) lt) k w j)) (nI j - 1) xm ym = K xm' ym' ∧ (∀ i, i < k → xm' w i = nI (tmN wd (lt i)) ∧ ym' w i = nI (rO (tW (fun _ => wd) lt) k w (i + 1))) ∧ ∀ u, u ≠ w → xm' u = xm u ∧ ym' u = ym u := by
  intro j
  induction j with
  | zero =>
    intro f xm ym _ hf h
    obtain ⟨f, rfl⟩ : ∃ g, f = g + 1 := ⟨f - 1, by omega⟩
    rw [f_X1_addWord_L11_s, if_pos (show nI 0 - 1 < 0 by decide)]
    exact ⟨xm, ym, rfl, fun i hi => h i (by omega) hi, fun _ _ => ⟨rfl, rfl⟩⟩
  | succ j ih =>
    intro f xm ym hj hf h
    obtain ⟨f, rfl⟩ : ∃ g, f = g + 1 := ⟨f - 1, by omega⟩
    obtain ⟨l1, l2⟩ := hl j (by omega)
    rw [f_X1_addWord_L11_s, nI_pred, if_neg (nI_pos (by omega)), zl_gd (zl_inN hw (by decide)), zl_gd (zl_inN (show j < 5 by omega) (by decide))]
    simp only [zl_let]
    rw [zl_cl (show w < 2 ^ 31 by omega), zl_cl (show j < 2 ^ 31 by omega), l1, zl_b1 (tm6g N hN l2 h9 hD), up2_s, pk_us, nI_add, ← Int32.sub_eq_add_neg]
    have e : rO (tW (fun _ => wd) lt) k w (j + 1) + tmN wd (lt j) = rO (tW (fun _ => wd) lt) k w j := by
      rw [rO_s (show j < k by omega), Nat.add_comm]
    rw [e]
    obtain ⟨xm', ym', q1, q2, q3⟩ := ih f (zz_up2 xm w (upd (xm w) j (nI (tmN wd (lt j))))) (zz_up2 ym w (upd (ym w) j (nI (rO (tW (fun _ => wd) lt) k w (j + 1))))) (by omega) (by omega) (fun i hi1 hi2 => by
      rw [up2_s, up2_s]
      by_cases e : i = j
      · rw [e, pk_us, pk_us]
        exact ⟨rfl, rfl⟩
      · rw [pk_un e, pk_un e]
        exact h i (by omega) hi2)
    refine ⟨xm', ym', q1, q2, fun u hu => ?_⟩
    obtain ⟨r1, r2⟩ := q3 u hu
    rw [up2_n hu] at r1
    rw [up2_n hu] at r2
    exact ⟨r1, r2⟩
theorem aw_word (N : Nat) (hN : 100000 ≤ N) {letters : Nat → Int32} {lt : Nat → Nat} {k wd w : Nat} (hk : k ≤ 5) (hl : ∀ i, i < k → letters i = nI (lt i) ∧ lt i < 26) (h9 : wd < 27 ^ 9) (hD : zDg (zL wd) = true) (hw : w < 16) (left : Nat → Int32) (xm ym : Nat → Nat → Int32) (day : Int32) : ∃ xm' ym', f_X1_addWord N letters (nI k) left (nI w) xm ym (lN wd) day = some (upd left w day, nI (w + 1), xm', ym') ∧ (∀ i, i < k → xm' w i = nI (tmN wd (lt i)) ∧ ym' w i = nI (rO (tW (fun _ => wd) lt) k w (i + 1))) ∧ ∀ u, u ≠ w → xm' u = xm u ∧ ym' u = ym u := by
  obtain ⟨xm', ym', q1, q2, q3⟩ := aw11 N hN hk hl h9 hD hw (fun (x_m_17 : Nat → Nat → Int32) (y_m_18 : Nat → Nat → Int32) => zz_gd (zz_in (nI w) 16) (zz_let (upd left (nI w).toNatClampNeg day) (fun t_left_20 => zz_let (nI w + (1 : Int32)) (fun t_wordCount_21 => (some (t_left_20, t_wordCount_21, x_m_17, y_m_18)))))) k N xm ym (Nat.le_refl _) (by omega) (fun i h1 h2 => by omega)
  refine ⟨xm', ym', ?_, q2, q3⟩
  unfold f_X1_addWord
  rw [rO_k] at q1
  rw [zl_let, zl_let, show f_X1_addWord_L11 N _ letters (nI w) (lN wd) N 0 (nI k - 1) xm ym = _ from q1, zl_gd (zl_inN hw (by decide)), zl_let, zl_let, nI_1, zl_cl (show w < 2 ^ 31 by omega)]
theorem sv27 (N : Nat) (hN : 100000 ≤ N) {a : AW} {days : Nat → Int32} {words : Nat → Int64} {letters : Nat → Int32} {lt : Nat → Nat} {k : Nat} (hok : zOK a) (hw : ∀ q, q < aPC a → days q = nI (aD a q) ∧ words q = lN (aW a q)) (hk : k ≤ 5) (hl : ∀ i, i < k → letters i = nI (lt i) ∧ lt i < 26) (K) : ∀ (d i f c : Nat) (W D : Nat → Nat) (left : Nat → Int32) (xm ym : Nat → Nat → Int32), i + d = aPC a → d < f → c ≤ i → (∀ w, w < c → left w = nI (D w) ∧ ∀ j, j < k → xm w j = nI (tmN (W w) (lt j)) ∧ ym w j = nI (rO (tW W lt) k w (j + 1))) → (∀ q, q < i → aW a q ≠ 0 → ∃ w, w < c ∧ W w = aW a q ∧ D w = aD a q) → (∀ w, w < c → ∃ q, q < aPC a ∧ aW a q ≠ 0 ∧ W w = aW a q ∧ D w = aD a q) → ∃ (left' : Nat → Int32) (c' : Nat) (xm' ym' : Nat → Nat → Int32) (W' D' : Nat → Nat), f_X1_solve_L27 N K days words (nI (aPC a)) letters (nI k) f (nI i) left (nI c) xm ym = K left' (nI c') xm' ym' ∧ c' ≤ aPC a ∧ (∀ w, w < c' → left' w = nI (D' w) ∧ ∀ j, j < k → xm' w j = nI (tmN (W' w) (lt j)) ∧ ym' w j = nI (rO (tW W' lt) k w (j + 1))) ∧ (∀ q, q < aPC a → aW a q ≠ 0 → ∃ w, w < c' ∧ W' w = aW a q ∧ D' w = aD a q) ∧ ∀ w, w < c' → ∃ q, q < aPC a ∧ aW a q ≠ 0 ∧ W' w = aW a q ∧ D' w = aD a q := by
  have hpc : aPC a ≤ 16 := hok.2.2.2.2.1
  intro d
  induction d with
  | zero =>
    intro i f c W D left xm ym hi hf hc h1 h2 h3
    obtain ⟨f, rfl⟩ : ∃ g, f = g + 1 := ⟨f - 1, by omega⟩
    rw [f_X1_solve_L27_s, if_pos (nI_le (by omega) (by omega))]
    exact ⟨left, c, xm, ym, W, D, rfl, by omega, h1, fun q hq => h2 q (by omega), h3⟩
  | succ d ih =>
    intro i f c W D left xm ym hi hf hc h1 h2 h3
    obtain ⟨f, rfl⟩ : ∃ g, f = g + 1 := ⟨f - 1, by omega⟩
    have hi2 : i < aPC a := by omega
    obtain ⟨w1, w2⟩ := hw i hi2
    obtain ⟨hD, h9⟩ := aW_D hok hi2
    have h63 := aW_63 hok hi2
    rw [f_X1_solve_L27_s, if_neg (nI_ge (by omega) (by omega)), zl_gd (zl_inN (show i < 16 by omega) (by decide)), zl_let, zl_cl (show i < 2 ^ 31 by omega), w1, w2]
    by_cases c0 : aW a i = 0
    · rw [if_pos ((cd_0 h63).mpr c0)]
      dsimp only
      rw [zl_let, nI_1]
      refine ih (i + 1) f c W D left xm ym (by omega) (by omega) (by omega) h1 (fun q hq hne => ?_) h3
      by_cases e : q = i
      · rw [e] at hne
        exact absurd c0 hne
      · exact h2 q (by omega) hne
    · obtain ⟨xm', ym', q1, q2, q3⟩ := aw_word N hN hk hl h9 hD (show c < 16 by omega) left xm ym (nI (aD a i))
      rw [if_neg (fun q => c0 ((cd_0 h63).mp q))]
      simp only [zz_b4, q1, Option.bind_some]
      rw [zl_let, nI_1]
      refine ih (i + 1) f (c + 1) (nup W c (aW a i)) (nup D c (aD a i)) (upd left c (nI (aD a i))) xm' ym' (by omega) (by omega) (by omega) (fun w hwc => ?_) (fun q hq hne => ?_) (fun w hwc => ?_)
      · by_cases e : w = c
        · rw [e, pk_us, nup_s, nup_s]
          refine ⟨rfl, fun j hj => ?_⟩
          obtain ⟨r1, r2⟩ := q2 j hj
          refine ⟨r1, ?_⟩
          rw [r2]
          have : rO (tW (fun _ => aW a i) lt) k c (j + 1) = rO (tW (nup W c (aW a i)) lt) k c (j + 1) := by
            show fb_sm (fun t => tmN (aW a i) (lt (j + 1 + t))) (k - (j + 1)) = fb_sm (fun t => tmN (nup W c (aW a i) c) (lt (j + 1 + t))) (k - (j + 1))
            rw [nup_s]
          rw [this]
        · rw [pk_un e, nup_n e, nup_n e, (q3 w e).1, (q3 w e).2]
          obtain ⟨r1, r2⟩ := h1 w (by omega)
          refine ⟨r1, fun j hj => ?_⟩
          obtain ⟨r3, r4⟩ := r2 j hj
          refine ⟨r3, ?_⟩
          rw [r4]
          have : rO (tW W lt) k w (j + 1) = rO (tW (nup W c (aW a i)) lt) k w (j + 1) := by
            show fb_sm (fun t => tmN (W w) (lt (j + 1 + t))) (k - (j + 1)) = fb_sm (fun t => tmN (nup W c (aW a i) w) (lt (j + 1 + t))) (k - (j + 1))
            rw [nup_n e]
          rw [this]
      · by_cases e : q = i
        · exact ⟨c, by omega, by rw [e, nup_s], by rw [e, nup_s]⟩
        · obtain ⟨w, a1, a2, a3⟩ := h2 q (by omega) hne
          exact ⟨w, by omega, by rw [nup_n (by omega)]; exact a2, by rw [nup_n (by omega)]; exact a3⟩
      · by_cases e : w = c
        · exact ⟨i, hi2, c0, by rw [e, nup_s], by rw [e, nup_s]⟩
        · rw [nup_n e, nup_n e]
          exact h3 w (by omega)
def v6S (S : Nat → Bool) (v : Nat) (v6 : Int32) : Prop := (fb_ct S v = 0 ∧ v6 = -1) ∨ ∃ u, u < v ∧ S u = true ∧ (∀ t, t < u → S t = false) ∧ v6 = nI u ∧ 0 < fb_ct S v
theorem o101 (N : Nat) (hN : 100000 ≤ N) {a : AW} {row : Nat → Int32} {w : Nat → Int64} {used : Nat → Int32} {lt : Nat → Nat} {n k : Nat} {S : Nat → Bool} (hok : zOK a) (hra : zRA a row w 0) (hn : 1 ≤ n) (hn9 : n ≤ 9) (hL : ltO a k 26 lt) (hu : ∀ i, i < k → used i = nI (lt i)) (hS : ∀ v, S v = true ↔ ∀ q, q < aPC a → aW a q ≠ 0 → fb_sm (fun i => tmN (aW a q) (lt i) * dgO n k v i) k = aD a q) (K) : ∀ (d v f : Nat) (v6 : Int32) (trial : Nat → Int32), v + d = n ^ k → d < f → v6S S v v6 → ∃ v6' trial', f_X7_old_L101 N K row w (nI n) used (nI k) (nI (n ^ k)) f (nI (fb_ct S v)) v6 (nI v) trial = K (nI (fb_ct S (n ^ k))) v6' trial' ∧ v6S S (n ^ k) v6' := by
  have hpc : aPC a ≤ 16 := hok.2.2.2.2.1
  obtain ⟨hk, l2, l3, l4⟩ := hL
  have hpk : n ^ k ≤ 9 ^ 5 := Nat.le_trans (Nat.pow_le_pow_left hn9 k) (Nat.pow_le_pow_right (by decide) hk)
  have h95 : (9 : Nat) ^ 5 = 59049 := rfl
  intro d
  induction d with
  | zero =>
    intro v f v6 trial hv hf h
    obtain ⟨f, rfl⟩ : ∃ g, f = g + 1 := ⟨f - 1, by omega⟩
    have hv : v = n ^ k := by omega
    rw [f_X7_old_L101_s, if_pos (nI_le (by omega) (by omega)), hv]
    rw [hv] at h
    exact ⟨v6, trial, rfl, h⟩
  | succ d ih =>
    intro v f v6 trial hv hf h
    obtain ⟨f, rfl⟩ : ∃ g, f = g + 1 := ⟨f - 1, by omega⟩
    have hct : fb_ct S v ≤ v := fb_ct_le _ _
    have es : fb_ct S (v + 1) = fb_ct S v + (if S v = true then 1 else 0) := fb_ct_succ _ _
    rw [f_X7_old_L101_s, if_neg (nI_ge (by omega) (by omega)), zl_let]
    obtain ⟨trial1, t1, t2⟩ := t110 N hN (v := v) hn hn9 hk (by omega) (fun i hi => ⟨hu i hi, l2 i hi⟩) l3 (fun (t_trial_39 : Nat → Int32) => zz_b1 (f_X7_allAdd N row w t_trial_39) (fun r_40 => zz_let (fun (v5_47 : Int32) (v6_48 : Int32) => zz_let (nI v + (1 : Int32)) (fun v7_49 => (f_X7_old_L101 N K row w (nI n) used (nI k) (nI (n ^ k)) f v5_47 v6_48 v7_49 t_trial_39))) (fun k_46 => (if r_40 = 0 then (k_46 (nI (fb_ct S v)) v6) else zz_let (fun (q_44 : Int32) => zz_let (nI (fb_ct S v) + (1 : Int32)) (fun v5_45 => (k_46 v5_45 q_44))) (fun k_43 => (if nI (fb_ct S v) = 0 then (k_43 (nI v)) else (k_43 v6))))))) k 0 N trial (by omega) (by omega) (fun j hj => by omega)
    rw [show f_X7_old_L110 N _ (nI n) used (nI k) (nI v) N 0 trial = _ from t1]
    -- the letters' numbers as a function of letters
    obtain ⟨F, hF⟩ : ∃ F : Nat → Nat, ∀ j, j < k → F (lt j) = dgO n k v j := by
      refine ⟨fun x => (trial1 x).toNatClampNeg, fun j hj => ?_⟩
      show (trial1 (lt j)).toNatClampNeg = _
      have := (dgO_rng (n := n) (k := k) (v := v) (i := j) (by omega)).2
      rw [t2 j hj, zl_cl (by omega)]
    have hlet : ∀ q, q < aPC a → ∀ x ∈ zL (aW a q), ∃ i, i < k ∧ lt i + 1 = x := fun q hq x hx => by
      obtain ⟨hD, _⟩ := aW_D hok hq
      have h0 := zDg_iff.mp hD x hx
      have h27 := zL_low _ x hx
      obtain ⟨i, i1, i2⟩ := (l4 (x - 1) (by omega)).mp ⟨q, hq, tmN_mem.mpr (by rw [show x - 1 + 1 = x by omega]; exact hx)⟩
      exact ⟨i, i1, by omega⟩
    obtain ⟨z, z1, z2⟩ := aa_loop N hN (trial := trial1) (F := F) hok hra (fun q hq x hx => by
      obtain ⟨i, i1, i2⟩ := hlet q hq x hx
      have := (dgO_rng (n := n) (k := k) (v := v) (i := i) (by omega)).2
      rw [← i2, Nat.add_sub_cancel, hF i i1, t2 i i1]
      exact ⟨rfl, by omega⟩) (fun (v1_22 : Int32) => zz_gd (zz_isB v1_22) ((some v1_22))) (aPC a) 0 N true (by omega) (by omega)
    have zS : z = S v := by
      have h1 : z = true ↔ S v = true := by
        rw [z2, hS v]
        have key : ∀ q, q < aPC a → ((zL (aW a q)).map (fun x => F (x - 1))).sum = fb_sm (fun i => tmN (aW a q) (lt i) * dgO n k v i) k := fun q hq => by
          rw [ls_sum l3 F (zL (aW a q)) (hlet q hq)]
          exact fb_sm_cong (fun i hi => by
            show (zL (aW a q)).count (lt i + 1) * F (lt i) = _
            rw [hF i hi]
            rfl)
        constructor
        · intro q p hp hne
          rw [← key p hp]
          exact q.2 p (by omega) hp hne
        · intro q
          refine ⟨rfl, fun p _ hp hne => ?_⟩
          rw [key p hp]
          exact q p hp hne
      cases z <;> cases hs : S v
      · rfl
      · exact absurd (h1.mpr hs) (by decide)
      · exact absurd (h1.mp rfl) (by rw [hs]; decide)
      · rfl
    have z1' : f_X7_allAdd N row w trial1 = some (zBo (S v)) := by
      unfold f_X7_allAdd
      rw [zl_let, show f_X7_allAdd_L4 N _ row w trial1 N 1 0 = _ from z1, zS]
      cases S v <;> rfl
    rw [zl_b1 z1', zl_let]
    cases hs : S v with
    | false =>
      rw [hs] at es
      have es : fb_ct S (v + 1) = fb_ct S v := es
      rw [if_pos (show zBo false = 0 from rfl)]
      dsimp only
      rw [zl_let, nI_1]
      have := ih (v + 1) f v6 trial1 (by omega) (by omega) (by
        unfold v6S
        rw [es]
        rcases h with h | ⟨u, u1, u2⟩
        · exact Or.inl h
        · exact Or.inr ⟨u, by omega, u2⟩)
      rw [es] at this
      exact this
    | true =>
      rw [hs, if_pos rfl] at es
      rw [if_neg (show ¬ zBo true = 0 by decide), zl_let]
      have go : ∀ v6', v6S S (v + 1) v6' → ∃ v6'' trial', zz_let (nI (fb_ct S v) + (1 : Int32)) (fun v5_45 => ((fun (v5_47 : Int32) (v6_48 : Int32) => zz_let (nI v + (1 : Int32)) (fun v7_49 => (f_X7_old_L101 N K row w (nI n) used (nI k) (nI (n ^ k)) f v5_47 v6_48 v7_49 trial1))) v5_45 v6')) = K (nI (fb_ct S (n ^ k))) v6'' trial' ∧ v6S S (n ^ k) v6'' := fun v6' h6 => by
        have := ih (v + 1) f v6' trial1 (by omega) (by omega) h6
        rw [es] at this
        rw [zl_let]
        dsimp only
        rw [zl_let, nI_1, nI_1]
        exact this
      by_cases c : fb_ct S v = 0
      · rw [if_pos (show nI (fb_ct S v) = 0 by rw [c]; rfl)]
        exact go (nI v) (Or.inr ⟨v, by omega, hs, fun t ht => fb_ct_zero.mp c t ht, rfl, by omega⟩)
      · rw [if_neg (nI_ne0 (by omega) (by omega))]
        refine go v6 ?_
        rcases h with h | ⟨u, u1, u2, u3, u4, u5⟩
        · exact absurd h.1 c
        · exact Or.inr ⟨u, by omega, u2, u3, u4, by omega⟩
theorem o53 (N : Nat) {used : Nat → Int32} {lt : Nat → Nat} {n k : Nat} {p2 : Int32} (hk : k ≤ 5) (hu : ∀ i, i < k → used i = nI (lt i)) (hd : ∀ i j, i < j → j < k → lt i ≠ lt j) (hlt : ∀ i, i < k → lt i < 26) (K) : ∀ (d i f : Nat) (v4 : Int32), i + d = k → d < f → ((v4 = -1 ∧ ∀ j, j < i → ¬ p2 = nI (lt j)) ∨ ∃ j, j < i ∧ p2 = nI (lt j) ∧ v4 = nI j) → ∃ v4', f_X7_old_L53 N K (nI n) p2 used (nI k) f (nI (n ^ i)) v4 (nI i) = K (nI (n ^ k)) v4' ∧ ((v4' = -1 ∧ ∀ j, j < k → ¬ p2 = nI (lt j)) ∨ ∃ j, j < k ∧ p2 = nI (lt j) ∧ v4' = nI j) := by
  intro d
  induction d with
  | zero =>
    intro i f v4 hi hf h
    obtain ⟨f, rfl⟩ : ∃ g, f = g + 1 := ⟨f - 1, by omega⟩
    have hi : i = k := by omega
    rw [f_X7_old_L53_s, if_pos (nI_le (by omega) (by omega)), hi]
    rw [hi] at h
    exact ⟨v4, rfl, h⟩
  | succ d ih =>
    intro i f v4 hi hf h
    obtain ⟨f, rfl⟩ : ∃ g, f = g + 1 := ⟨f - 1, by omega⟩
    rw [f_X7_old_L53_s, if_neg (nI_ge (by omega) (by omega)), pk_mul, ← Nat.pow_succ, zl_let, zl_gd (zl_inN (show i < 5 by omega) (by decide)), zl_let, zl_cl (show i < 2 ^ 31 by omega), hu i (by omega)]
    by_cases c : nI (lt i) = p2
    · rw [if_pos c]
      dsimp only
      rw [zl_let, nI_1]
      exact ih (i + 1) f (nI i) (by omega) (by omega) (Or.inr ⟨i, by omega, c.symm, rfl⟩)
    · rw [if_neg c]
      dsimp only
      rw [zl_let, nI_1]
      refine ih (i + 1) f v4 (by omega) (by omega) ?_
      rcases h with ⟨h1, h2⟩ | ⟨j, j1, j2, j3⟩
      · refine Or.inl ⟨h1, fun j hj => ?_⟩
        by_cases e : j = i
        · rw [e]
          exact fun q => c q.symm
        · exact h2 j (by omega)
      · exact Or.inr ⟨j, by omega, j2, j3⟩
theorem fn_loop (N : Nat) {letters first : Nat → Int32} {k : Nat} {p2 : Int32} (hk : k ≤ 5) : ∀ (d i f : Nat), i + d = k → d < f → ((∀ j, i ≤ j → j < k → ¬ letters j = p2) ∧ f_X1_firstNumberOf_L11 N (some 0) letters (nI k) first p2 f (nI i) = some 0) ∨ ∃ j, i ≤ j ∧ j < k ∧ letters j = p2 ∧ f_X1_firstNumberOf_L11 N (some 0) letters (nI k) first p2 f (nI i) = some (first j) := by
  intro d
  induction d with
  | zero =>
    intro i f hi hf
    obtain ⟨f, rfl⟩ : ∃ g, f = g + 1 := ⟨f - 1, by omega⟩
    rw [f_X1_firstNumberOf_L11_s, if_pos (nI_le (by omega) (by omega))]
    exact Or.inl ⟨fun j h1 h2 => by omega, rfl⟩
  | succ d ih =>
    intro i f hi hf
    obtain ⟨f, rfl⟩ : ∃ g, f = g + 1 := ⟨f - 1, by omega⟩
    rw [f_X1_firstNumberOf_L11_s, if_neg (nI_ge (by omega) (by omega)), zl_gd (zl_inN (show i < 5 by omega) (by decide)), zl_cl (show i < 2 ^ 31 by omega)]
    by_cases c : letters i = p2
    · rw [if_pos c]
      exact Or.inr ⟨i, Nat.le_refl _, by omega, c, rfl⟩
    · rw [if_neg c, zl_let, nI_1]
      rcases ih (i + 1) f (by omega) (by omega) with ⟨a1, a2⟩ | ⟨j, j1, j2⟩
      · refine Or.inl ⟨fun j h1 h2 => ?_, a2⟩
        by_cases e : j = i
        · rw [e]
          exact c
        · exact a1 j (by omega) h2
      · exact Or.inr ⟨j, by omega, j2⟩
theorem pr_old (c : Nat → ClassId) (n_numbers : Nat → Int32) (n_syllables : Nat → Int64) (n_syllableCount : Int32) (n_days : Nat → Int32) (n_words : Nat → Int64) (n_parents : Nat → Int32) (n_otherParents : Nat → Int32) (n_kinds : Nat → Int32) (n_personCount : Int32) (n_hopeDays : Nat → Int32) (n_hopeTenths : Nat → Int32) (n_hopeCount : Int32) (n_degreesTold : Int32) (r_text : Nat → Int32) (r_length : Int32) (s_lane : Nat → Int32) (s_size : Nat → Int32) (s_items : Nat → Nat → Int32) (i_ir : Nat → Option Nat) (g0 : va_W) (g1 : va_W) (z_row : Nat → Int32) (z_words : Nat → Int64) (z_isKept : Nat → Int32) (z_text : Nat → Int32) (z_length : Int32) (z_lanes : Nat → Int32) (z_sizes : Nat → Int32) (z_items : Nat → Int32) (o_ways : Int32) (o_letters : Nat → Int32) (o_letterCount : Int32) (o_left : Nat → Int32) (o_wordCount : Int32) (o_given : Nat → Int32) (o_first : Nat → Int32) (o_most : Int32) (x_m : Nat → Nat → Int32) (y_m : Nat → Nat → Int32) (z_used : Nat → Int32) (z_usedMany : Int32) (z_trial : Nat → Int32) (p1 : Int32) (p2 : Int32) (N : Nat) (hN : 100000 ≤ N) (hR : zRel c n_numbers n_syllables n_syllableCount n_days n_words n_parents n_otherParents n_kinds n_personCount n_hopeDays n_hopeTenths n_hopeCount n_degreesTold r_text r_length s_lane s_size s_items i_ir g0 g1 z_row z_words z_isKept z_text z_length z_lanes z_sizes z_items) : ∃ (r : Int32) (o_o_ways : Int32) (o_o_letters : Nat → Int32) (o_o_letterCount : Int32) (o_o_left : Nat → Int32) (o_o_wordCount : Int32) (o_o_given : Nat → Int32) (o_o_first : Nat → Int32) (o_o_most : Int32) (o_x_m : Nat → Nat → Int32) (o_y_m : Nat → Nat → Int32) (e_used : Nat → Int32) (e_usedMany : Int32) (e_trial : Nat → Int32), f_X6_old N n_days n_words n_personCount o_ways o_letters o_letterCount o_left o_wordCount o_given o_first o_most x_m y_m p1 p2 = some (r, o_o_ways, o_o_letters, o_o_letterCount, o_o_left, o_o_wordCount, o_o_given, o_o_first, o_o_most, o_x_m, o_y_m) ∧ f_X7_old N z_row z_words z_used z_usedMany z_trial p1 p2 = some (r, e_used, e_usedMany, e_trial) ∧ zRel c n_numbers n_syllables n_syllableCount n_days n_words n_parents n_otherParents n_kinds n_personCount n_hopeDays n_hopeTenths n_hopeCount n_degreesTold r_text r_length s_lane s_size s_items i_ir g0 g1 z_row z_words z_isKept z_text z_length z_lanes z_sizes z_items := by
  obtain ⟨⟨a, hok, hw, hra⟩, _⟩ := id hR
  have hpc : aPC a ≤ 16 := hok.2.2.2.2.1
  suffices hh : ∃ (r : Int32) (o_o_ways : Int32) (o_o_letters : Nat → Int32) (o_o_letterCount : Int32) (o_o_left : Nat → Int32) (o_o_wordCount : Int32) (o_o_given : Nat → Int32) (o_o_first : Nat → Int32) (o_o_most : Int32) (o_x_m : Nat → Nat → Int32) (o_y_m : Nat → Nat → Int32) (e_used : Nat → Int32) (e_usedMany : Int32) (e_trial : Nat → Int32), f_X6_old N n_days n_words n_personCount o_ways o_letters o_letterCount o_left o_wordCount o_given o_first o_most x_m y_m p1 p2 = some (r, o_o_ways, o_o_letters, o_o_letterCount, o_o_left, o_o_wordCount, o_o_given, o_o_first, o_o_most, o_x_m, o_y_m) ∧ f_X7_old N z_row z_words z_used z_usedMany z_trial p1 p2 = some (r, e_used, e_usedMany, e_trial) by
    obtain ⟨x0, x1, x2, x3, x4, x5, x6, x7, x8, x9, x10, x11, x12, x13, h1, h2⟩ := hh
    exact ⟨x0, x1, x2, x3, x4, x5, x6, x7, x8, x9, x10, x11, x12, x13, h1, h2, hR⟩
  unfold f_X6_old f_X7_old
  rw [hw.2.2.2.1, zl_let, zl_let]
  have core : (p2 = -1 ∨ ∃ l, l < 26 ∧ p2 = nI l) → ∃ (r : Int32) (o_o_ways : Int32) (o_o_letters : Nat → Int32) (o_o_letterCount : Int32) (o_o_left : Nat → Int32) (o_o_wordCount : Int32) (o_o_given : Nat → Int32) (o_o_first : Nat → Int32) (o_o_most : Int32) (o_x_m : Nat → Nat → Int32) (o_y_m : Nat → Nat → Int32) (e_used : Nat → Int32) (e_usedMany : Int32) (e_trial : Nat → Int32), (if p1 < (1 : Int32) then (some ((-3 : Int32), o_ways, o_letters, o_letterCount, o_left, o_wordCount, o_given, o_first, o_most, x_m, y_m)) else (if p1 ≤ (9 : Int32) then zz_b11 (f_X1_solve N o_letters o_left o_wordCount o_given o_first x_m y_m n_days n_words (nI (aPC a)) p1) (fun r_7 o_ways_8 o_letters_9 o_letterCount_10 o_left_11 o_wordCount_12 o_given_13 o_first_14 o_most_15 x_m_16 y_m_17 => (if r_7 = 0 then (some ((-4 : Int32), o_ways_8, o_letters_9, o_letterCount_10, o_left_11, o_wordCount_12, o_given_13, o_first_14, o_most_15, x_m_16, y_m_17)) else (if p2 = (-1 : Int32) then (some (o_ways_8, o_ways_8, o_letters_9, o_letterCount_10, o_left_11, o_wordCount_12, o_given_13, o_first_14, o_most_15, x_m_16, y_m_17)) else zz_b1 (f_X1_firstNumberOf N o_ways_8 o_letters_9 o_letterCount_10 o_first_14 p2) (fun r_20 => (some (r_20, o_ways_8, o_letters_9, o_letterCount_10, o_left_11, o_wordCount_12, o_given_13, o_first_14, o_most_15, x_m_16, y_m_17)))))) else (some ((-3 : Int32), o_ways, o_letters, o_letterCount, o_left, o_wordCount, o_given, o_first, o_most, x_m, y_m)))) = some (r, o_o_ways, o_o_letters, o_o_letterCount, o_o_left, o_o_wordCount, o_o_given, o_o_first, o_o_most, o_x_m, o_y_m) ∧ (zz_b1 (f_X7_in N p1.toInt64 (1 : Int64) (9 : Int64)) (fun r_5 => (if r_5 = 0 then (some ((-3 : Int32), z_used, z_usedMany, z_trial)) else zz_b3 (f_X7_layUsed N z_row z_words z_used) (fun r_7 t_used_8 t_usedMany_9 => (if r_7 = 0 then (some ((-4 : Int32), t_used_8, t_usedMany_9, z_trial)) else zz_let (fun (v3_22 : Int32) (v4_23 : Int32) => zz_let (fun (v5_50 : Int32) (v6_51 : Int32) (t_trial_52 : Nat → Int32) => (if p2 = (-1 : Int32) then (some (v5_50, t_used_8, t_usedMany_9, t_trial_52)) else (if v6_51 = (-1 : Int32) then (some ((-1 : Int32), t_used_8, t_usedMany_9, t_trial_52)) else (if v4_23 = (-1 : Int32) then (some ((0 : Int32), t_used_8, t_usedMany_9, t_trial_52)) else zz_b1 (f_X7_figure N t_usedMany_9 v6_51 p1 v4_23) (fun r_56 => (some (r_56, t_used_8, t_usedMany_9, t_trial_52))))))) (fun k_24 => f_X7_old_L101 N k_24 z_row z_words p1 t_used_8 t_usedMany_9 v3_22 N (0 : Int32) (-1 : Int32) (0 : Int32) z_trial)) (fun k_11 => f_X7_old_L53 N k_11 p1 p2 t_used_8 t_usedMany_9 N (1 : Int32) (-1 : Int32) (0 : Int32))))))) = some (r, e_used, e_usedMany, e_trial) := fun hp2 => by
    rcases zl_case p1 10 (by decide) with ⟨n, hn, rfl⟩ | h'
    · by_cases hn0 : n = 0
      · subst hn0
        rw [if_pos (show nI 0 < (1 : Int32) by decide), zl_bF (show f_X7_in N (nI 0).toInt64 (1 : Int64) (9 : Int64) = some 0 from rfl)]
        exact ⟨_, _, _, _, _, _, _, _, _, _, _, _, _, _, rfl, rfl⟩
      · have ht2 : (nI n).toInt64.toInt = n := by rw [zl_wide, nI_toInt (by omega)]
        have hwo : ∀ q, q < aPC a → n_days q = nI (aD a q) ∧ n_words q = lN (aW a q) := fun q hq => ⟨(hw.2.2.2.2.1 q hq).1, (hw.2.2.2.2.1 q hq).2.1⟩
        rw [if_neg (show ¬ nI n < (1 : Int32) from nI_nlt (b := 1) (by omega) (by omega)), if_pos (show nI n ≤ (9 : Int32) from nI_le (b := 9) (by omega) (by decide)), zl_bT (zl_in7t (by rw [ht2]; exact ⟨by show (1 : Int) ≤ n; omega, by show (n : Int) ≤ 9; omega⟩))]
        obtain ⟨v, v1, v2⟩ := u4 N hN hok hra (fun (v1_15 : Int32) => zz_let (fun (t_used_31 : Nat → Int32) (t_usedMany_32 : Int32) => (some ((1 : Int32), t_used_31, t_usedMany_32))) (fun k_16 => f_X7_layUsed_L63 N k_16 v1_15 N (0 : Int32) z_used (0 : Int32))) (aPC a) 0 N 0 (by omega) (by omega) (fun l hl => by
          rw [b_0]
          exact ⟨fun q => by (cases q), fun ⟨q, q1, _⟩ => by omega⟩)
        have hlay : ∀ X, f_X7_layUsed_L63 N (fun (t_used_31 : Nat → Int32) (t_usedMany_32 : Int32) => (some ((1 : Int32), t_used_31, t_usedMany_32))) v N (0 : Int32) z_used (0 : Int32) = X → f_X7_layUsed N z_row z_words z_used = X := fun X hX => by
          unfold f_X7_layUsed
          rw [zl_let, show f_X7_layUsed_L4 N _ z_row z_words N 0 0 = _ from v1, zl_let, hX]
        rcases pl_loop N hN hok (fun q hq => (hwo q hq).2) v2 (fun (t_letters_16 : Nat → Int32) (t_letterCount_17 : Int32) => (some ((1 : Int32), t_letters_16, t_letterCount_17))) (fun (t_used_31 : Nat → Int32) (t_usedMany_32 : Int32) => (some ((1 : Int32), t_used_31, t_usedMany_32))) 26 0 N N 0 o_letters z_used (fun _ => 0) (by omega) (by omega) (by omega) ⟨by omega, fun i hi => by omega, fun i j _ hj => by omega, fun x hx => by omega⟩ (fun i hi => by omega) with ⟨le, us, c6, c7, f1, f2⟩ | ⟨le, us, k, lt, f1, f2, hL, hlu⟩
        · have f1' : f_X1_findLetters N o_letters n_words (nI (aPC a)) = some (0, le, c6) := by
            unfold f_X1_findLetters
            rw [zl_let]
            exact f1
          have fs : f_X1_solve N o_letters o_left o_wordCount o_given o_first x_m y_m n_days n_words (nI (aPC a)) (nI n) = some (0, 0, le, c6, o_left, o_wordCount, o_given, o_first, nI n, x_m, y_m) := by
            unfold f_X1_solve
            rw [zl_b3 f1', if_pos rfl]
          rw [zl_b3 (hlay _ f2), if_pos rfl]
          simp only [zz_b11, fs, Option.bind_some]
          rw [if_pos trivial]
          exact ⟨_, _, _, _, _, _, _, _, _, _, _, _, _, _, rfl, rfl⟩
        · obtain ⟨hk, l2, l3, l4⟩ := id hL
          have f1' : f_X1_findLetters N o_letters n_words (nI (aPC a)) = some (1, le, nI k) := by
            unfold f_X1_findLetters
            rw [zl_let]
            exact f1
          obtain ⟨left, wc, xm, ym, W, D, s1, s2, s3, s4, s5⟩ := sv27 N hN hok hwo hk (fun i hi => ⟨(hlu i hi).1, l2 i hi⟩) (fun (t_left_24 : Nat → Int32) (t_wordCount_25 : Int32) (x_m_26 : Nat → Nat → Int32) (y_m_27 : Nat → Nat → Int32) => zz_b4 (f_X1_give N 7 (0 : Int32) (nI k) t_left_24 t_wordCount_25 o_given o_first (nI n) x_m_26 y_m_27 (0 : Int32)) (fun t_ways_28 t_left_29 t_given_30 t_first_31 => (some ((1 : Int32), t_ways_28, le, nI k, t_left_29, t_wordCount_25, t_given_30, t_first_31, nI n, x_m_26, y_m_27)))) (aPC a) 0 N 0 (fun _ => 0) (fun _ => 0) o_left x_m y_m (by omega) (by omega) (by omega) (fun w hw => by omega) (fun q hq => by omega) (fun w hw => by omega)
          have hlet : ∀ q, q < aPC a → ∀ x ∈ zL (aW a q), ∃ i, i < k ∧ lt i + 1 = x := fun q hq x hx => by
            obtain ⟨hD, _⟩ := aW_D hok hq
            have h0 := zDg_iff.mp hD x hx
            have h27 := zL_low _ x hx
            obtain ⟨i, i1, i2⟩ := (l4 (x - 1) (by omega)).mp ⟨q, hq, tmN_mem.mpr (by rw [show x - 1 + 1 = x by omega]; exact hx)⟩
            exact ⟨i, i1, by omega⟩
          have hlen : ∀ w, w < wc → rO (tW W lt) k w 0 = (zL (W w)).length ∧ (zL (W w)).length ≤ 9 ∧ 0 < (zL (W w)).length ∧ D w ≤ 400 := fun w hw => by
            obtain ⟨q, q1, q2, q3, q4⟩ := s5 w hw
            have hdq := hok.2.2.2.2.2.1 q q1
            have h63 := aW_63 hok q1
            have e1 := ls_sum l3 (fun _ => 1) (zL (aW a q)) (hlet q q1)
            have e2 : ((zL (aW a q)).map (fun _ => 1)).sum = (zL (aW a q)).length := by
              rw [List.map_const', List.sum_replicate_nat, Nat.mul_one]
            rw [q3, q4]
            refine ⟨?_, zL_lt (aW_D hok q1).2 h63, zL_ge (f := 0) (by rw [Nat.pow_zero]; omega) h63, hdq.2.1⟩
            show fb_sm (fun j => tmN (W w) (lt (0 + j))) (k - 0) = _
            rw [q3, ← e2, e1, Nat.sub_zero]
            exact fb_sm_cong (fun i _ => by
              show tmN (aW a q) (lt (0 + i)) = (zL (aW a q)).count (lt i + 1) * 1
              rw [Nat.zero_add, Nat.mul_one]
              rfl)
          have hmono : ∀ w, ∀ m i, i + m = k → rO (tW W lt) k w i ≤ rO (tW W lt) k w 0 := fun w => by
            have h1 : ∀ i, i ≤ k → rO (tW W lt) k w i ≤ rO (tW W lt) k w 0 := by
              intro i
              induction i with
              | zero =>
                intro _
                exact Nat.le_refl _
              | succ i ihi =>
                intro hi
                have h2 := ihi (by omega)
                have h3 := rO_s (T := tW W lt) (w := w) (show i < k by omega)
                omega
            exact fun m i hi => h1 i (by omega)
          have H : gvH (tW W lt) D wc n k xm ym := ⟨by omega, by omega, by omega, hk, fun w hw => ⟨(hlen w hw).2.2.2, fun i hi => by
            have h1 := hmono w (k - i) i (by omega)
            have h2 := hlen w hw
            omega, fun i hi => (s3 w hw).2 i hi⟩⟩
          obtain ⟨ways, left', given', first', g1, g2, _, _⟩ := gv_eq N hN H k 0 (6 - k) (by omega) 0 (Nat.zero_mod _) (by omega) 0 left o_given o_first ⟨rfl, fun q => absurd q (Nat.lt_irrefl 0)⟩ (fun w hw => by
            have h2 := (hlen w hw).2.2.2
            rw [(s3 w hw).1, nI_toInt (by omega)]
            show (D w : Int) = (D w : Int) - ((0 : Nat) : Int)
            omega) (fun j hj => by omega) (fun w hw h0 => by
            have := hlen w hw
            omega)
          rw [show k + 1 + (6 - k) = 7 by omega] at g1
          rw [Nat.zero_add] at g2
          have g1' : f_X1_give N 7 (0 : Int32) (nI k) left (nI wc) o_given o_first (nI n) xm ym (0 : Int32) = some (ways, left', given', first') := g1
          have fs : f_X1_solve N o_letters o_left o_wordCount o_given o_first x_m y_m n_days n_words (nI (aPC a)) (nI n) = some (1, ways, le, nI k, left', nI wc, given', first', nI n, xm, ym) := by
            unfold f_X1_solve
            rw [zl_b3 f1', if_neg (show ¬ (1 : Int32) = 0 by decide), zl_let]
            rw [show f_X1_solve_L27 N _ n_days n_words (nI (aPC a)) le (nI k) N 0 o_left 0 x_m y_m = _ from s1]
            simp only [zz_b4, g1', Option.bind_some]
          have hS : ∀ v, sO (tW W lt) D wc n k v = true ↔ ∀ q, q < aPC a → aW a q ≠ 0 → fb_sm (fun i => tmN (aW a q) (lt i) * dgO n k v i) k = aD a q := fun v => by
            rw [sO_iff]
            constructor
            · intro h q hq hne
              obtain ⟨w, w1, w2, w3⟩ := s4 q hq hne
              rw [← w2, ← w3]
              exact h w w1
            · intro h w hw
              obtain ⟨q, q1, q2, q3, q4⟩ := s5 w hw
              rw [q4, ← h q q1 q2, ← q3]
              rfl
          have hpk : n ^ k ≤ 9 ^ 5 := Nat.le_trans (Nat.pow_le_pow_left (by omega) k) (Nat.pow_le_pow_right (by decide) hk)
          have h95 : (9 : Nat) ^ 5 = 59049 := rfl
          obtain ⟨v4, a1, a2⟩ := o53 N (n := n) (p2 := p2) hk (fun i hi => (hlu i hi).2) l3 l2 (fun (v3_22 : Int32) (v4_23 : Int32) => zz_let (fun (v5_50 : Int32) (v6_51 : Int32) (t_trial_52 : Nat → Int32) => (if p2 = (-1 : Int32) then (some (v5_50, us, nI k, t_trial_52)) else (if v6_51 = (-1 : Int32) then (some ((-1 : Int32), us, nI k, t_trial_52)) else (if v4_23 = (-1 : Int32) then (some ((0 : Int32), us, nI k, t_trial_52)) else zz_b1 (f_X7_figure N (nI k) v6_51 (nI n) v4_23) (fun r_56 => (some (r_56, us, nI k, t_trial_52))))))) (fun k_24 => f_X7_old_L101 N k_24 z_row z_words (nI n) us (nI k) v3_22 N (0 : Int32) (-1 : Int32) (0 : Int32) z_trial)) k 0 N (-1) (by omega) (by omega) (Or.inl ⟨rfl, fun j hj => by omega⟩)
          obtain ⟨v6, trial', b1, b2⟩ := o101 N hN hok hra (by omega) (by omega) hL (fun i hi => (hlu i hi).2) hS (fun (v5_50 : Int32) (v6_51 : Int32) (t_trial_52 : Nat → Int32) => (if p2 = (-1 : Int32) then (some (v5_50, us, nI k, t_trial_52)) else (if v6_51 = (-1 : Int32) then (some ((-1 : Int32), us, nI k, t_trial_52)) else (if v4 = (-1 : Int32) then (some ((0 : Int32), us, nI k, t_trial_52)) else zz_b1 (f_X7_figure N (nI k) v6_51 (nI n) v4) (fun r_56 => (some (r_56, us, nI k, t_trial_52))))))) (n ^ k) 0 N (-1) z_trial (by omega) (by omega) (Or.inl ⟨rfl, rfl⟩)
          rw [Nat.pow_zero] at a1
          rw [zl_b3 (hlay _ f2), if_neg (show ¬ (1 : Int32) = 0 by decide), zl_let]
          rw [show f_X7_old_L53 N _ (nI n) p2 us (nI k) N 1 (-1) 0 = _ from a1, zl_let]
          rw [show f_X7_old_L101 N _ z_row z_words (nI n) us (nI k) (nI (n ^ k)) N 0 (-1) 0 z_trial = _ from b1]
          simp only [zz_b11, fs, Option.bind_some]
          rw [if_neg (show ¬ (1 : Int32) = 0 by decide)]
          have hct : fb_ct (sO (tW W lt) D wc n k) (n ^ k) ≤ n ^ k := fb_ct_le _ _
          by_cases c2 : p2 = -1
          · rw [if_pos c2, if_pos c2, g2.1]
            exact ⟨_, _, _, _, _, _, _, _, _, _, _, _, _, _, rfl, rfl⟩
          · rw [if_neg c2, if_neg c2]
            unfold f_X1_firstNumberOf
            rw [g2.1]
            rcases b2 with ⟨e1, e2⟩ | ⟨u, u1, u2, u3, u4, u5⟩
            · rw [e1, if_pos (show nI 0 = 0 from rfl), e2, if_pos rfl, zl_b1 rfl]
              exact ⟨_, _, _, _, _, _, _, _, _, _, _, _, _, _, rfl, rfl⟩
            · rw [if_neg (nI_ne0 u5 (by omega)), u4, if_neg (zl_nm1 (by omega)), zl_let]
              obtain ⟨t, t1, t2, t3, t4⟩ := g2.2 u5
              have etu : t = u := by
                have h1 : ¬ t < u := fun q => by
                  rw [u3 t q] at t2
                  cases t2
                have h2 : ¬ u < t := fun q => by
                  rw [t3 u q] at u2
                  cases u2
                omega
              rcases fn_loop N (letters := le) (first := first') (p2 := p2) hk k 0 N (by omega) (by omega) with ⟨w1, w2⟩ | ⟨j, j1, j2, j3, j4⟩
              · rw [show f_X1_firstNumberOf_L11 N (some 0) le (nI k) first' p2 N 0 = _ from w2, zl_b1 rfl]
                rcases a2 with ⟨x1, _⟩ | ⟨j, j1, j2, _⟩
                · rw [if_pos x1]
                  exact ⟨_, _, _, _, _, _, _, _, _, _, _, _, _, _, rfl, rfl⟩
                · exact absurd ((hlu j j1).1.trans j2.symm) (w1 j (by omega) j1)
              · rw [show f_X1_firstNumberOf_L11 N (some 0) le (nI k) first' p2 N 0 = _ from j4, zl_b1 rfl]
                rcases a2 with ⟨_, x2⟩ | ⟨i, i1, i2, i3⟩
                · exact absurd (j3.symm.trans (hlu j j2).1) (x2 j j2)
                · have eij : i = j := by
                    have e : nI (lt i) = nI (lt j) := by
                      rw [← i2, ← j3, (hlu j j2).1]
                    have e := (nI_eq (by have := l2 i i1; omega) (by have := l2 j j2; omega)).mp e
                    rcases Nat.lt_trichotomy i j with q | q | q
                    · exact absurd e (l3 i j q j2)
                    · exact q
                    · exact absurd e.symm (l3 j i q i1)
                  rw [i3, if_neg (zl_nm1 (by omega)), zl_b1 (fig_eq N hN (by omega) (by omega) hk i1 (by omega)), t4 j j2, etu, eij]
                  exact ⟨_, _, _, _, _, _, _, _, _, _, _, _, _, _, rfl, rfl⟩
    · rw [zl_bF (zl_in7f (by
          rw [zl_wide]
          intro q
          have q1 : (1 : Int) ≤ p1.toInt := q.1
          have q2 : p1.toInt ≤ 9 := q.2
          exact h' ⟨by omega, by omega⟩))]
      by_cases c : p1 < 1
      · rw [if_pos c]
        exact ⟨_, _, _, _, _, _, _, _, _, _, _, _, _, _, rfl, rfl⟩
      · rw [if_neg c, if_neg (fun q => by
            rw [fa_lt] at c
            rw [fa_le] at q
            have e1 : (1 : Int32).toInt = 1 := rfl
            have e9 : (9 : Int32).toInt = 9 := rfl
            exact h' ⟨by omega, by omega⟩)]
        exact ⟨_, _, _, _, _, _, _, _, _, _, _, _, _, _, rfl, rfl⟩
  by_cases c2 : p2 = -1
  · rw [if_pos c2, if_pos c2]
    exact core (Or.inl c2)
  · rw [if_neg c2, if_neg c2]
    rcases zl_case p2 26 (by decide) with ⟨l, hl, e⟩ | h
    · have ht2 : p2.toInt64.toInt = l := by rw [zl_wide, e, nI_toInt (by omega)]
      rw [zl_bT (zl_isLetter_t (by rw [e, nI_toInt (by omega)]; omega)), zl_bT (zl_in7t (by rw [ht2]; exact ⟨by show (0 : Int) ≤ l; omega, by show (l : Int) ≤ 25; omega⟩))]
      exact core (Or.inr ⟨l, hl, e⟩)
    · rw [zl_bF (zl_isLetter_f h), zl_bF (zl_in7f (by
          rw [zl_wide]
          intro q
          have q1 : (0 : Int) ≤ p2.toInt := q.1
          have q2 : p2.toInt ≤ 25 := q.2
          exact h ⟨q1, by omega⟩))]
      exact ⟨_, _, _, _, _, _, _, _, _, _, _, _, _, _, rfl, rfl⟩
