/-! ===== reform: the row ===== -/
def rfV (x k : Nat) (diff : Int) (m : Nat) : Prop := m ≠ x ∧ (k : Int) * ((m : Int) - x) = diff
theorem rn_core {x k : Nat} {diff : Int} (hx : x ≤ 99) (hk : k ≤ 9) {v5 : Int32} (hv : v5.toInt = diff) (hd1 : -2000 ≤ diff) (hd2 : diff ≤ 2000) : ∃ r : Int32, (if nI k = 0 then (if v5 = 0 then (if nI x = (1 : Int32) then (some (2 : Int32)) else (some (1 : Int32))) else (some (-1 : Int32))) else (if v5 = 0 then (some (-1 : Int32)) else zz_gd (zz_nz (nI k)) ((if (v5 - v5 / nI k * nI k) = 0 then zz_let (nI x + (v5 / nI k)) (fun v6_13 => (if v6_13 < (1 : Int32) then (some (-1 : Int32)) else (if (99 : Int32) < v6_13 then (some (-1 : Int32)) else (some v6_13)))) else (some (-1 : Int32)))))) = some r ∧ ((r = -1 ∧ ∀ m, 1 ≤ m → m ≤ 99 → ¬ rfV x k diff m) ∨ ∃ m, 1 ≤ m ∧ m ≤ 99 ∧ r = nI m ∧ rfV x k diff m ∧ ∀ j, 1 ≤ j → j < m → ¬ rfV x k diff j) := by
  have h0 : (0 : Int32).toInt = 0 := rfl
  have hv0 : v5 = 0 ↔ diff = 0 := by rw [fa_eq, hv, h0]
  by_cases ck : k = 0
  · subst ck
    rw [if_pos (show nI 0 = 0 from rfl)]
    by_cases cd : diff = 0
    · rw [if_pos (hv0.mpr cd)]
      have val : ∀ m, rfV x 0 diff m ↔ m ≠ x := fun m => ⟨fun q => q.1, fun q => ⟨q, by rw [cd]; exact Int.zero_mul _⟩⟩
      by_cases cx : x = 1
      · rw [if_pos (show nI x = (1 : Int32) by rw [cx]; rfl)]
        refine ⟨2, rfl, Or.inr ⟨2, by omega, by omega, rfl, (val 2).mpr (by omega), fun j h1 h2 q => ?_⟩⟩
        have := (val j).mp q
        omega
      · rw [if_neg (show ¬ nI x = (1 : Int32) from fun q => cx ((nI_eq (b := 1) (by omega) (by decide)).mp q))]
        exact ⟨1, rfl, Or.inr ⟨1, by omega, by omega, rfl, (val 1).mpr (by omega), fun j h1 h2 => by omega⟩⟩
    · rw [if_neg (fun q => cd (hv0.mp q))]
      refine ⟨-1, rfl, Or.inl ⟨rfl, fun m _ _ q => cd ?_⟩⟩
      have := q.2
      rw [show ((0 : Nat) : Int) = 0 from rfl, Int.zero_mul] at this
      exact this.symm
  · rw [if_neg (nI_ne0 (by omega) (by omega))]
    by_cases cd : diff = 0
    · rw [if_pos (hv0.mpr cd)]
      refine ⟨-1, rfl, Or.inl ⟨rfl, fun m _ _ q => ?_⟩⟩
      have h1 := q.2
      rw [cd] at h1
      rcases Int.mul_eq_zero.mp h1 with h2 | h2
      · omega
      · exact q.1 (by omega)
    · rw [if_neg (fun q => cd (hv0.mp q)), zl_gd (show zz_nz (nI k) = true from decide_eq_true (nI_ne0 (by omega) (by omega)))]
      have ek : (nI k).toInt = (k : Int) := nI_toInt (by omega)
      obtain ⟨q, hq⟩ : ∃ q, q = diff.tdiv k := ⟨_, rfl⟩
      have hqr := Int.mul_tdiv_add_tmod diff k
      rw [← hq] at hqr
      have hqb : q.natAbs ≤ diff.natAbs := by
        rw [hq, Int.natAbs_tdiv]
        exact Nat.div_le_self _ _
      have hqb1 : -2000 ≤ q := by omega
      have hqb2 : q ≤ 2000 := by omega
      have edv : (v5 / nI k).toInt = q := by
        rw [Int32.toInt_div, hv, ek, ← hq]
        exact Int.bmod_eq_of_le (by omega) (by omega)
      have hmb1 : q * k ≤ 20000 := by
        rcases Int.le_total 0 q with h | h
        · have := Int.mul_le_mul hqb2 (show (k : Int) ≤ 9 by omega) (by omega) (by omega)
          omega
        · have := Int.mul_nonpos_of_nonpos_of_nonneg h (show (0 : Int) ≤ (k : Int) by omega)
          omega
      have hmb2 : -20000 ≤ q * k := by
        have h1 : (-q) * k ≤ 20000 := by
          rcases Int.le_total 0 (-q) with h | h
          · have := Int.mul_le_mul (show -q ≤ 2000 by omega) (show (k : Int) ≤ 9 by omega) (by omega) (by omega)
            omega
          · have := Int.mul_nonpos_of_nonpos_of_nonneg h (show (0 : Int) ≤ (k : Int) by omega)
            omega
        rw [Int.neg_mul] at h1
        omega
      have emu : (v5 / nI k * nI k).toInt = q * k := by
        rw [fb_mulI (by rw [edv, ek]; omega) (by rw [edv, ek]; omega), edv, ek]
      have esu : (v5 - v5 / nI k * nI k).toInt = diff - q * k := by
        rw [fb_subI (by rw [hv, emu]; omega) (by rw [hv, emu]; omega), hv, emu]
      by_cases cr : diff - q * k = 0
      · rw [if_pos (by rw [fa_eq, esu, cr]; rfl), zl_let]
        have ead : (nI x + v5 / nI k).toInt = x + q := by
          have ex : (nI x).toInt = (x : Int) := nI_toInt (by omega)
          rw [fb_addI (by rw [edv, ex]; omega) (by rw [edv, ex]; omega), edv, ex]
        have uniq : ∀ m, rfV x k diff m → (m : Int) = x + q := fun m hm => by
          have h1 := hm.2
          have h2 : (k : Int) * ((m : Int) - x) = k * q := by
            rw [h1]
            have : q * k = k * q := Int.mul_comm _ _
            omega
          have := Int.eq_of_mul_eq_mul_left (show (k : Int) ≠ 0 by omega) h2
          omega
        have hq0 : q ≠ 0 := fun e => by
          rw [e, Int.zero_mul] at cr
          omega
        have h1 : (1 : Int32).toInt = 1 := rfl
        have h99 : (99 : Int32).toInt = 99 := rfl
        by_cases c1 : (x : Int) + q < 1
        · rw [if_pos (by rw [fa_lt, ead, h1]; exact c1)]
          exact ⟨-1, rfl, Or.inl ⟨rfl, fun m m1 _ hm => by
            have := uniq m hm
            omega⟩⟩
        · rw [if_neg (by rw [fa_lt, ead, h1]; exact c1)]
          by_cases c2 : 99 < (x : Int) + q
          · rw [if_pos (by rw [fa_lt, ead, h99]; exact c2)]
            exact ⟨-1, rfl, Or.inl ⟨rfl, fun m _ m2 hm => by
              have := uniq m hm
              omega⟩⟩
          · rw [if_neg (by rw [fa_lt, ead, h99]; exact c2)]
            obtain ⟨m, hm⟩ : ∃ m : Nat, (m : Int) = x + q := ⟨((x : Int) + q).toNat, by omega⟩
            refine ⟨_, rfl, Or.inr ⟨m, by omega, by omega, ?_, ⟨by omega, ?_⟩, fun j j1 j2 hj => ?_⟩⟩
            · rw [fa_eq, ead, nI_toInt (by omega), hm]
            · rw [show (m : Int) - x = q by omega, Int.mul_comm]
              omega
            · have := uniq j hj
              omega
      · rw [if_neg (fun e => by
          rw [fa_eq, esu, h0] at e
          exact cr e)]
        refine ⟨-1, rfl, Or.inl ⟨rfl, fun m _ _ hm => cr ?_⟩⟩
        have h1 := hm.2
        have h2 : diff.tdiv k = (m : Int) - x := by
          rw [← h1]
          exact Int.mul_tdiv_cancel_left _ (by omega)
        rw [hq, h2, Int.mul_comm, h1]
        omega
theorem rn_eq (N : Nat) (hN : 100000 ≤ N) {a : AW} {num days : Nat → Int32} {words : Nat → Int64} (hok : zOK a) (hn : ∀ i, i < 26 → num i = nI (aN a i)) (hw : ∀ q, q < aPC a → days q = nI (aD a q) ∧ words q = lN (aW a q)) {p L : Nat} (hp : p < aPC a) (hL : L < 26) (hW : isW 9 (aW a p)) : ∃ r : Int32, f_X6_reformedNumber N num days words (nI p) (nI L) = some r ∧ ((r = -1 ∧ ∀ m, 1 ≤ m → m ≤ 99 → ¬ rfV (aN a L) (tmN (aW a p) L) ((aD a p : Int) - aSum a (aW a p)) m) ∨ ∃ m, 1 ≤ m ∧ m ≤ 99 ∧ r = nI m ∧ rfV (aN a L) (tmN (aW a p) L) ((aD a p : Int) - aSum a (aW a p)) m ∧ ∀ j, 1 ≤ j → j < m → ¬ rfV (aN a L) (tmN (aW a p) L) ((aD a p : Int) - aSum a (aW a p)) j) := by
  have hpc : aPC a ≤ 16 := hok.2.2.2.2.1
  have h63 := w_63 hW
  have hsl := aSum_le hok h63
  have hd := hok.2.2.2.2.2.1 p hp
  obtain ⟨w1, w2⟩ := hw p hp
  unfold f_X6_reformedNumber
  rw [zl_gd (zl_inN (show L < 26 by omega) (by decide)), zl_let, zl_gd (zl_inN (show p < 16 by omega) (by decide)), zl_cl (show L < 2 ^ 31 by omega), zl_cl (show p < 2 ^ 31 by omega), w1, w2, hn L hL, zl_b1 (tm6 N hN hL hW), zl_b1 (sum6 N hN hn (isW_iff.mp hW).2.1 (isW_iff.mp hW).2.2), zl_let]
  exact rn_core (hok.1 L hL) (tm_le hW) (pk_sub_toInt (by omega) (by omega)) (by omega) (by omega)
theorem anC_lt {a : AW} (hok : zOK a) {p L : Nat} (hp : p < aPC a) : anC a p L (aPC a) ≤ 15 := by
  have hpc : aPC a ≤ 16 := hok.2.2.2.2.1
  have h1 : anC a p L (aPC a) ≤ aPC a := fb_ct_le _ _
  have h2 : anC a p L (aPC a) ≠ aPC a := fun e => by
    have h := fb_ct_all.mp e p hp
    unfold anP at h
    rw [beq_iff_eq.mpr rfl] at h
    cases h
  omega
theorem r71 (N : Nat) (hN : 100000 ≤ N) {a : AW} {row : Nat → Int32} {w : Nat → Int64} (hok : zOK a) (hra : zRA a row w 0) {p L : Nat} (hp : p < aPC a) (hL : L < 26) (hW : isW 9 (aW a p)) {v3 : Int32} (hv3 : v3.toInt = (aD a p : Int) - aSum a (aW a p)) (K : Int32 → Int32 → Option Int32) : ∀ (n j f s : Nat) (v4 : Int32), j + n = 99 → n < f → s ≤ 99 → ∃ v4' s', f_X7_reform_L71 N K row w (nI p) v3 f v4 (nI s) (nI (99 * L + j)) = f_X7_reform_L71 N K row w (nI p) v3 (f - n) v4' (nI s') (nI (99 * (L + 1))) ∧ s' ≤ 99 ∧ (((∀ m, j < m → m ≤ 99 → ¬ rfV (aN a L) (tmN (aW a p) L) ((aD a p : Int) - aSum a (aW a p)) m) ∧ v4' = v4 ∧ s' = s) ∨ ∃ m, j < m ∧ m ≤ 99 ∧ rfV (aN a L) (tmN (aW a p) L) ((aD a p : Int) - aSum a (aW a p)) m ∧ (∀ i, j < i → i < m → ¬ rfV (aN a L) (tmN (aW a p) L) ((aD a p : Int) - aSum a (aW a p)) i) ∧ ((s ≤ anC a p L (aPC a) ∧ v4' = v4 ∧ s' = s) ∨ (anC a p L (aPC a) < s ∧ v4' = nI (99 * L + m - 1) ∧ s' = anC a p L (aPC a)))) := by
  have hpc : aPC a ≤ 16 := hok.2.2.2.2.1
  have h99 := hok.1 L hL
  have htl := tm_le (L := L) hW
  have hc := anC_lt hok (L := L) hp
  obtain ⟨_, _, _, g3⟩ := zl_p55 hra hp
  intro n
  induction n with
  | zero =>
    intro j f s v4 hj hf hs
    have ej : 99 * L + j = 99 * (L + 1) := by omega
    rw [ej]
    exact ⟨v4, s, rfl, hs, Or.inl ⟨fun m h1 h2 => by omega, rfl, rfl⟩⟩
  | succ n ih =>
    intro j f s v4 hj hf hs
    obtain ⟨f, rfl⟩ : ∃ g, f = g + 1 := ⟨f - 1, by omega⟩
    have e1 : (99 * L + j) / 99 = L := by omega
    have e2 : (99 * L + j) % 99 = j := by omega
    have efu : f + 1 - (n + 1) = f - n := by omega
    rw [f_X7_reform_L71_s, if_neg (show ¬ (2574 : Int32) ≤ nI (99 * L + j) from nI_ge (b := 2574) (by omega) (by decide)), show (99 : Int32) = nI 99 from rfl, pk_rem (by omega) (by decide) (by decide), pk_div (by omega) (by decide) (by decide), e1, e2, zl_let, zl_gd (zl_inN (show L < 300 by omega) (by decide)), zl_let, zl_let, zl_cl (show L < 2 ^ 31 by omega), zl_row0 hra L hL, nI_1, nI_1, efu, zl_cl (show p < 2 ^ 31 by omega), g3]
    have hdl : (nI (j + 1) - nI (aN a L)).toInt = (j + 1 : Int) - aN a L := pk_sub_toInt (by omega) (by omega)
    have hval : rfV (aN a L) (tmN (aW a p) L) ((aD a p : Int) - aSum a (aW a p)) (j + 1) ↔ (¬ nI (j + 1) - nI (aN a L) = 0 ∧ (nI (tmN (aW a p) L) * (nI (j + 1) - nI (aN a L))) = v3) := by
      have hb : ∀ z : Int, -99 ≤ z → z ≤ 99 → -1000 ≤ (tmN (aW a p) L : Int) * z ∧ (tmN (aW a p) L : Int) * z ≤ 1000 := fun z z1 z2 => by
        constructor
        · have q : (tmN (aW a p) L : Int) * (-z) ≤ 9 * 99 := by
            rcases Int.le_total 0 (-z) with q | q
            · exact Int.mul_le_mul (by omega) (by omega) q (by decide)
            · have := Int.mul_nonpos_of_nonneg_of_nonpos (show (0 : Int) ≤ (tmN (aW a p) L : Int) by omega) q
              omega
          rw [Int.mul_neg] at q
          omega
        · rcases Int.le_total 0 z with q | q
          · have := Int.mul_le_mul (show (tmN (aW a p) L : Int) ≤ 9 by omega) z2 q (by decide)
            omega
          · have := Int.mul_nonpos_of_nonneg_of_nonpos (show (0 : Int) ≤ (tmN (aW a p) L : Int) by omega) q
            omega
      obtain ⟨b1, b2⟩ := hb ((j + 1 : Int) - aN a L) (by omega) (by omega)
      have ek : (nI (tmN (aW a p) L)).toInt = (tmN (aW a p) L : Int) := nI_toInt (by omega)
      have em : (nI (tmN (aW a p) L) * (nI (j + 1) - nI (aN a L))).toInt = (tmN (aW a p) L : Int) * ((j + 1 : Int) - aN a L) := by
        rw [fb_mulI (by rw [hdl, ek]; omega) (by rw [hdl, ek]; omega), hdl, ek]
      have h0 : (0 : Int32).toInt = 0 := rfl
      rw [fa_eq, fa_eq, hdl, em, hv3, h0]
      unfold rfV
      constructor
      · rintro ⟨q1, q2⟩
        exact ⟨by omega, q2⟩
      · rintro ⟨q1, q2⟩
        exact ⟨by omega, q2⟩
    have skip : ¬ rfV (aN a L) (tmN (aW a p) L) ((aD a p : Int) - aSum a (aW a p)) (j + 1) → ∃ v4' s', f_X7_reform_L71 N K row w (nI p) v3 f v4 (nI s) (nI (99 * L + j + 1)) = f_X7_reform_L71 N K row w (nI p) v3 (f - n) v4' (nI s') (nI (99 * (L + 1))) ∧ s' ≤ 99 ∧ (((∀ m, j < m → m ≤ 99 → ¬ rfV (aN a L) (tmN (aW a p) L) ((aD a p : Int) - aSum a (aW a p)) m) ∧ v4' = v4 ∧ s' = s) ∨ ∃ m, j < m ∧ m ≤ 99 ∧ rfV (aN a L) (tmN (aW a p) L) ((aD a p : Int) - aSum a (aW a p)) m ∧ (∀ i, j < i → i < m → ¬ rfV (aN a L) (tmN (aW a p) L) ((aD a p : Int) - aSum a (aW a p)) i) ∧ ((s ≤ anC a p L (aPC a) ∧ v4' = v4 ∧ s' = s) ∨ (anC a p L (aPC a) < s ∧ v4' = nI (99 * L + m - 1) ∧ s' = anC a p L (aPC a)))) := fun hno => by
      obtain ⟨v4', s', q1, q2, q3⟩ := ih (j + 1) f s v4 (by omega) (by omega) hs
      refine ⟨v4', s', q1, q2, ?_⟩
      rcases q3 with ⟨r1, r2⟩ | ⟨m, m1, m2, m3, m4, m5⟩
      · refine Or.inl ⟨fun m h1 h2 => ?_, r2⟩
        by_cases e : m = j + 1
        · rw [e]
          exact hno
        · exact r1 m (by omega) h2
      · refine Or.inr ⟨m, by omega, m2, m3, fun i h1 h2 => ?_, m5⟩
        by_cases e : i = j + 1
        · rw [e]
          exact hno
        · exact m4 i (by omega) h2
    by_cases c0 : nI (j + 1) - nI (aN a L) = 0
    · rw [if_pos c0]
      dsimp only
      rw [zl_let]
      exact skip (fun q => (hval.mp q).1 c0)
    · rw [if_neg c0, zl_b1 (tm7 N hN hL hW)]
      by_cases c1 : (nI (tmN (aW a p) L) * (nI (j + 1) - nI (aN a L))) = v3
      · have hyes := hval.mpr ⟨c0, c1⟩
        have h0 : (0 : Int32).toInt = 0 := rfl
        rw [if_pos c1, zl_b1 (an7c N hN hok hra hp hL (fun q => c0 (by rw [fa_eq, q, h0])) (by rw [hdl]; omega) (by rw [hdl]; omega)), zl_let]
        by_cases c2 : s ≤ anC a p L (aPC a)
        · rw [if_pos (nI_le c2 (by omega))]
          dsimp only
          rw [zl_let, if_pos (nI_le c2 (by omega))]
          dsimp only
          rw [zl_let]
          obtain ⟨v4', s', q1, q2, q3⟩ := ih (j + 1) f s v4 (by omega) (by omega) hs
          refine ⟨v4', s', q1, q2, Or.inr ⟨j + 1, by omega, by omega, hyes, fun i h1 h2 => by omega, Or.inl ⟨c2, ?_⟩⟩⟩
          rcases q3 with ⟨_, r2⟩ | ⟨m, _, _, _, _, m5⟩
          · exact r2
          · rcases m5 with m5 | m5
            · exact m5.2
            · omega
        · rw [if_neg (nI_ge (by omega) (by omega))]
          dsimp only
          rw [zl_let, if_neg (nI_ge (by omega) (by omega))]
          dsimp only
          rw [zl_let]
          obtain ⟨v4', s', q1, q2, q3⟩ := ih (j + 1) f (anC a p L (aPC a)) (nI (99 * L + j)) (by omega) (by omega) (by omega)
          refine ⟨v4', s', q1, q2, Or.inr ⟨j + 1, by omega, by omega, hyes, fun i h1 h2 => by omega, Or.inr ⟨by omega, ?_⟩⟩⟩
          have h : v4' = nI (99 * L + j) ∧ s' = anC a p L (aPC a) := by
            rcases q3 with ⟨_, r2⟩ | ⟨m, _, _, _, _, m5⟩
            · exact r2
            · rcases m5 with m5 | m5
              · exact m5.2
              · omega
          exact ⟨h.1, h.2⟩
      · rw [if_neg c1]
        dsimp only
        rw [zl_let]
        exact skip (fun q => c1 (hval.mp q).2)
def rfR (a : AW) (N : Nat) (num days : Nat → Int32) (words : Nat → Int64) (p : Nat) (v2 : Int32) (s6 : Nat) (v4 : Int32) (s7 : Nat) : Prop := (v2 = -1 ∧ s6 = 16 ∧ v4 = -1 ∧ s7 = 99) ∨ ∃ L m, L < 26 ∧ 1 ≤ m ∧ m ≤ 99 ∧ v2 = nI L ∧ s6 = anC a p L (aPC a) ∧ v4 = nI (99 * L + m - 1) ∧ s7 = anC a p L (aPC a) ∧ f_X6_reformedNumber N num days words (nI p) (nI L) = some (nI m)
theorem rf_both (N : Nat) (hN : 100000 ≤ N) {a : AW} {row num days : Nat → Int32} {w words : Nat → Int64} (hok : zOK a) (hra : zRA a row w 0) (hn : ∀ i, i < 26 → num i = nI (aN a i)) (hw : ∀ q, q < aPC a → days q = nI (aD a q) ∧ words q = lN (aW a q)) {p : Nat} (hp : p < aPC a) (hW : isW 9 (aW a p)) {v3 : Int32} (hv3 : v3.toInt = (aD a p : Int) - aSum a (aW a p)) (K6 : Int32 → Option Int32) (K7 : Int32 → Int32 → Option Int32) : ∀ (n L f f' s6 s7 : Nat) (v2 v4 : Int32), L + n = 26 → n < f → 99 * n < f' → rfR a N num days words p v2 s6 v4 s7 → ∃ v2' s6' v4' s7', f_X6_bestReformedLetter_L8 N K6 num days words (nI (aPC a)) (nI p) f v2 (nI s6) (nI L) = K6 v2' ∧ f_X7_reform_L71 N K7 row w (nI p) v3 f' v4 (nI s7) (nI (99 * L)) = K7 v4' (nI s7') ∧ rfR a N num days words p v2' s6' v4' s7' := by
  intro n
  induction n with
  | zero =>
    intro L f f' s6 s7 v2 v4 hL hf hf' hR
    obtain ⟨f, rfl⟩ : ∃ g, f = g + 1 := ⟨f - 1, by omega⟩
    obtain ⟨f', rfl⟩ : ∃ g, f' = g + 1 := ⟨f' - 1, by omega⟩
    have hL : L = 26 := by omega
    subst hL
    rw [f_X6_bestReformedLetter_L8_s, f_X7_reform_L71_s, if_pos (show (26 : Int32) ≤ nI 26 by decide), if_pos (show (2574 : Int32) ≤ nI (99 * 26) by decide)]
    exact ⟨v2, s6, v4, s7, rfl, rfl, hR⟩
  | succ n ih =>
    intro L f f' s6 s7 v2 v4 hL hf hf' hR
    obtain ⟨f, rfl⟩ : ∃ g, f = g + 1 := ⟨f - 1, by omega⟩
    have hL2 : L < 26 := by omega
    have hc := anC_lt hok (L := L) hp
    have hs7 : s7 ≤ 99 ∧ s6 ≤ 16 ∧ (s6 ≤ anC a p L (aPC a) ↔ s7 ≤ anC a p L (aPC a)) := by
      rcases hR with ⟨_, h2, _, h4⟩ | ⟨L', m', h0, _, _, _, h5, _, h7, _⟩
      · omega
      · have := anC_lt hok (L := L') hp
        omega
    obtain ⟨v4', s7', q1, q2, q3⟩ := r71 N hN hok hra hp hL2 hW hv3 K7 99 0 f' s7 v4 (by omega) (by omega) hs7.1
    rw [Nat.add_zero] at q1
    obtain ⟨r, r1, r2⟩ := rn_eq N hN hok hn hw hp hL2 hW
    rw [f_X6_bestReformedLetter_L8_s, if_neg (show ¬ (26 : Int32) ≤ nI L from nI_ge (b := 26) (by omega) (by decide)), zl_b1 r1, zl_let, q1]
    rcases r2 with ⟨r3, r4⟩ | ⟨m, m1, m2, m3, m4, m5⟩
    · rw [if_pos r3]
      dsimp only
      rw [zl_let, nI_1]
      have h : v4' = v4 ∧ s7' = s7 := by
        rcases q3 with ⟨_, h⟩ | ⟨m, a1, a2, a3, _⟩
        · exact h
        · exact absurd a3 (r4 m (by omega) a2)
      rw [h.1, h.2]
      exact ih (L + 1) f (f' - 99) s6 s7 v2 v4 (by omega) (by omega) (by omega) hR
    · rw [if_neg (show ¬ r = -1 from fun e => by
        rw [m3] at e
        exact zl_nm1 (n := m) (by omega) e), zl_b1 (ca6 N hN hok hn hw hp hL2)]
      rcases q3 with ⟨a1, _⟩ | ⟨m', a1, a2, a3, a4, a5⟩
      · exact absurd m4 (a1 m (by omega) m2)
      · have em : m' = m := by
          have h1 : ¬ m < m' := fun h => a4 m (by omega) h m4
          have h2 : ¬ m' < m := fun h => m5 m' (by omega) h a3
          omega
        subst em
        by_cases c : s6 ≤ anC a p L (aPC a)
        · rw [if_pos (nI_le c (by omega))]
          dsimp only
          rw [zl_let, nI_1]
          have h : v4' = v4 ∧ s7' = s7 := by
            rcases a5 with a5 | a5
            · exact a5.2
            · omega
          rw [h.1, h.2]
          exact ih (L + 1) f (f' - 99) s6 s7 v2 v4 (by omega) (by omega) (by omega) hR
        · rw [if_neg (nI_ge (by omega) (by omega)), zl_b1 (ca6 N hN hok hn hw hp hL2)]
          dsimp only
          rw [zl_let, nI_1]
          have h : v4' = nI (99 * L + m' - 1) ∧ s7' = anC a p L (aPC a) := by
            rcases a5 with a5 | a5
            · omega
            · exact a5.2
          rw [h.1, h.2]
          rw [m3] at r1
          exact ih (L + 1) f (f' - 99) _ _ _ _ (by omega) (by omega) (by omega) (Or.inr ⟨L, m', hL2, m1, m2, rfl, rfl, rfl, rfl, r1⟩)
theorem pr_reform (c : Nat → ClassId) (n_numbers : Nat → Int32) (n_syllables : Nat → Int64) (n_syllableCount : Int32) (n_days : Nat → Int32) (n_words : Nat → Int64) (n_parents : Nat → Int32) (n_otherParents : Nat → Int32) (n_kinds : Nat → Int32) (n_personCount : Int32) (n_hopeDays : Nat → Int32) (n_hopeTenths : Nat → Int32) (n_hopeCount : Int32) (n_degreesTold : Int32) (r_text : Nat → Int32) (r_length : Int32) (s_lane : Nat → Int32) (s_size : Nat → Int32) (s_items : Nat → Nat → Int32) (i_ir : Nat → Option Nat) (g0 : va_W) (g1 : va_W) (z_row : Nat → Int32) (z_words : Nat → Int64) (z_isKept : Nat → Int32) (z_text : Nat → Int32) (z_length : Int32) (z_lanes : Nat → Int32) (z_sizes : Nat → Int32) (z_items : Nat → Int32) (p1 : Int32) (p2 : Int32) (N : Nat) (hN : 100000 ≤ N) (hR : zRel c n_numbers n_syllables n_syllableCount n_days n_words n_parents n_otherParents n_kinds n_personCount n_hopeDays n_hopeTenths n_hopeCount n_degreesTold r_text r_length s_lane s_size s_items i_ir g0 g1 z_row z_words z_isKept z_text z_length z_lanes z_sizes z_items) : ∃ (r : Int32), f_X6_reform N n_numbers n_days n_words n_personCount p1 p2 = some r ∧ f_X7_reform N z_row z_words p1 p2 = some r ∧ zRel c n_numbers n_syllables n_syllableCount n_days n_words n_parents n_otherParents n_kinds n_personCount n_hopeDays n_hopeTenths n_hopeCount n_degreesTold r_text r_length s_lane s_size s_items i_ir g0 g1 z_row z_words z_isKept z_text z_length z_lanes z_sizes z_items := by
  obtain ⟨⟨a, hok, hw, hra⟩, _⟩ := id hR
  have hpc : aPC a ≤ 16 := hok.2.2.2.2.1
  have h38 : z_row 38 = nI (aPC a) := hra.2.2.2.2.1
  suffices hh : ∃ r, f_X6_reform N n_numbers n_days n_words n_personCount p1 p2 = some r ∧ f_X7_reform N z_row z_words p1 p2 = some r by
    obtain ⟨r, h1, h2⟩ := hh
    exact ⟨r, h1, h2, hR⟩
  unfold f_X6_reform f_X7_reform
  rw [hw.2.2.2.1]
  rcases zl_case p1 (aPC a) (by omega) with ⟨p, hp, rfl⟩ | h
  · rw [zl_bT (zl_isPerson_t hp hpc), zl_bT (zl_7isPerson_t h38 hpc hp)]
    rcases zl_case p2 3 (by decide) with ⟨t, ht, rfl⟩ | h'
    · have ht2 : (nI t).toInt64.toInt = t := by rw [zl_wide, nI_toInt (by omega)]
      have hwo : ∀ q, q < aPC a → n_days q = nI (aD a q) ∧ n_words q = lN (aW a q) := fun q hq => ⟨(hw.2.2.2.2.1 q hq).1, (hw.2.2.2.2.1 q hq).2.1⟩
      have hd := hok.2.2.2.2.2.1 p hp
      obtain ⟨d0, d1⟩ := hwo p hp
      obtain ⟨g0, _, _, g3⟩ := zl_p55 hra hp
      rw [if_neg (nI_pos (by omega)), if_pos (show nI t ≤ (2 : Int32) from nI_le (b := 2) (by omega) (by decide)), zl_gd (zl_inN (show p < 16 by omega) (by decide)), zl_cl (show p < 2 ^ 31 by omega), d1, zl_bT (zl_in7t (by rw [ht2]; exact ⟨by show (0 : Int) ≤ t; omega, by show (t : Int) ≤ 2; omega⟩)), zl_gd (zl_inN (show p < 48 by omega) (by decide)), g3]
      rcases hd.2.2.1 with c | c
      · rw [c, if_pos (show lN 0 = (0 : Int64) from rfl), if_pos (show lN 0 = (0 : Int64) from rfl)]
        exact ⟨_, rfl, rfl⟩
      · have h63 := w_63 c
        have hsl := aSum_le hok h63
        have hne : ¬ lN (aW a p) = (0 : Int64) := fun q => c.1 ((cd_0 h63).mp q)
        have hv3 : (nI (aD a p) - nI (aSum a (aW a p))).toInt = (aD a p : Int) - aSum a (aW a p) := pk_sub_toInt (by omega) (by omega)
        obtain ⟨v2, s6, v4, s7, q1, q2, q3⟩ := rf_both N hN hok hra hw.1 hwo hp c hv3 (fun v => some v) (fun (v4_32 : Int32) (v5_33 : Int32) => (if v4_32 = (-1 : Int32) then (some (-1 : Int32)) else (if nI t = 0 then (some (v4_32 / (99 : Int32))) else (if nI t = (1 : Int32) then (some ((v4_32 - v4_32 / (99 : Int32) * (99 : Int32)) + (1 : Int32))) else (some v5_33))))) 26 0 N N 16 99 (-1) (-1) (by omega) (by omega) (by omega) (Or.inl ⟨rfl, rfl, rfl, rfl⟩)
        have q1' : f_X6_bestReformedLetter N n_numbers n_days n_words (nI (aPC a)) (nI p) = some v2 := by
          unfold f_X6_bestReformedLetter
          rw [zl_let]
          exact q1
        rw [if_neg hne, if_neg hne, zl_b1 q1', show (39 : Int32) = nI 39 from rfl, nI_add, zl_gd (zl_inN (show 39 + p < 300 by omega) (by decide)), zl_b1 (sum7 N hN (zl_row0 hra) h63 (isW_iff.mp c).2.2), zl_let, zl_let, zl_cl (show 39 + p < 2 ^ 31 by omega), g0]
        rw [show f_X7_reform_L71 N _ z_row z_words (nI p) (nI (aD a p) - nI (aSum a (aW a p))) N (-1) 99 0 = _ from q2]
        rcases q3 with ⟨e1, _, e3, _⟩ | ⟨L, m, hL, m1, m2, e1, e2, e3, e4, e5⟩
        · rw [e1, e3, if_pos rfl, if_pos rfl]
          exact ⟨_, rfl, rfl⟩
        · rw [e1, e3, e4, if_neg (zl_nm1 (by omega)), if_neg (zl_nm1 (by omega))]
          match t, ht with
          | 0, _ =>
            rw [if_pos (show nI 0 = 0 from rfl), if_pos (show nI 0 = 0 from rfl), show (99 : Int32) = nI 99 from rfl, pk_div (by omega) (by decide) (by decide), show (99 * L + m - 1) / 99 = L by omega]
            exact ⟨_, rfl, rfl⟩
          | 1, _ =>
            rw [if_neg (show ¬ nI 1 = 0 by decide), if_neg (show ¬ nI 1 = 0 by decide), if_pos (show nI 1 = 1 from rfl), if_pos (show nI 1 = 1 from rfl), zl_b1 e5, show (99 : Int32) = nI 99 from rfl, pk_rem (by omega) (by decide) (by decide), nI_1, show (99 * L + m - 1) % 99 + 1 = m by omega]
            exact ⟨_, rfl, rfl⟩
          | 2, _ =>
            rw [if_neg (show ¬ nI 2 = 0 by decide), if_neg (show ¬ nI 2 = 0 by decide), if_neg (show ¬ nI 2 = 1 by decide), if_neg (show ¬ nI 2 = 1 by decide), zl_b1 (ca6 N hN hok hw.1 hwo hp hL)]
            exact ⟨_, rfl, rfl⟩
    · rw [zl_bF (zl_in7f (by
          rw [zl_wide]
          intro q
          have q1 : (0 : Int) ≤ p2.toInt := q.1
          have q2 : p2.toInt ≤ 2 := q.2
          exact h' ⟨q1, by omega⟩))]
      by_cases c : p2 < 0
      · rw [if_pos c]
        exact ⟨_, rfl, rfl⟩
      · rw [if_neg c, if_neg (fun q => by
            rw [zl_lt0] at c
            rw [fa_le] at q
            exact h' ⟨by omega, by
              have : (2 : Int32).toInt = 2 := rfl
              omega⟩)]
        exact ⟨_, rfl, rfl⟩
  · rw [zl_bF (zl_isPerson_f h hpc), zl_bF (zl_7isPerson_f h38 hpc h)]
    exact ⟨_, rfl, rfl⟩
