/-! ===== a reform of one letter ===== -/
def tmN (n L : Nat) : Nat := (zL n).count (L + 1)
theorem tmN_s {n L : Nat} (h0 : n ≠ 0) (h : n < 2 ^ 63) : tmN n L = tmN (n / 27) L + (if n % 27 = L + 1 then 1 else 0) := by
  unfold tmN
  rw [zL_s h0 h, List.count_cons]
  by_cases c : n % 27 = L + 1
  · rw [if_pos c, if_pos (beq_iff_eq.mpr c)]
  · rw [if_neg c, if_neg (fun q => c (beq_iff_eq.mp q))]
theorem tm6_loop (N : Nat) {L : Nat} (hL : L < 26) (K : Int32 → Option Int32) : ∀ (d i f m s : Nat), i + d = 9 → d < f → m < 27 ^ d → m < 2 ^ 63 → zDg (zL m) = true → f_X6_timesIn_L8 N K (nI L) f (nI s) (lN m) (nI i) = K (nI (s + tmN m L)) := by
  intro d
  induction d with
  | zero =>
    intro i f m s hi hf hm h2 _
    obtain ⟨f', rfl⟩ : ∃ f', f = f' + 1 := ⟨f - 1, by omega⟩
    have : m = 0 := by
      rw [Nat.pow_zero] at hm
      omega
    rw [this, f_X6_timesIn_L8_s, if_pos (show (9 : Int32) ≤ nI i from nI_le (a := 9) (by omega) (by omega))]
    rfl
  | succ d ih =>
    intro i f m s hi hf hm h2 hD
    obtain ⟨f', rfl⟩ : ∃ f', f = f' + 1 := ⟨f - 1, by omega⟩
    rw [f_X6_timesIn_L8_s, if_neg (show ¬ (9 : Int32) ≤ nI i from nI_ge (b := 9) (by omega) (by omega))]
    by_cases c : m = 0
    · rw [if_pos ((cd_pos h2).mpr c), c]
      rfl
    · rw [zDg_s c h2, Bool.and_eq_true, Bool.not_eq_true', beq_eq_false_iff_ne] at hD
      have ih2 := fun s => ih (i + 1) f' (m / 27) s (by omega) (by omega) (by rw [Nat.pow_succ] at hm; omega) (by omega) hD.2
      rw [if_neg (fun q => c ((cd_pos h2).mp q)), zl_b1 (cd_last h2 hD.1), zl_let, tmN_s c h2]
      by_cases c2 : m % 27 = L + 1
      · rw [if_pos (show nI (m % 27 - 1) = nI L by rw [c2]; rfl), zl_let, nI_1, if_pos c2]
        dsimp only
        rw [zl_let, zl_let, cd_div h2, nI_1, ih2]
        congr 2
        omega
      · rw [if_neg (show ¬ nI (m % 27 - 1) = nI L from fun q => c2 (by
          have := (nI_eq (by omega) (by omega)).mp q
          omega)), if_neg c2]
        dsimp only
        rw [zl_let, zl_let, cd_div h2, nI_1, ih2]
        rfl
theorem tm6 (N : Nat) (hN : 100000 ≤ N) {L : Nat} (hL : L < 26) {n : Nat} (hW : isW 9 n) : f_X6_timesIn N (lN n) (nI L) = some (nI (tmN n L)) := by
  obtain ⟨h0, h9, hD⟩ := isW_iff.mp hW
  unfold f_X6_timesIn
  rw [zl_let]
  have := tm6_loop N hL (fun v => some v) 9 0 N n 0 (by omega) (by omega) h9 (w_63 hW) hD
  rw [Nat.zero_add] at this
  exact this
theorem tm7_loop (N : Nat) {L : Nat} (hL : L < 26) (K : Int32 → Option Int32) : ∀ (d f m s : Nat), (zL m).length ≤ d → d < f → m < 2 ^ 63 → zDg (zL m) = true → f_X7_timesIn_L5 N K (nI L) f (nI s) (lN m) = K (nI (s + tmN m L)) := by
  intro d
  induction d with
  | zero =>
    intro f m s hd hf h2 _
    obtain ⟨f', rfl⟩ : ∃ f', f = f' + 1 := ⟨f - 1, by omega⟩
    have : m = 0 := by
      by_cases c : m = 0
      · exact c
      · rw [zL_s c h2, List.length_cons] at hd
        omega
    rw [this, f_X7_timesIn_L5_s, if_pos (show lN 0 ≤ (0 : Int64) by decide)]
    rfl
  | succ d ih =>
    intro f m s hd hf h2 hD
    obtain ⟨f', rfl⟩ : ∃ f', f = f' + 1 := ⟨f - 1, by omega⟩
    rw [f_X7_timesIn_L5_s]
    by_cases c : m = 0
    · rw [if_pos ((cd_pos h2).mpr c), c]
      rfl
    · rw [zL_s c h2, List.length_cons] at hd
      rw [zDg_s c h2, Bool.and_eq_true, Bool.not_eq_true', beq_eq_false_iff_ne] at hD
      have ih2 := fun s => ih f' (m / 27) s (by omega) (by omega) (by omega) hD.2
      have e : ((lN m - lN m / (27 : Int64) * (27 : Int64)).toInt32) - (1 : Int32) = nI (m % 27 - 1) := by
        rw [cd_rem h2, lN_i, show (1 : Int32) = nI 1 from rfl, pk_sub (by omega)]
      rw [if_neg (fun q => c ((cd_pos h2).mp q)), zl_let, e, tmN_s c h2]
      have yes : ∀ x : Nat, zz_let (nI s + nI x) (fun v3_8 => zz_let (lN m / (27 : Int64)) (fun v4_9 => (f_X7_timesIn_L5 N K (nI L) f' v3_8 v4_9))) = K (nI (s + x + tmN (m / 27) L)) := fun x => by
        rw [zl_let, zl_let, cd_div h2, nI_add, ih2]
      by_cases c2 : m % 27 = L + 1
      · rw [if_pos (show nI (m % 27 - 1) = nI L by rw [c2]; rfl), if_pos c2]
        refine (yes 1).trans ?_
        congr 2
        omega
      · rw [if_neg (show ¬ nI (m % 27 - 1) = nI L from fun q => c2 (by
          have := (nI_eq (by omega) (by omega)).mp q
          omega)), if_neg c2]
        exact yes 0
theorem tm7 (N : Nat) (hN : 100000 ≤ N) {L : Nat} (hL : L < 26) {n : Nat} (hW : isW 9 n) : f_X7_timesIn N (lN n) (nI L) = some (nI (tmN n L)) := by
  obtain ⟨h0, h9, hD⟩ := isW_iff.mp hW
  unfold f_X7_timesIn
  rw [zl_let]
  have := tm7_loop N hL (fun v => some v) 14 N n 0 (zL_14 (w_63 hW)) (by omega) (w_63 hW) hD
  rw [Nat.zero_add] at this
  exact this
theorem tm_le {n L : Nat} (hW : isW 9 n) : tmN n L ≤ 9 := Nat.le_trans List.count_le_length (zL_lt (isW_iff.mp hW).2.1 (w_63 hW))
/-- who must be called anew if letter L changes -/
def anP (a : AW) (p L q : Nat) : Bool := !(q == p) && (!(aW a q == 0) && ((aSum a (aW a q) == aD a q) && decide (0 < tmN (aW a q) L)))
def anC (a : AW) (p L n : Nat) : Nat := fb_ct (anP a p L) n
theorem ca6_loop (N : Nat) (hN : 100000 ≤ N) {a : AW} {num days : Nat → Int32} {words : Nat → Int64} (hok : zOK a) (hn : ∀ i, i < 26 → num i = nI (aN a i)) (hw : ∀ q, q < aPC a → days q = nI (aD a q) ∧ words q = lN (aW a q)) {p L : Nat} (hp : p < aPC a) (hL : L < 26) (K : Int32 → Option Int32) : ∀ (d i f : Nat), i + d = aPC a → d < f → f_X6_calledAnew_L5 N K num days words (nI (aPC a)) (nI p) (nI L) f (nI (anC a p L i)) (nI i) = K (nI (anC a p L (aPC a))) := by
  have hpc : aPC a ≤ 16 := hok.2.2.2.2.1
  intro d
  induction d with
  | zero =>
    intro i f hi hf
    obtain ⟨f', rfl⟩ : ∃ f', f = f' + 1 := ⟨f - 1, by omega⟩
    rw [f_X6_calledAnew_L5_s, if_pos (nI_le (by omega) (by omega)), show i = aPC a by omega]
  | succ d ih =>
    intro i f hi hf
    obtain ⟨f', rfl⟩ : ∃ f', f = f' + 1 := ⟨f - 1, by omega⟩
    have hi2 : i < aPC a := by omega
    have ih2 := ih (i + 1) f' (by omega) (by omega)
    have es : anC a p L (i + 1) = anC a p L i + (if anP a p L i = true then 1 else 0) := fb_ct_succ _ _
    rw [es] at ih2
    obtain ⟨w1, w2⟩ := hw i hi2
    have hd := hok.2.2.2.2.2.1 i hi2
    rw [f_X6_calledAnew_L5_s, if_neg (nI_ge (by omega) (by omega)), zl_let]
    have no : anP a p L i = false → (fun (v3_13 : Int32) => zz_let (nI i + (1 : Int32)) (fun v4_14 => (f_X6_calledAnew_L5 N K num days words (nI (aPC a)) (nI p) (nI L) f' v3_13 v4_14))) (nI (anC a p L i)) = K (nI (anC a p L (aPC a))) := fun h => by
      rw [h] at ih2
      dsimp only
      rw [zl_let, nI_1]
      exact ih2
    by_cases c1 : i = p
    · rw [if_pos (show nI i = nI p by rw [c1])]
      refine no ?_
      unfold anP
      rw [beq_iff_eq.mpr c1]
      rfl
    · rw [if_neg (show ¬ nI i = nI p from fun q => c1 ((nI_eq (by omega) (by omega)).mp q))]
      unfold f_X5_addsUp
      rw [zl_gd (zl_inN (show i < 16 by omega) (by decide)), zl_cl (show i < 2 ^ 31 by omega), w1, w2]
      rcases hd.2.2.1 with c | c
      · rw [c, if_pos (show lN 0 = (0 : Int64) from rfl), zl_b1 rfl, if_pos rfl]
        refine no ?_
        unfold anP
        rw [c, beq_eq_false_iff_ne.mpr c1]
        rfl
      · have h63 := w_63 c
        have hsl := aSum_le hok h63
        have htl := tm_le (L := L) c
        rw [if_neg (fun q => c.1 ((cd_0 h63).mp q)), zl_b1 (sum6 N hN hn (isW_iff.mp c).2.1 (isW_iff.mp c).2.2)]
        by_cases c2 : aSum a (aW a i) = aD a i
        · rw [if_pos (show nI (aSum a (aW a i)) = nI (aD a i) by rw [c2]), zl_b1 rfl, if_neg (show ¬ (1 : Int32) = 0 by decide), zl_gd (zl_inN (show i < 16 by omega) (by decide)), zl_b1 (tm6 N hN hL c)]
          by_cases c3 : 0 < tmN (aW a i) L
          · rw [if_neg (nI_nle c3 (by omega)), zl_let, nI_1]
            have h : anP a p L i = true := by
              unfold anP
              rw [beq_eq_false_iff_ne.mpr c1, beq_eq_false_iff_ne.mpr c.1, beq_iff_eq.mpr c2, decide_eq_true c3]
              rfl
            rw [h, if_pos rfl] at ih2
            dsimp only
            rw [zl_let, nI_1]
            exact ih2
          · rw [if_pos (show nI (tmN (aW a i) L) ≤ 0 by rw [show tmN (aW a i) L = 0 by omega]; decide)]
            refine no ?_
            unfold anP
            rw [decide_eq_false c3, Bool.and_false, Bool.and_false, Bool.and_false]
        · rw [if_neg (show ¬ nI (aSum a (aW a i)) = nI (aD a i) from fun q => c2 ((nI_eq (by omega) (by omega)).mp q)), zl_b1 rfl, if_pos rfl]
          refine no ?_
          unfold anP
          rw [beq_eq_false_iff_ne.mpr c2, Bool.false_and, Bool.and_false, Bool.and_false]
theorem ca6 (N : Nat) (hN : 100000 ≤ N) {a : AW} {num days : Nat → Int32} {words : Nat → Int64} (hok : zOK a) (hn : ∀ i, i < 26 → num i = nI (aN a i)) (hw : ∀ q, q < aPC a → days q = nI (aD a q) ∧ words q = lN (aW a q)) {p L : Nat} (hp : p < aPC a) (hL : L < 26) : f_X6_calledAnew N num days words (nI (aPC a)) (nI p) (nI L) = some (nI (anC a p L (aPC a))) := by
  have hpc : aPC a ≤ 16 := hok.2.2.2.2.1
  unfold f_X6_calledAnew
  rw [zl_let]
  exact ca6_loop N hN hok hn hw hp hL (fun v => some v) (aPC a) 0 N (by omega) (by omega)
theorem an7c_loop (N : Nat) (hN : 100000 ≤ N) {a : AW} {row : Nat → Int32} {w : Nat → Int64} (hok : zOK a) (hra : zRA a row w 0) {p L : Nat} (hp : p < aPC a) (hL : L < 26) {dl : Int32} (hd0 : dl.toInt ≠ 0) (hd1 : -1000 ≤ dl.toInt) (hd2 : dl.toInt ≤ 1000) (K : Int32 → Option Int32) : ∀ (d i f : Nat), i + d = aPC a → d < f → f_X7_anew_L6 N K row w (nI p) (nI L) dl f (nI (anC a p L i)) (nI i) = K (nI (anC a p L (aPC a))) := by
  have hpc : aPC a ≤ 16 := hok.2.2.2.2.1
  have h38 : row (38 : Int32).toNatClampNeg = nI (aPC a) := hra.2.2.2.2.1
  intro d
  induction d with
  | zero =>
    intro i f hi hf
    obtain ⟨f', rfl⟩ : ∃ f', f = f' + 1 := ⟨f - 1, by omega⟩
    rw [f_X7_anew_L6_s, h38, if_pos (nI_le (by omega) (by omega)), show i = aPC a by omega]
  | succ d ih =>
    intro i f hi hf
    obtain ⟨f', rfl⟩ : ∃ f', f = f' + 1 := ⟨f - 1, by omega⟩
    have hi2 : i < aPC a := by omega
    have ih2 := ih (i + 1) f' (by omega) (by omega)
    have es : anC a p L (i + 1) = anC a p L i + (if anP a p L i = true then 1 else 0) := fb_ct_succ _ _
    rw [es] at ih2
    obtain ⟨g0, _, _, g3⟩ := zl_p55 hra hi2
    have hd := hok.2.2.2.2.2.1 i hi2
    rw [f_X7_anew_L6_s, h38, if_neg (nI_ge (by omega) (by omega)), zl_let]
    have fin : ∀ x : Nat, x = (if anP a p L i = true then 1 else 0) → zz_let (nI (anC a p L i) + nI x) (fun v4_19 => zz_let (nI i + (1 : Int32)) (fun v5_20 => (f_X7_anew_L6 N K row w (nI p) (nI L) dl f' v4_19 v5_20))) = K (nI (anC a p L (aPC a))) := fun x hx => by
      rw [zl_let, zl_let, nI_1, nI_add, hx]
      exact ih2
    have no : anP a p L i = false → zz_let (nI (anC a p L i) + nI 0) (fun v4_19 => zz_let (nI i + (1 : Int32)) (fun v5_20 => (f_X7_anew_L6 N K row w (nI p) (nI L) dl f' v4_19 v5_20))) = K (nI (anC a p L (aPC a))) := fun h => fin 0 (by rw [h]; rfl)
    by_cases c1 : i = p
    · rw [if_pos (show nI i = nI p by rw [c1])]
      dsimp only
      rw [zl_let, if_pos rfl]
      refine no ?_
      unfold anP
      rw [beq_iff_eq.mpr c1]
      rfl
    · rw [if_neg (show ¬ nI i = nI p from fun q => c1 ((nI_eq (by omega) (by omega)).mp q)), zl_gd (zl_inN (show i < 48 by omega) (by decide)), zl_cl (show i < 2 ^ 31 by omega), g3]
      rcases hd.2.2.1 with c | c
      · rw [c, if_pos (show lN 0 ≤ (0 : Int64) by decide)]
        dsimp only
        rw [zl_let, if_pos rfl]
        refine no ?_
        unfold anP
        rw [c, beq_eq_false_iff_ne.mpr c1]
        rfl
      · have h63 := w_63 c
        have hsl := aSum_le hok h63
        have htl := tm_le (L := L) c
        rw [if_neg (fun q => c.1 ((cd_pos h63).mp q)), zl_b1 (sum7 N hN (zl_row0 hra) h63 (isW_iff.mp c).2.2), show (39 : Int32) = nI 39 from rfl, nI_add, zl_gd (zl_inN (show 39 + i < 300 by omega) (by decide)), zl_cl (show 39 + i < 2 ^ 31 by omega), g0]
        by_cases c2 : aSum a (aW a i) = aD a i
        · rw [if_pos (show nI (aSum a (aW a i)) = nI (aD a i) by rw [c2])]
          dsimp only
          rw [zl_let, if_neg (show ¬ (1 : Int32) = 0 by decide), zl_gd (zl_inN (show i < 48 by omega) (by decide)), zl_b1 (tm7 N hN hL c)]
          have hm : (nI (tmN (aW a i) L) * dl).toInt = (tmN (aW a i) L : Int) * dl.toInt := by
            have e := nI_toInt (n := tmN (aW a i) L) (by omega)
            have b1 : (tmN (aW a i) L : Int) * dl.toInt ≤ 9 * 1000 := by
              rcases Int.le_total 0 dl.toInt with q | q
              · exact Int.mul_le_mul (by omega) hd2 q (by decide)
              · have := Int.mul_nonpos_of_nonneg_of_nonpos (show (0 : Int) ≤ (tmN (aW a i) L : Int) by omega) q
                omega
            have b2 : -(9 * 1000) ≤ (tmN (aW a i) L : Int) * dl.toInt := by
              have q : (tmN (aW a i) L : Int) * (-dl.toInt) ≤ 9 * 1000 := by
                rcases Int.le_total 0 (-dl.toInt) with q | q
                · exact Int.mul_le_mul (by omega) (by omega) q (by decide)
                · have := Int.mul_nonpos_of_nonneg_of_nonpos (show (0 : Int) ≤ (tmN (aW a i) L : Int) by omega) q
                  omega
              rw [Int.mul_neg] at q
              omega
            rw [fb_mulI (by rw [e]; omega) (by rw [e]; omega), e]
          by_cases c3 : 0 < tmN (aW a i) L
          · rw [if_neg (fun q => by
              rw [fa_eq, hm] at q
              have h0 : (0 : Int32).toInt = 0 := rfl
              rw [h0] at q
              rcases Int.mul_eq_zero.mp q with q | q
              · omega
              · exact hd0 q)]
            refine fin 1 ?_
            have h : anP a p L i = true := by
              unfold anP
              rw [beq_eq_false_iff_ne.mpr c1, beq_eq_false_iff_ne.mpr c.1, beq_iff_eq.mpr c2, decide_eq_true c3]
              rfl
            rw [h]
            rfl
          · rw [if_pos (by
              rw [fa_eq, hm, show tmN (aW a i) L = 0 by omega]
              exact Int.zero_mul _)]
            refine no ?_
            unfold anP
            rw [decide_eq_false c3, Bool.and_false, Bool.and_false, Bool.and_false]
        · rw [if_neg (show ¬ nI (aSum a (aW a i)) = nI (aD a i) from fun q => c2 ((nI_eq (by omega) (by omega)).mp q))]
          dsimp only
          rw [zl_let, if_pos rfl]
          refine no ?_
          unfold anP
          rw [beq_eq_false_iff_ne.mpr c2, Bool.false_and, Bool.and_false, Bool.and_false]
theorem an7c (N : Nat) (hN : 100000 ≤ N) {a : AW} {row : Nat → Int32} {w : Nat → Int64} (hok : zOK a) (hra : zRA a row w 0) {p L : Nat} (hp : p < aPC a) (hL : L < 26) {dl : Int32} (hd0 : dl.toInt ≠ 0) (hd1 : -1000 ≤ dl.toInt) (hd2 : dl.toInt ≤ 1000) : f_X7_anew N row w (nI p) (nI L) dl = some (nI (anC a p L (aPC a))) := by
  have hpc : aPC a ≤ 16 := hok.2.2.2.2.1
  unfold f_X7_anew
  rw [zl_let]
  exact an7c_loop N hN hok hra hp hL hd0 hd1 hd2 (fun v => some v) (aPC a) 0 N (by omega) (by omega)
