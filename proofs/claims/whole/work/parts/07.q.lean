/-! ===== names: by syllables ===== -/
def aB (a : AW) (n : Nat) : Bool := (zL n).all (fun x => decide (0 < aN a (x - 1)))
theorem aB_s (a : AW) {n : Nat} (h0 : n ≠ 0) (h : n < 2 ^ 63) : aB a n = (decide (0 < aN a (n % 27 - 1)) && aB a (n / 27)) := by
  unfold aB
  rw [zL_s h0 h]
  rfl
theorem ba_loop (N : Nat) {a : AW} {row : Nat → Int32} (hok : zOK a) (hn : ∀ i, i < 26 → row i = nI (aN a i)) (K : Int32 → Option Int32) : ∀ (d f m : Nat) (b : Bool), (zL m).length ≤ d → d < f → m < 2 ^ 63 → zDg (zL m) = true → f_X7_isBare_L5 N K row f (if b = true then 1 else 0) (lN m) = K (if (b && aB a m) = true then 1 else 0) := by
  intro d
  induction d with
  | zero =>
    intro f m b hd hf h2 _
    obtain ⟨f', rfl⟩ : ∃ f', f = f' + 1 := ⟨f - 1, by omega⟩
    have : m = 0 := by
      by_cases c : m = 0
      · exact c
      · rw [zL_s c h2, List.length_cons] at hd
        omega
    rw [this, f_X7_isBare_L5_s, if_pos (show lN 0 ≤ (0 : Int64) by decide), show aB a 0 = true from rfl, Bool.and_true]
  | succ d ih =>
    intro f m b hd hf h2 hD
    obtain ⟨f', rfl⟩ : ∃ f', f = f' + 1 := ⟨f - 1, by omega⟩
    rw [f_X7_isBare_L5_s]
    by_cases c : m = 0
    · rw [if_pos ((cd_pos h2).mpr c), c, show aB a 0 = true from rfl, Bool.and_true]
    · rw [zL_s c h2, List.length_cons] at hd
      rw [zDg_s c h2, Bool.and_eq_true, Bool.not_eq_true', beq_eq_false_iff_ne] at hD
      have e : ((lN m - lN m / (27 : Int64) * (27 : Int64)).toInt32) - (1 : Int32) = nI (m % 27 - 1) := by
        rw [cd_rem h2, lN_i, show (1 : Int32) = nI 1 from rfl, pk_sub (by omega)]
      have h99 := hok.1 (m % 27 - 1) (by omega)
      rw [if_neg (fun q => c ((cd_pos h2).mp q)), e, zl_let, cd_div h2, aB_s a c h2]
      cases b with
      | false =>
        rw [if_pos (show (if false = true then (1 : Int32) else 0) = 0 from rfl)]
        dsimp only
        rw [zl_let]
        have := ih f' (m / 27) false (by omega) (by omega) (by omega) hD.2
        rw [Bool.false_and] at this ⊢
        exact this
      | true =>
        rw [if_neg (show ¬ (if true = true then (1 : Int32) else 0) = 0 by decide), zl_gd (zl_inN (show m % 27 - 1 < 300 by omega) (by decide)), zl_cl (by omega), hn _ (by omega)]
        by_cases c2 : 0 < aN a (m % 27 - 1)
        · rw [if_neg (nI_nle c2 (by omega)), decide_eq_true c2]
          dsimp only
          rw [zl_let]
          exact ih f' (m / 27) true (by omega) (by omega) (by omega) hD.2
        · rw [if_pos (show nI (aN a (m % 27 - 1)) ≤ 0 by rw [show aN a (m % 27 - 1) = 0 by omega]; decide), decide_eq_false c2]
          dsimp only
          rw [zl_let]
          have := ih f' (m / 27) false (by omega) (by omega) (by omega) hD.2
          rw [Bool.false_and] at this ⊢
          rw [Bool.and_false]
          exact this
theorem ba_eq (N : Nat) (hN : 100000 ≤ N) {a : AW} {row : Nat → Int32} (hok : zOK a) (hn : ∀ i, i < 26 → row i = nI (aN a i)) {m : Nat} (h : m < 2 ^ 63) (hD : zDg (zL m) = true) : f_X7_isBare N row (lN m) = some (if aB a m = true then 1 else 0) := by
  unfold f_X7_isBare
  rw [zl_let]
  have := ba_loop N hok hn (fun (v3_11 : Int32) => zz_gd (zz_isB v3_11) ((some v3_11))) 14 N m true (zL_14 h) (by omega) h hD
  rw [Bool.true_and] at this
  rw [show (1 : Int32) = (if true = true then (1 : Int32) else 0) from rfl, this]
  cases aB a m <;> rfl
theorem si_loop (N : Nat) {a : AW} {num : Nat → Int32} (hok : zOK a) (hn : ∀ i, i < 26 → num i = nI (aN a i)) (K : Option Int32) : ∀ (d i f m : Nat), i + d = 9 → d < f → m < 27 ^ d → m < 2 ^ 63 → zDg (zL m) = true → f_X5_sumInNames_L5 N K num f (lN m) (nI i) = if aB a m = true then K else some 0 := by
  intro d
  induction d with
  | zero =>
    intro i f m hi hf hm h2 _
    obtain ⟨f', rfl⟩ : ∃ f', f = f' + 1 := ⟨f - 1, by omega⟩
    have : m = 0 := by
      rw [Nat.pow_zero] at hm
      omega
    rw [this, f_X5_sumInNames_L5_s, if_pos (show (9 : Int32) ≤ nI i from nI_le (a := 9) (by omega) (by omega))]
    rfl
  | succ d ih =>
    intro i f m hi hf hm h2 hD
    obtain ⟨f', rfl⟩ : ∃ f', f = f' + 1 := ⟨f - 1, by omega⟩
    rw [f_X5_sumInNames_L5_s, if_neg (show ¬ (9 : Int32) ≤ nI i from nI_ge (b := 9) (by omega) (by omega))]
    by_cases c : m = 0
    · rw [if_pos ((cd_pos h2).mpr c), c]
      rfl
    · rw [zDg_s c h2, Bool.and_eq_true, Bool.not_eq_true', beq_eq_false_iff_ne] at hD
      have h99 := hok.1 (m % 27 - 1) (by omega)
      rw [if_neg (fun q => c ((cd_pos h2).mp q)), zl_b1 (cd_last h2 hD.1), zl_bT (zl_isLetter hD.1 (by omega)), zl_gd (zl_inN (show m % 27 - 1 < 26 by omega) (by decide)), zl_cl (by omega), hn _ (by omega), aB_s a c h2]
      by_cases c2 : 0 < aN a (m % 27 - 1)
      · rw [if_neg (nI_ne0 c2 (by omega)), decide_eq_true c2, Bool.true_and, zl_let, zl_let, cd_div h2, nI_1]
        exact ih (i + 1) f' (m / 27) (by omega) (by omega) (by rw [Nat.pow_succ] at hm; omega) (by omega) hD.2
      · rw [if_pos (show nI (aN a (m % 27 - 1)) = 0 by rw [show aN a (m % 27 - 1) = 0 by omega]; rfl), decide_eq_false c2]
        rfl
theorem si_eq (N : Nat) (hN : 100000 ≤ N) {a : AW} {num : Nat → Int32} (hok : zOK a) (hn : ∀ i, i < 26 → num i = nI (aN a i)) {m : Nat} (h : m < 27 ^ 9) (hD : zDg (zL m) = true) : f_X5_sumInNames N num (lN m) = if aB a m = true then some (nI (aSum a m)) else some 0 := by
  unfold f_X5_sumInNames
  rw [zl_let, show (0 : Int32) = nI 0 from rfl, si_loop N hok hn _ 9 0 N m (by omega) (by omega) h (by rw [p27] at h; omega) hD, zl_b1 (sum6 N hN hn h hD)]
  rfl
theorem aSum_pos {a : AW} {n : Nat} (h0 : n ≠ 0) (h : n < 2 ^ 63) (hb : aB a n = true) : 0 < aSum a n := by
  rw [aB_s a h0 h, Bool.and_eq_true] at hb
  have := of_decide_eq_true hb.1
  rw [aSum_s a h0 h]
  omega
theorem aV_le {a : AW} (hok : zOK a) : ∀ l : List Nat, (∀ x ∈ l, x < 27) → aV a l ≤ 99 * l.length := by
  intro l
  induction l with
  | nil =>
    intro _
    exact Nat.le_refl 0
  | cons x l ih =>
    intro h
    have h1 := ih (fun y hy => h y (List.mem_cons_of_mem _ hy))
    have h2 := h x List.mem_cons_self
    have h3 := hok.1 (x - 1) (by omega)
    rw [aV_cons, List.length_cons]
    omega
theorem aSum_le {a : AW} (hok : zOK a) {n : Nat} (h : n < 2 ^ 63) : aSum a n ≤ 1386 := by
  have h1 := aV_le hok (zL n) (zL_low n)
  have h2 := zL_14 h
  show aV a (zL n) ≤ 1386
  omega
def isSy (a : AW) (y : Nat) : Prop := ∃ i, i < aSC a ∧ aS a i = y
theorem sy_w {a : AW} (hok : zOK a) {y : Nat} (h : isSy a y) : isW 3 y := by
  obtain ⟨i, h1, rfl⟩ := h
  exact hok.2.2.1 i h1
theorem sy_lt {a : AW} (hok : zOK a) {y : Nat} (h : isSy a y) : y ≠ 0 ∧ y < 19683 := by
  have := sy_w hok h
  exact ⟨this.1, this.2.1⟩
theorem sy_loop (N : Nat) {a : AW} {syl : Nat → Int64} (hok : zOK a) (hs : ∀ i, i < aSC a → syl i = lN (aS a i)) {y : Nat} (hy : y < 2 ^ 63) (K : Option Int32) : ∀ (d i f : Nat), i + d = aSC a → d < f → (∃ j, i ≤ j ∧ j < aSC a ∧ aS a j = y) ∧ f_X5_isSyllable_L2 N K syl (nI (aSC a)) (lN y) f (nI i) = some 1 ∨ (¬ ∃ j, i ≤ j ∧ j < aSC a ∧ aS a j = y) ∧ f_X5_isSyllable_L2 N K syl (nI (aSC a)) (lN y) f (nI i) = K := by
  have hsc : aSC a ≤ 10 := hok.2.1
  intro d
  induction d with
  | zero =>
    intro i f hi hf
    obtain ⟨f', rfl⟩ : ∃ f', f = f' + 1 := ⟨f - 1, by omega⟩
    refine Or.inr ⟨fun ⟨j, h1, h2, _⟩ => by omega, ?_⟩
    rw [f_X5_isSyllable_L2_s, if_pos (nI_le (by omega) (by omega))]
  | succ d ih =>
    intro i f hi hf
    obtain ⟨f', rfl⟩ : ∃ f', f = f' + 1 := ⟨f - 1, by omega⟩
    have hw := hok.2.2.1 i (by omega)
    rw [f_X5_isSyllable_L2_s, if_neg (nI_ge (by omega) (by omega)), zl_gd (zl_inN (show i < 10 by omega) (by decide)), zl_cl (by omega), hs i (by omega)]
    by_cases c : aS a i = y
    · rw [if_pos (show lN (aS a i) = lN y by rw [c])]
      exact Or.inl ⟨⟨i, by omega, by omega, c⟩, rfl⟩
    · rw [if_neg (show ¬ lN (aS a i) = lN y from fun q => c ((pk_lEQ (by have := hw.2.1; omega) hy).mp q)), zl_let, nI_1]
      rcases ih (i + 1) f' (by omega) (by omega) with ⟨⟨j, h1, h2, h3⟩, h4⟩ | ⟨h1, h2⟩
      · exact Or.inl ⟨⟨j, by omega, h2, h3⟩, h4⟩
      · refine Or.inr ⟨?_, h2⟩
        rintro ⟨j, g1, g2, g3⟩
        by_cases e : j = i
        · rw [e] at g3
          exact c g3
        · exact h1 ⟨j, by omega, g2, g3⟩
theorem sy_eq (N : Nat) (hN : 100000 ≤ N) {a : AW} {syl : Nat → Int64} (hok : zOK a) (hs : ∀ i, i < aSC a → syl i = lN (aS a i)) {y : Nat} (hy : y < 2 ^ 63) : (isSy a y ∧ f_X5_isSyllable N syl (nI (aSC a)) (lN y) = some 1) ∨ (¬ isSy a y ∧ f_X5_isSyllable N syl (nI (aSC a)) (lN y) = some 0) := by
  have hsc : aSC a ≤ 10 := hok.2.1
  unfold f_X5_isSyllable
  rw [zl_let]
  rcases sy_loop N hok hs hy (some 0) (aSC a) 0 N (by omega) (by omega) with ⟨⟨j, _, h2⟩, h3⟩ | ⟨h1, h2⟩
  · exact Or.inl ⟨⟨j, h2⟩, h3⟩
  · exact Or.inr ⟨fun ⟨j, q⟩ => h1 ⟨j, by omega, q⟩, h2⟩
def pt (a : AW) : Nat → Nat → Prop
  | 0, n => n = 0
  | m + 1, n => n = 0 ∨ ∃ l, 1 ≤ l ∧ l ≤ 3 ∧ isSy a (n % 27 ^ l) ∧ pt a m (n / 27 ^ l)
theorem pt_loop (N : Nat) (hN : 100000 ≤ N) {a : AW} {syl : Nat → Int64} (hok : zOK a) (hs : ∀ i, i < aSC a → syl i = lN (aS a i)) (m n : Nat) (hm : m ≤ 3) (hn : n < 2 ^ 63) (self : (Nat → Int64) → (Int32) → (Int64) → (Int32) → Option (Int32)) (hself : ∀ x, x < 2 ^ 63 → (pt a m x ∧ self syl (nI (aSC a)) (lN x) (nI m) = some 1) ∨ (¬ pt a m x ∧ self syl (nI (aSC a)) (lN x) (nI m) = some 0)) : ∀ (d l f : Nat), l + d = 4 → 1 ≤ l → d < f → ((∃ l', l ≤ l' ∧ l' ≤ 3 ∧ isSy a (n % 27 ^ l') ∧ pt a m (n / 27 ^ l')) ∧ f_X5_isParted_L22 N (some 0) self syl (nI (aSC a)) (lN n) (nI (m + 1)) f (lN (27 ^ l)) (nI l) = some 1) ∨ ((¬ ∃ l', l ≤ l' ∧ l' ≤ 3 ∧ isSy a (n % 27 ^ l') ∧ pt a m (n / 27 ^ l')) ∧ f_X5_isParted_L22 N (some 0) self syl (nI (aSC a)) (lN n) (nI (m + 1)) f (lN (27 ^ l)) (nI l) = some 0) := by
  intro d
  induction d with
  | zero =>
    intro l f hl _ hf
    obtain ⟨f', rfl⟩ : ∃ f', f = f' + 1 := ⟨f - 1, by omega⟩
    refine Or.inr ⟨fun ⟨l', h1, h2, _⟩ => by omega, ?_⟩
    rw [f_X5_isParted_L22_s, if_pos (show (3 : Int32) < nI l from nI_lt (a := 3) (by omega) (by omega))]
  | succ d ih =>
    intro l f hl hl1 hf
    obtain ⟨f', rfl⟩ : ∃ f', f = f' + 1 := ⟨f - 1, by omega⟩
    have hp0 : 0 < 27 ^ l := Nat.pow_pos (by decide)
    have hp1 : 27 ^ l ≤ 27 ^ 3 := Nat.pow_le_pow_right (by decide) (by omega)
    have hp2 : 27 ^ l < 2 ^ 63 := Nat.lt_of_le_of_lt hp1 (by decide)
    have hmod : n % 27 ^ l < 2 ^ 63 := Nat.lt_of_lt_of_le (Nat.mod_lt _ hp0) (by omega)
    have hdiv : n / 27 ^ l < 2 ^ 63 := Nat.lt_of_le_of_lt (Nat.div_le_self _ _) hn
    have hnz : zz_nzL (lN (27 ^ l)) = true := decide_eq_true (fun q => by
      rw [cd_0 hp2] at q
      omega)
    rw [f_X5_isParted_L22_s, if_neg (show ¬ (3 : Int32) < nI l from nI_nlt (a := 3) (by omega) (by decide)), zl_gd hnz, pk_lRem hn hp0 hp2, pk_lDiv hn hp0 hp2, show (1 : Int32) = nI 1 from rfl, pk_sub (show 1 ≤ m + 1 by omega), Nat.add_sub_cancel, show (27 : Int64) = lN 27 from rfl, lN_mul, ← Nat.pow_succ, nI_add]
    have rest := ih (l + 1) f' (by omega) (by omega) (by omega)
    rcases sy_eq N hN hok hs hmod with ⟨y1, y2⟩ | ⟨y1, y2⟩
    · rw [zl_b1 y2, zl_let, if_neg (show ¬ (1 : Int32) = 0 by decide)]
      rcases hself _ hdiv with ⟨p1, p2⟩ | ⟨p1, p2⟩
      · rw [zl_b1 p2, if_neg (show ¬ (1 : Int32) = 0 by decide)]
        exact Or.inl ⟨⟨l, by omega, by omega, y1, p1⟩, rfl⟩
      · rw [zl_b1 p2, if_pos rfl, zl_let, zl_let]
        rcases rest with ⟨⟨l', q1, q2⟩, q3⟩ | ⟨q1, q2⟩
        · exact Or.inl ⟨⟨l', by omega, q2⟩, q3⟩
        · refine Or.inr ⟨?_, q2⟩
          rintro ⟨l', r1, r2⟩
          by_cases e : l' = l
          · rw [e] at r2
            exact p1 r2.2.2
          · exact q1 ⟨l', by omega, r2⟩
    · rw [zl_b1 y2, zl_let, if_pos rfl, zl_let, zl_let]
      rcases rest with ⟨⟨l', q1, q2⟩, q3⟩ | ⟨q1, q2⟩
      · exact Or.inl ⟨⟨l', by omega, q2⟩, q3⟩
      · refine Or.inr ⟨?_, q2⟩
        rintro ⟨l', r1, r2⟩
        by_cases e : l' = l
        · rw [e] at r2
          exact y1 r2.2.1
        · exact q1 ⟨l', by omega, r2⟩
theorem pt_eq (N : Nat) (hN : 100000 ≤ N) {a : AW} {syl : Nat → Int64} (hok : zOK a) (hs : ∀ i, i < aSC a → syl i = lN (aS a i)) : ∀ (m : Nat), m ≤ 3 → ∀ n, n < 2 ^ 63 → (pt a m n ∧ f_X5_isParted N (m + 1) syl (nI (aSC a)) (lN n) (nI m) = some 1) ∨ (¬ pt a m n ∧ f_X5_isParted N (m + 1) syl (nI (aSC a)) (lN n) (nI m) = some 0) := by
  intro m
  induction m with
  | zero =>
    intro _ n hn
    rw [f_X5_isParted_s]
    by_cases c : n = 0
    · rw [if_pos ((cd_0 hn).mpr c)]
      exact Or.inl ⟨c, rfl⟩
    · rw [if_neg (fun q => c ((cd_0 hn).mp q)), if_pos (show nI 0 = 0 from rfl)]
      exact Or.inr ⟨c, rfl⟩
  | succ m ih =>
    intro hm n hn
    rw [f_X5_isParted_s]
    by_cases c : n = 0
    · rw [if_pos ((cd_0 hn).mpr c)]
      exact Or.inl ⟨Or.inl c, rfl⟩
    · rw [if_neg (fun q => c ((cd_0 hn).mp q)), if_neg (nI_ne0 (by omega) (by omega)), zl_let]
      rcases pt_loop N hN hok hs m n (by omega) hn (f_X5_isParted N (m + 1)) (ih (by omega)) 3 1 N (by omega) (by omega) (by omega) with ⟨h1, h2⟩ | ⟨h1, h2⟩
      · exact Or.inl ⟨Or.inr h1, h2⟩
      · refine Or.inr ⟨?_, h2⟩
        rintro (q | q)
        · exact c q
        · exact h1 q
