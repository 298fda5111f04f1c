/-! ===== codes as numbers ===== -/
theorem zd_0 : ∀ g, zDig g 0 = []
  | 0 => rfl
  | _ + 1 => rfl
theorem zd_more : ∀ (f n : Nat), n < 27 ^ f → ∀ g, f ≤ g → zDig g n = zDig f n := by
  intro f
  induction f with
  | zero =>
    intro n hn g _
    have : n = 0 := by
      rw [Nat.pow_zero] at hn
      omega
    rw [this, zd_0, zd_0]
  | succ f ih =>
    intro n hn g hg
    obtain ⟨g', rfl⟩ : ∃ g', g = g' + 1 := ⟨g - 1, by omega⟩
    rw [zDig, zDig]
    by_cases c : n = 0
    · rw [if_pos c, if_pos c]
    · rw [if_neg c, if_neg c, ih (n / 27) (by rw [Nat.pow_succ] at hn; omega) g' (by omega)]
theorem zL_0 : zL 0 = [] := rfl
theorem zL_s {n : Nat} (h0 : n ≠ 0) (h : n < 2 ^ 63) : zL n = (n % 27) :: zL (n / 27) := by
  have e : zDig 14 n = if n = 0 then [] else (n % 27) :: zDig 13 (n / 27) := rfl
  show zDig 14 n = n % 27 :: zDig 14 (n / 27)
  rw [e, if_neg h0, zd_more 13 (n / 27) (by
    have : n / 27 < 2 ^ 61 := by omega
    exact Nat.lt_of_lt_of_le this (by decide)) 14 (by omega)]
theorem zL_lt {n : Nat} : ∀ {f : Nat}, n < 27 ^ f → n < 2 ^ 63 → (zL n).length ≤ f := by
  intro f
  induction f generalizing n with
  | zero =>
    intro hn _
    have : n = 0 := by
      rw [Nat.pow_zero] at hn
      omega
    rw [this]
    exact Nat.le_refl 0
  | succ f ih =>
    intro hn h2
    by_cases c : n = 0
    · rw [c]
      exact Nat.zero_le _
    · rw [zL_s c h2]
      have := ih (n := n / 27) (by rw [Nat.pow_succ] at hn; omega) (by omega)
      rw [List.length_cons]
      omega
theorem zL_ge {n : Nat} : ∀ {f : Nat}, 27 ^ f ≤ n → n < 2 ^ 63 → f < (zL n).length := by
  intro f
  induction f generalizing n with
  | zero =>
    intro hn h2
    rw [Nat.pow_zero] at hn
    rw [zL_s (by omega) h2, List.length_cons]
    omega
  | succ f ih =>
    intro hn h2
    have hp : 0 < 27 ^ f := Nat.pow_pos (by decide)
    have := ih (n := n / 27) (by rw [Nat.pow_succ] at hn; omega) (by omega)
    rw [zL_s (by rw [Nat.pow_succ] at hn; omega) h2, List.length_cons]
    omega
theorem zL_low (n : Nat) : ∀ x ∈ zL n, x < 27 := by
  have : ∀ (g n : Nat), ∀ x ∈ zDig g n, x < 27 := by
    intro g
    induction g with
    | zero =>
      intro n x hx
      cases hx
    | succ g ih =>
      intro n x hx
      rw [zDig] at hx
      by_cases c : n = 0
      · rw [if_pos c] at hx
        cases hx
      · rw [if_neg c] at hx
        rcases List.mem_cons.mp hx with e | e
        · rw [e]
          omega
        · exact ih _ x e
  exact this 14 n
def zDg (l : List Nat) : Bool := l.all (fun x => !(x == 0))
theorem zDg_iff {l : List Nat} : zDg l = true ↔ ∀ x ∈ l, x ≠ 0 := by
  unfold zDg
  rw [List.all_eq_true]
  constructor
  · intro h x hx e
    have := h x hx
    rw [e] at this
    cases this
  · intro h x hx
    have := h x hx
    rw [Bool.not_eq_true', beq_eq_false_iff_ne]
    exact this
theorem isW_iff {k n : Nat} : isW k n ↔ (n ≠ 0 ∧ n < 27 ^ k ∧ zDg (zL n) = true) := by
  unfold isW
  rw [zDg_iff]
theorem zDg_s {n : Nat} (h0 : n ≠ 0) (h : n < 2 ^ 63) : zDg (zL n) = (!(n % 27 == 0) && zDg (zL (n / 27))) := by
  rw [zL_s h0 h]
  rfl
theorem p27 : (27 : Nat) ^ 9 = 7625597484987 := rfl
/-- a code, down one letter -/
theorem cd_div {n : Nat} (h : n < 2 ^ 63) : lN n / (27 : Int64) = lN (n / 27) := pk_lDiv (b := 27) h (by decide) (by decide)
theorem cd_rem {n : Nat} (h : n < 2 ^ 63) : lN n - lN n / (27 : Int64) * (27 : Int64) = lN (n % 27) := pk_lRem (b := 27) h (by decide) (by decide)
theorem cd_pos {n : Nat} (h : n < 2 ^ 63) : lN n ≤ (0 : Int64) ↔ n = 0 := (pk_lLE (b := 0) h (by decide)).trans (by omega)
theorem cd_0 {n : Nat} (h : n < 2 ^ 63) : lN n = (0 : Int64) ↔ n = 0 := pk_lEQ (b := 0) h (by decide)
theorem lo_loop (N : Nat) : ∀ (d i f m : Nat), i + d = 9 → d < f → m < 27 ^ d → m < 2 ^ 63 → f_X6_lettersOf_L20 N (fun v => some v) f (nI i) (lN m) = if zDg (zL m) = true then some (nI (i + (zL m).length)) else some 0 := by
  intro d
  induction d with
  | zero =>
    intro i f m hi hf hm h2
    obtain ⟨f', rfl⟩ : ∃ f', f = f' + 1 := ⟨f - 1, by omega⟩
    have : m = 0 := by
      rw [Nat.pow_zero] at hm
      omega
    rw [this, f_X6_lettersOf_L20_s, if_pos (show (9 : Int32) ≤ nI i from nI_le (a := 9) (by omega) (by omega))]
    rfl
  | succ d ih =>
    intro i f m hi hf hm h2
    obtain ⟨f', rfl⟩ : ∃ f', f = f' + 1 := ⟨f - 1, by omega⟩
    rw [f_X6_lettersOf_L20_s, if_neg (show ¬ (9 : Int32) ≤ nI i from nI_ge (b := 9) (by omega) (by omega))]
    by_cases c : m = 0
    · rw [if_pos ((cd_pos h2).mpr c), c]
      rfl
    · rw [if_neg (fun q => c ((cd_pos h2).mp q)), cd_rem h2, zDg_s c h2]
      by_cases c2 : m % 27 = 0
      · rw [if_pos ((cd_0 (by omega)).mpr c2), c2]
        rfl
      · rw [if_neg (fun q => c2 ((cd_0 (by omega)).mp q)), zl_let, zl_let, cd_div h2, nI_1, ih (i + 1) f' (m / 27) (by omega) (by omega) (by rw [Nat.pow_succ] at hm; omega) (by omega), zL_s c h2, beq_eq_false_iff_ne.mpr c2, List.length_cons, show i + 1 + (zL (m / 27)).length = i + ((zL (m / 27)).length + 1) by omega]
        rfl
theorem lo7_loop (N : Nat) (K : Int32 → Option Int32) : ∀ (d i f m : Nat), (zL m).length ≤ d → d < f → m < 2 ^ 63 → f_X7_lettersOf_L4 N K f (nI i) (lN m) = K (nI (i + (zL m).length)) := by
  intro d
  induction d with
  | zero =>
    intro i f m hd hf h2
    obtain ⟨f', rfl⟩ : ∃ f', f = f' + 1 := ⟨f - 1, by omega⟩
    have : m = 0 := by
      by_cases c : m = 0
      · exact c
      · rw [zL_s c h2, List.length_cons] at hd
        omega
    rw [this, f_X7_lettersOf_L4_s, if_pos (show lN 0 ≤ (0 : Int64) by decide)]
    rfl
  | succ d ih =>
    intro i f m hd hf h2
    obtain ⟨f', rfl⟩ : ∃ f', f = f' + 1 := ⟨f - 1, by omega⟩
    rw [f_X7_lettersOf_L4_s]
    by_cases c : m = 0
    · rw [if_pos ((cd_pos h2).mpr c), c]
      rfl
    · rw [zL_s c h2, List.length_cons] at hd
      rw [if_neg (fun q => c ((cd_pos h2).mp q)), zl_let, zl_let, cd_div h2, nI_1, ih (i + 1) f' (m / 27) (by omega) (by omega) (by omega), zL_s c h2, List.length_cons, show i + 1 + (zL (m / 27)).length = i + ((zL (m / 27)).length + 1) by omega]
theorem zL_14 {m : Nat} (h : m < 2 ^ 63) : (zL m).length ≤ 14 := zL_lt (f := 14) (Nat.lt_of_lt_of_le h (by decide)) h
theorem lo7_eq (N : Nat) (hN : 100000 ≤ N) {m : Nat} (h : m < 2 ^ 63) : f_X7_lettersOf N (lN m) = some (nI (zL m).length) := by
  unfold f_X7_lettersOf
  rw [zl_let, show (0 : Int32) = nI 0 from rfl, lo7_loop N (fun v => some v) 14 0 N m (zL_14 h) (by omega) h, Nat.zero_add]
theorem ic_loop (N : Nat) (K : Int32 → Option Int32) : ∀ (d f m : Nat), (zL m).length ≤ d → d + 1 < f → m < 2 ^ 63 → f_X7_isCode_L23 N K f 1 (lN m) = K (if zDg (zL m) = true then 1 else 0) := by
  intro d
  induction d with
  | zero =>
    intro f m hd hf h2
    obtain ⟨f', rfl⟩ : ∃ f', f = f' + 1 := ⟨f - 1, by omega⟩
    have : m = 0 := by
      by_cases c : m = 0
      · exact c
      · rw [zL_s c h2, List.length_cons] at hd
        omega
    rw [this, f_X7_isCode_L23_s, if_pos (show lN 0 ≤ (0 : Int64) by decide)]
    rfl
  | succ d ih =>
    intro f m hd hf h2
    obtain ⟨f', rfl⟩ : ∃ f', f = f' + 1 := ⟨f - 1, by omega⟩
    rw [f_X7_isCode_L23_s]
    by_cases c : m = 0
    · rw [if_pos ((cd_pos h2).mpr c), c]
      rfl
    · rw [zL_s c h2, List.length_cons] at hd
      rw [if_neg (fun q => c ((cd_pos h2).mp q)), if_neg (show ¬ (1 : Int32) = 0 by decide), zl_let, cd_rem h2, cd_div h2, zDg_s c h2]
      by_cases c2 : m % 27 = 0
      · rw [if_pos ((cd_0 (by omega)).mpr c2), c2]
        dsimp only
        rw [zl_let]
        obtain ⟨f'', rfl⟩ : ∃ f'', f' = f'' + 1 := ⟨f' - 1, by omega⟩
        rw [f_X7_isCode_L23_s]
        by_cases c3 : lN (m / 27) ≤ (0 : Int64)
        · rw [if_pos c3]
          rfl
        · rw [if_neg c3, if_pos rfl]
          rfl
      · rw [if_neg (fun q => c2 ((cd_0 (by omega)).mp q))]
        dsimp only
        rw [zl_let, ih f' (m / 27) (by omega) (by omega) (by omega), beq_eq_false_iff_ne.mpr c2]
        rfl
/-- is p the code of a word of 1 to 9 letters: both programs -/
theorem code_cases (N : Nat) (hN : 100000 ≤ N) (p : Int64) : (∃ n, isW 9 n ∧ p = lN n ∧ f_X6_lettersOf N p = some (nI (zL n).length) ∧ 0 < (zL n).length ∧ (zL n).length ≤ 9 ∧ f_X7_isCode N p = some 1) ∨ (f_X6_lettersOf N p = some 0 ∧ f_X7_isCode N p = some 0 ∧ ∀ n, isW 9 n → p ≠ lN n) := by
  have fin0 : ∀ q : Int64, f_X7_isCode_L23 N (fun (v2_15 : Int32) => zz_gd (zz_isB v2_15) ((some v2_15))) N 0 q = some 0 := by
    intro q
    obtain ⟨f', e⟩ : ∃ f', N = f' + 1 := ⟨N - 1, by omega⟩
    rw [e, f_X7_isCode_L23_s]
    by_cases c3 : q ≤ (0 : Int64)
    · rw [if_pos c3]
      rfl
    · rw [if_neg c3, if_pos rfl]
      rfl
  by_cases c : p < (1 : Int64)
  · right
    have c' : p ≤ (0 : Int64) := by
      rw [fa_lt64] at c
      rw [fa_le64]
      have h1 : (1 : Int64).toInt = 1 := rfl
      have h0 : (0 : Int64).toInt = 0 := rfl
      omega
    refine ⟨?_, ?_, ?_⟩
    · unfold f_X6_lettersOf
      rw [if_pos c]
    · unfold f_X7_isCode
      rw [zl_let, if_pos c']
      dsimp only
      rw [zl_let]
      exact fin0 p
    · intro n hn e
      rw [e, cd_pos (by have := hn.2.1; rw [p27] at this; omega)] at c'
      exact hn.1 c'
  · obtain ⟨n, hn, rfl⟩ := pk_lOf (x := p) (fun q => c (by
      rw [fa_lt64] at q ⊢
      have h1 : (1 : Int64).toInt = 1 := rfl
      have h0 : (0 : Int64).toInt = 0 := rfl
      omega))
    have hn0 : n ≠ 0 := fun e => by
      rw [e] at c
      exact c (by decide)
    have c7 : ¬ lN n ≤ (0 : Int64) := fun q => hn0 ((cd_pos hn).mp q)
    by_cases c2 : n < 27 ^ 9
    · have hl := zL_lt c2 hn
      have hl0 := zL_ge (f := 0) (n := n) (by rw [Nat.pow_zero]; omega) hn
      have e6 : f_X6_lettersOf N (lN n) = if zDg (zL n) = true then some (nI (zL n).length) else some 0 := by
        unfold f_X6_lettersOf
        rw [if_neg c, if_pos (show lN n ≤ (7625597484986 : Int64) from (pk_lLE (b := 7625597484986) hn (by decide)).mpr (by rw [p27] at c2; omega)), zl_let]
        have := lo_loop N 9 0 N n (by omega) (by omega) c2 hn
        rw [Nat.zero_add] at this
        exact this
      have e7 : f_X7_isCode N (lN n) = some (if zDg (zL n) = true then 1 else 0) := by
        unfold f_X7_isCode
        rw [zl_let, if_neg c7, zl_b1 (lo7_eq N hN hn), if_neg (show ¬ (10 : Int32) ≤ nI (zL n).length from nI_ge (b := 10) (by omega) (by omega))]
        dsimp only
        rw [zl_let, ic_loop N _ 9 N n hl (by omega) hn]
        cases zDg (zL n) <;> rfl
      cases e : zDg (zL n) with
      | true =>
        rw [e, if_pos rfl] at e6 e7
        exact Or.inl ⟨n, isW_iff.mpr ⟨hn0, c2, e⟩, rfl, e6, hl0, hl, e7⟩
      | false =>
        rw [e] at e6 e7
        refine Or.inr ⟨e6, e7, fun m hm q => ?_⟩
        rw [pk_lEQ hn (by have := hm.2.1; rw [p27] at this; omega)] at q
        have := (isW_iff.mp hm).2.2
        rw [← q, e] at this
        cases this
    · right
      have hl := zL_ge (f := 9) (n := n) (by omega) hn
      have hl2 := zL_14 hn
      refine ⟨?_, ?_, ?_⟩
      · unfold f_X6_lettersOf
        rw [if_neg c, if_neg (show ¬ lN n ≤ (7625597484986 : Int64) from fun q => by
          have := (pk_lLE (b := 7625597484986) hn (by decide)).mp q
          rw [p27] at c2
          omega)]
      · unfold f_X7_isCode
        rw [zl_let, if_neg c7, zl_b1 (lo7_eq N hN hn), if_pos (show (10 : Int32) ≤ nI (zL n).length from nI_le (a := 10) (by omega) (by omega))]
        dsimp only
        rw [zl_let]
        exact fin0 _
      · intro m hm q
        rw [pk_lEQ hn (by have := hm.2.1; rw [p27] at this; omega)] at q
        rw [q] at c2
        exact c2 hm.2.1
/-! ===== what a word adds up to ===== -/
def aV (a : AW) (l : List Nat) : Nat := (l.map (fun x => aN a (x - 1))).sum
abbrev aSum (a : AW) (n : Nat) : Nat := aV a (zL n)
theorem aV_nil (a : AW) : aV a [] = 0 := rfl
theorem aV_cons (a : AW) (x : Nat) (l : List Nat) : aV a (x :: l) = aN a (x - 1) + aV a l := rfl
theorem aV_app (a : AW) (l l' : List Nat) : aV a (l ++ l') = aV a l + aV a l' := by
  unfold aV
  rw [List.map_append, List.sum_append]
theorem aSum_s (a : AW) {n : Nat} (h0 : n ≠ 0) (h : n < 2 ^ 63) : aSum a n = aN a (n % 27 - 1) + aSum a (n / 27) := by
  unfold aSum
  rw [zL_s h0 h, aV_cons]
theorem zl_isLetter {N : Nat} {x : Nat} (h0 : x ≠ 0) (h : x < 27) : f_X6_isLetter N (nI (x - 1)) = some 1 := zl_isLetter_t (by rw [nI_toInt (by omega)]; omega)
theorem cd_last {N n : Nat} (h : n < 2 ^ 63) (h0 : n % 27 ≠ 0) : f_X6_lastLetter N (lN n) = some (nI (n % 27 - 1)) := by
  unfold f_X6_lastLetter
  rw [cd_rem h, lN_i, show (1 : Int32) = nI 1 from rfl, pk_sub (by omega)]
theorem sm_loop (N : Nat) {a : AW} {num : Nat → Int32} (hn : ∀ i, i < 26 → num i = nI (aN a i)) : ∀ (d i f m s : Nat), i + d = 9 → d < f → m < 27 ^ d → m < 2 ^ 63 → zDg (zL m) = true → f_X5_sumOf_L8 N (fun v => some v) num f (nI s) (lN m) (nI i) = some (nI (s + aSum a m)) := by
  intro d
  induction d with
  | zero =>
    intro i f m s hi hf hm h2 _
    obtain ⟨f', rfl⟩ : ∃ f', f = f' + 1 := ⟨f - 1, by omega⟩
    have : m = 0 := by
      rw [Nat.pow_zero] at hm
      omega
    rw [this, f_X5_sumOf_L8_s, if_pos (show (9 : Int32) ≤ nI i from nI_le (a := 9) (by omega) (by omega))]
    rfl
  | succ d ih =>
    intro i f m s hi hf hm h2 hD
    obtain ⟨f', rfl⟩ : ∃ f', f = f' + 1 := ⟨f - 1, by omega⟩
    rw [f_X5_sumOf_L8_s, if_neg (show ¬ (9 : Int32) ≤ nI i from nI_ge (b := 9) (by omega) (by omega))]
    by_cases c : m = 0
    · rw [if_pos ((cd_pos h2).mpr c), c]
      rfl
    · rw [zDg_s c h2, Bool.and_eq_true, Bool.not_eq_true', beq_eq_false_iff_ne] at hD
      rw [if_neg (fun q => c ((cd_pos h2).mp q)), zl_b1 (cd_last h2 hD.1), zl_b1 (zl_isLetter hD.1 (by omega)), zl_let, if_neg (show ¬ (1 : Int32) = 0 by decide), zl_gd (zl_inN (show m % 27 - 1 < 26 by omega) (by decide)), zl_let, zl_cl (by omega), hn _ (by omega), nI_add]
      dsimp only
      rw [zl_let, zl_let, cd_div h2, nI_1, ih (i + 1) f' (m / 27) _ (by omega) (by omega) (by rw [Nat.pow_succ] at hm; omega) (by omega) hD.2, aSum_s a c h2, Nat.add_assoc]
theorem sum6 (N : Nat) (hN : 100000 ≤ N) {a : AW} {num : Nat → Int32} (hn : ∀ i, i < 26 → num i = nI (aN a i)) {m : Nat} (h : m < 27 ^ 9) (hD : zDg (zL m) = true) : f_X5_sumOf N num (lN m) = some (nI (aSum a m)) := by
  unfold f_X5_sumOf
  rw [zl_let]
  have := sm_loop N hn 9 0 N m 0 (by omega) (by omega) h (by rw [p27] at h; omega) hD
  rw [Nat.zero_add] at this
  exact this
theorem sm7_loop (N : Nat) {a : AW} {num : Nat → Int32} (hn : ∀ i, i < 26 → num i = nI (aN a i)) (K : Int32 → Option Int32) : ∀ (d f m s : Nat), (zL m).length ≤ d → d < f → m < 2 ^ 63 → zDg (zL m) = true → f_X7_sumOf_L5 N K num f (nI s) (lN m) = K (nI (s + aSum a m)) := by
  intro d
  induction d with
  | zero =>
    intro f m s hd hf h2 _
    obtain ⟨f', rfl⟩ : ∃ f', f = f' + 1 := ⟨f - 1, by omega⟩
    have : m = 0 := by
      by_cases c : m = 0
      · exact c
      · rw [zL_s c h2, List.length_cons] at hd
        omega
    rw [this, f_X7_sumOf_L5_s, if_pos (show lN 0 ≤ (0 : Int64) by decide)]
    rfl
  | succ d ih =>
    intro f m s hd hf h2 hD
    obtain ⟨f', rfl⟩ : ∃ f', f = f' + 1 := ⟨f - 1, by omega⟩
    rw [f_X7_sumOf_L5_s]
    by_cases c : m = 0
    · rw [if_pos ((cd_pos h2).mpr c), c]
      rfl
    · rw [zL_s c h2, List.length_cons] at hd
      rw [zDg_s c h2, Bool.and_eq_true, Bool.not_eq_true', beq_eq_false_iff_ne] at hD
      have e : ((lN m - lN m / (27 : Int64) * (27 : Int64)).toInt32) - (1 : Int32) = nI (m % 27 - 1) := by
        rw [cd_rem h2, lN_i, show (1 : Int32) = nI 1 from rfl, pk_sub (by omega)]
      rw [if_neg (fun q => c ((cd_pos h2).mp q)), e, zl_gd (zl_inN (show m % 27 - 1 < 300 by omega) (by decide)), zl_let, zl_let, cd_div h2, zl_cl (by omega), hn _ (by omega), nI_add, ih f' (m / 27) _ (by omega) (by omega) (by omega) hD.2, aSum_s a c h2, Nat.add_assoc]
theorem zl_row0 {a : AW} {row : Nat → Int32} {w : Nat → Int64} (hra : zRA a row w 0) : ∀ i, i < 26 → row i = nI (aN a i) := fun i hi => by
  have := hra.1 i hi
  rwa [show 100 * 0 + i = i by omega] at this
theorem sum7 (N : Nat) (hN : 100000 ≤ N) {a : AW} {row : Nat → Int32} (hn : ∀ i, i < 26 → row i = nI (aN a i)) {m : Nat} (h : m < 2 ^ 63) (hD : zDg (zL m) = true) : f_X7_sumOf N row (lN m) = some (nI (aSum a m)) := by
  unfold f_X7_sumOf
  rw [zl_let]
  have := sm7_loop N hn (fun v => some v) 14 N m 0 (zL_14 h) (by omega) h hD
  rw [Nat.zero_add] at this
  exact this
theorem pr_sum (c : Nat → ClassId) (n_numbers : Nat → Int32) (n_syllables : Nat → Int64) (n_syllableCount : Int32) (n_days : Nat → Int32) (n_words : Nat → Int64) (n_parents : Nat → Int32) (n_otherParents : Nat → Int32) (n_kinds : Nat → Int32) (n_personCount : Int32) (n_hopeDays : Nat → Int32) (n_hopeTenths : Nat → Int32) (n_hopeCount : Int32) (n_degreesTold : Int32) (r_text : Nat → Int32) (r_length : Int32) (s_lane : Nat → Int32) (s_size : Nat → Int32) (s_items : Nat → Nat → Int32) (i_ir : Nat → Option Nat) (g0 : va_W) (g1 : va_W) (z_row : Nat → Int32) (z_words : Nat → Int64) (z_isKept : Nat → Int32) (z_text : Nat → Int32) (z_length : Int32) (z_lanes : Nat → Int32) (z_sizes : Nat → Int32) (z_items : Nat → Int32) (p1 : Int64) (N : Nat) (hN : 100000 ≤ N) (hR : zRel c n_numbers n_syllables n_syllableCount n_days n_words n_parents n_otherParents n_kinds n_personCount n_hopeDays n_hopeTenths n_hopeCount n_degreesTold r_text r_length s_lane s_size s_items i_ir g0 g1 z_row z_words z_isKept z_text z_length z_lanes z_sizes z_items) : ∃ (r : Int32), f_X6_sum N n_numbers p1 = some r ∧ f_X7_sum N z_row p1 = some r ∧ zRel c n_numbers n_syllables n_syllableCount n_days n_words n_parents n_otherParents n_kinds n_personCount n_hopeDays n_hopeTenths n_hopeCount n_degreesTold r_text r_length s_lane s_size s_items i_ir g0 g1 z_row z_words z_isKept z_text z_length z_lanes z_sizes z_items := by
  obtain ⟨⟨a, hok, hw, hra⟩, _⟩ := id hR
  suffices hh : ∃ r, f_X6_sum N n_numbers p1 = some r ∧ f_X7_sum N z_row p1 = some r by
    obtain ⟨r, h1, h2⟩ := hh
    exact ⟨r, h1, h2, hR⟩
  unfold f_X6_sum f_X7_sum
  rcases code_cases N hN p1 with ⟨n, h1, rfl, h2, h3, h4, h5⟩ | ⟨h2, h5, _⟩
  · have hW := isW_iff.mp h1
    rw [zl_b1 h2, if_neg (nI_ne0 h3 (by omega)), zl_bT h5, zl_b1 (sum6 N hN hw.1 hW.2.1 hW.2.2), zl_b1 (sum7 N hN (zl_row0 hra) (by have := hW.2.1; rw [p27] at this; omega) hW.2.2)]
    exact ⟨_, rfl, rfl⟩
  · rw [zl_bF h2, zl_bF h5]
    exact ⟨_, rfl, rfl⟩
