/-! ===== names: joined ===== -/
def jn (x y : Nat) : Nat := x * 27 ^ (zL y).length + y
theorem nI_dec (d : Nat) : nI (d + 1) + (-1 : Int32) = nI d := by
  rw [← Int32.sub_eq_add_neg]
  exact nI_pred d
theorem jn_loop (N : Nat) (K : Int64 → Option Int64) : ∀ (d f x : Nat), d < f → d < 2 ^ 31 → f_X7_joined_L9 N K f (lN x) (nI d) = K (lN (x * 27 ^ d)) := by
  intro d
  induction d with
  | zero =>
    intro f x hf _
    obtain ⟨f', rfl⟩ : ∃ f', f = f' + 1 := ⟨f - 1, by omega⟩
    rw [f_X7_joined_L9_s, if_pos (show nI 0 ≤ 0 by decide), Nat.pow_zero, Nat.mul_one]
  | succ d ih =>
    intro f x hf hd
    obtain ⟨f', rfl⟩ : ∃ f', f = f' + 1 := ⟨f - 1, by omega⟩
    rw [f_X7_joined_L9_s, if_neg (nI_nle (by omega) hd), zl_let, zl_let, nI_dec, show (27 : Int64) = lN 27 from rfl, lN_mul, ih f' (x * 27) (by omega) (by omega), Nat.pow_succ, Nat.mul_assoc, Nat.mul_comm 27]
theorem jn_eq (N : Nat) (hN : 100000 ≤ N) (x : Nat) {y : Nat} (hy : y < 2 ^ 63) : f_X7_joined N (lN x) (lN y) = some (lN (jn x y)) := by
  have := zL_14 hy
  unfold f_X7_joined
  rw [zl_b1 (lo7_eq N hN hy), zl_let, jn_loop N _ _ N x (by omega) (by omega), lN_add]
  rfl
theorem ln_lt {y l : Nat} (hy : y < 2 ^ 63) (h : (zL y).length = l) : y < 27 ^ l := by
  by_cases c : y < 27 ^ l
  · exact c
  · have := zL_ge (f := l) (n := y) (by omega) hy
    omega
theorem jn_mod {x y : Nat} (hy : y < 2 ^ 63) : jn x y % 27 ^ (zL y).length = y ∧ jn x y / 27 ^ (zL y).length = x := by
  have h := ln_lt hy rfl
  have hp : 0 < 27 ^ (zL y).length := Nat.pow_pos (by decide)
  unfold jn
  rw [Nat.mul_comm x]
  exact ⟨by rw [Nat.mul_add_mod, Nat.mod_eq_of_lt h], by rw [Nat.mul_add_div hp, Nat.div_eq_of_lt h, Nat.add_zero]⟩
theorem dg_div {n : Nat} (h : n < 2 ^ 63) (hD : zDg (zL n) = true) : zDg (zL (n / 27)) = true := by
  by_cases c : n = 0
  · rw [c]
    rfl
  · rw [zDg_s c h, Bool.and_eq_true] at hD
    exact hD.2
theorem dg_mod {n : Nat} (h : n < 2 ^ 63) (hD : zDg (zL n) = true) (h0 : n ≠ 0) : n % 27 ≠ 0 := by
  rw [zDg_s h0 h, Bool.and_eq_true, Bool.not_eq_true', beq_eq_false_iff_ne] at hD
  exact hD.1
theorem ln_mod {n l : Nat} (h : n < 2 ^ 63) (hD : zDg (zL n) = true) (h1 : 1 ≤ l) (h3 : l ≤ 3) (hq : n / 27 ^ l ≠ 0) : (zL (n % 27 ^ l)).length = l := by
  have hp : 0 < 27 ^ l := Nat.pow_pos (by decide)
  have hp1 : 27 ^ l ≤ 27 ^ 3 := Nat.pow_le_pow_right (by decide) (by omega)
  have hlt : n % 27 ^ l < 27 ^ l := Nat.mod_lt _ hp
  have hs : n % 27 ^ l < 2 ^ 63 := Nat.lt_of_lt_of_le hlt (Nat.le_trans hp1 (by decide))
  have ha := zL_lt hlt hs
  have hb : l - 1 < (zL (n % 27 ^ l)).length := by
    refine zL_ge ?_ hs
    have d0 := dg_mod h hD
    have d1 := dg_mod (n := n / 27) (by omega) (dg_div h hD)
    have d2 := dg_mod (n := n / 27 / 27) (by omega) (dg_div (by omega) (dg_div h hD))
    match l, h1, h3 with
    | 1, _, _ =>
      show 1 ≤ n % 27
      replace hq : n / 27 ≠ 0 := hq
      omega
    | 2, _, _ =>
      show 27 ≤ n % 729
      replace hq : n / 729 ≠ 0 := hq
      omega
    | 3, _, _ =>
      show 729 ≤ n % 19683
      replace hq : n / 19683 ≠ 0 := hq
      omega
  omega
def aNm (a : AW) (n : Nat) : Prop := ∃ i j k, i < aSC a ∧ j < aSC a ∧ k < aSC a ∧ (aS a i = n ∨ jn (aS a i) (aS a j) = n ∨ jn (jn (aS a i) (aS a j)) (aS a k) = n)
theorem dg_divl {n l : Nat} (h : n < 2 ^ 63) (hD : zDg (zL n) = true) (h1 : 1 ≤ l) (h3 : l ≤ 3) : zDg (zL (n / 27 ^ l)) = true := by
  match l, h1, h3 with
  | 1, _, _ => exact dg_div h hD
  | 2, _, _ =>
    have := dg_div (n := n / 27) (by omega) (dg_div h hD)
    rwa [show n / 27 / 27 = n / 27 ^ 2 from Nat.div_div_eq_div_mul n 27 27] at this
  | 3, _, _ =>
    have := dg_div (n := n / 27 / 27) (by omega) (dg_div (n := n / 27) (by omega) (dg_div h hD))
    rwa [Nat.div_div_eq_div_mul, Nat.div_div_eq_div_mul] at this
theorem jn_of {n l : Nat} (h : n < 2 ^ 63) (hD : zDg (zL n) = true) (h1 : 1 ≤ l) (h3 : l ≤ 3) (hq : n / 27 ^ l ≠ 0) : n = jn (n / 27 ^ l) (n % 27 ^ l) := by
  unfold jn
  rw [ln_mod h hD h1 h3 hq, Nat.mul_comm]
  exact (Nat.div_add_mod n (27 ^ l)).symm
theorem sy_len {a : AW} (hok : zOK a) {y : Nat} (h : isSy a y) : 1 ≤ (zL y).length ∧ (zL y).length ≤ 3 := by
  have hw := sy_w hok h
  have hl := sy_lt hok h
  exact ⟨zL_ge (f := 0) (by rw [Nat.pow_zero]; omega) (by omega), zL_lt hw.2.1 (by omega)⟩
theorem pt_sy {a : AW} (hok : zOK a) {y m : Nat} (h : isSy a y) : pt a (m + 1) y := by
  have hl := sy_lt hok h
  refine Or.inr ⟨3, by omega, by omega, ?_, ?_⟩
  · rw [Nat.mod_eq_of_lt hl.2]
    exact h
  · rw [Nat.div_eq_of_lt hl.2]
    cases m with
    | zero => rfl
    | succ m => exact Or.inl rfl
theorem pt_jn {a : AW} (hok : zOK a) {x y m : Nat} (h : isSy a y) (hx : pt a m x) : pt a (m + 1) (jn x y) := by
  have hl := sy_lt hok h
  obtain ⟨l1, l3⟩ := sy_len hok h
  obtain ⟨e1, e2⟩ := jn_mod (x := x) (y := y) (by omega)
  exact Or.inr ⟨(zL y).length, l1, l3, by rw [e1]; exact h, by rw [e2]; exact hx⟩
theorem pt_nm {a : AW} (hok : zOK a) {n : Nat} (h0 : n ≠ 0) (h : n < 2 ^ 63) (hD : zDg (zL n) = true) : pt a 3 n ↔ aNm a n := by
  constructor
  · rintro (q | ⟨l, l1, l3, ⟨k, k1, k2⟩, p2⟩)
    · exact absurd q h0
    by_cases c1 : n / 27 ^ l = 0
    · have hlt : n < 27 ^ l := by
        have hp : 0 < 27 ^ l := Nat.pow_pos (by decide)
        exact (Nat.div_eq_zero_iff_lt hp).mp c1
      rw [Nat.mod_eq_of_lt hlt] at k2
      exact ⟨k, k, k, k1, k1, k1, Or.inl k2⟩
    have e1 := jn_of h hD l1 l3 c1
    have h' : n / 27 ^ l < 2 ^ 63 := Nat.lt_of_le_of_lt (Nat.div_le_self _ _) h
    have hD' := dg_divl h hD l1 l3
    rcases p2 with q | ⟨l', l1', l3', ⟨j, j1, j2⟩, p1⟩
    · exact absurd q c1
    by_cases c2 : n / 27 ^ l / 27 ^ l' = 0
    · have hlt : n / 27 ^ l < 27 ^ l' := by
        have hp : 0 < 27 ^ l' := Nat.pow_pos (by decide)
        exact (Nat.div_eq_zero_iff_lt hp).mp c2
      rw [Nat.mod_eq_of_lt hlt] at j2
      exact ⟨j, k, k, j1, k1, k1, Or.inr (Or.inl (by rw [j2, k2]; exact e1.symm))⟩
    have e2 := jn_of h' hD' l1' l3' c2
    rcases p1 with q | ⟨l'', l1'', l3'', ⟨i, i1, i2⟩, p0⟩
    · exact absurd q c2
    have hlt : n / 27 ^ l / 27 ^ l' < 27 ^ l'' := by
      have hp : 0 < 27 ^ l'' := Nat.pow_pos (by decide)
      exact (Nat.div_eq_zero_iff_lt hp).mp p0
    rw [Nat.mod_eq_of_lt hlt] at i2
    exact ⟨i, j, k, i1, j1, k1, Or.inr (Or.inr (by rw [i2, j2, k2, ← e2]; exact e1.symm))⟩
  · rintro ⟨i, j, k, i1, j1, k1, q | q | q⟩
    · rw [← q]
      exact pt_sy hok ⟨i, i1, rfl⟩
    · rw [← q]
      exact pt_jn hok ⟨j, j1, rfl⟩ (pt_sy hok ⟨i, i1, rfl⟩)
    · rw [← q]
      exact pt_jn hok ⟨k, k1, rfl⟩ (pt_jn hok ⟨j, j1, rfl⟩ (pt_sy hok ⟨i, i1, rfl⟩))
theorem name6 (N : Nat) (hN : 100000 ≤ N) {a : AW} {num : Nat → Int32} {syl : Nat → Int64} (hok : zOK a) (hn : ∀ i, i < 26 → num i = nI (aN a i)) (hs : ∀ i, i < aSC a → syl i = lN (aS a i)) {n : Nat} (hW : isW 9 n) : ((aB a n = true ∧ aNm a n) ∧ f_X5_isName N num syl (nI (aSC a)) (lN n) = some 1) ∨ ((¬ (aB a n = true ∧ aNm a n)) ∧ f_X5_isName N num syl (nI (aSC a)) (lN n) = some 0) := by
  obtain ⟨h0, h9, hD⟩ := isW_iff.mp hW
  have h : n < 2 ^ 63 := by rw [p27] at h9; omega
  unfold f_X5_isName
  have e1 := si_eq N hN hok hn h9 hD
  cases c : aB a n with
  | false =>
    rw [c] at e1
    rw [zl_b1 (show f_X5_sumInNames N num (lN n) = some 0 from e1), if_pos (show (0 : Int32) ≤ 0 by decide)]
    exact Or.inr ⟨fun q => by (cases q.1), rfl⟩
  | true =>
    rw [c, if_pos rfl] at e1
    have hp := aSum_pos h0 h c
    have hle := aSum_le hok h
    rw [zl_b1 e1, if_neg (nI_nle hp (by omega))]
    rcases pt_eq N hN hok hs 3 (by omega) n h with ⟨q1, q2⟩ | ⟨q1, q2⟩
    · rw [zl_bT (show f_X5_isParted N 4 syl (nI (aSC a)) (lN n) 3 = some 1 from q2)]
      exact Or.inl ⟨⟨rfl, (pt_nm hok h0 h hD).mp q1⟩, rfl⟩
    · rw [zl_bF (show f_X5_isParted N 4 syl (nI (aSC a)) (lN n) 3 = some 0 from q2)]
      exact Or.inr ⟨fun q => q1 ((pt_nm hok h0 h hD).mpr q.2), rfl⟩
def nmH (a : AW) (n v : Nat) : Prop := aS a (v / aSC a / aSC a) = n ∨ jn (aS a (v / aSC a / aSC a)) (aS a (v / aSC a % aSC a)) = n ∨ jn (jn (aS a (v / aSC a / aSC a)) (aS a (v / aSC a % aSC a))) (aS a (v % aSC a)) = n
theorem sc_div {s v : Nat} (h : v < s * s * s) : v / s / s < s ∧ v / s % s < s ∧ v % s < s := by
  have hs : 0 < s := by
    rcases Nat.eq_zero_or_pos s with e | e
    · rw [e] at h
      omega
    · exact e
  refine ⟨?_, Nat.mod_lt _ hs, Nat.mod_lt _ hs⟩
  rw [Nat.div_lt_iff_lt_mul hs, Nat.div_lt_iff_lt_mul hs]
  exact h
theorem nm_of {a : AW} {n : Nat} : aNm a n ↔ ∃ v, v < aSC a * aSC a * aSC a ∧ nmH a n v := by
  constructor
  · rintro ⟨i, j, k, hi, hj, hk, h⟩
    have hs : 0 < aSC a := by omega
    have e1 : ((i * aSC a + j) * aSC a + k) % aSC a = k := by rw [Nat.mul_comm, Nat.mul_add_mod, Nat.mod_eq_of_lt hk]
    have e2 : ((i * aSC a + j) * aSC a + k) / aSC a = i * aSC a + j := by rw [Nat.mul_comm (i * aSC a + j), Nat.mul_add_div hs, Nat.div_eq_of_lt hk, Nat.add_zero]
    have e3 : (i * aSC a + j) % aSC a = j := by rw [Nat.mul_comm, Nat.mul_add_mod, Nat.mod_eq_of_lt hj]
    have e4 : (i * aSC a + j) / aSC a = i := by rw [Nat.mul_comm i, Nat.mul_add_div hs, Nat.div_eq_of_lt hj, Nat.add_zero]
    refine ⟨(i * aSC a + j) * aSC a + k, ?_, ?_⟩
    · have a1 : i * aSC a + j + 1 ≤ aSC a * aSC a := by
        have : (i + 1) * aSC a ≤ aSC a * aSC a := Nat.mul_le_mul_right _ (by omega)
        rw [Nat.add_mul] at this
        omega
      have a2 : (i * aSC a + j + 1) * aSC a ≤ aSC a * aSC a * aSC a := Nat.mul_le_mul_right _ a1
      rw [Nat.add_mul] at a2
      omega
    · unfold nmH
      rw [e1, e2, e3, e4]
      exact h
  · rintro ⟨v, hv, h⟩
    obtain ⟨h1, h2, h3⟩ := sc_div hv
    exact ⟨_, _, _, h1, h2, h3, h⟩
theorem zl_row27 {a : AW} {row : Nat → Int32} {w : Nat → Int64} (hok : zOK a) (hra : zRA a row w 0) {i : Nat} (hi : i < aSC a) : (row (27 + i)).toInt64 = lN (aS a i) := by
  have h := hra.2.2.1 i hi
  have hw := hok.2.2.1 i hi
  rw [show 100 * 0 + 27 + i = 27 + i by omega] at h
  rw [h, nI_l (by have : aS a i < 19683 := hw.2.1; omega)]
theorem jn_lt {x y k : Nat} (hx : x < 27 ^ k) (hy : isW 3 y) : jn x y < 27 ^ (k + 3) := by
  have hy3 : y < 19683 := hy.2.1
  have hl := zL_lt hy.2.1 (by omega)
  have hp := Nat.pow_le_pow_right (show 0 < 27 by decide) hl
  have h1 := ln_lt (y := y) (by omega) rfl
  unfold jn
  have : (x + 1) * 27 ^ (zL y).length ≤ 27 ^ k * 27 ^ 3 := Nat.mul_le_mul (by omega) hp
  rw [Nat.add_mul] at this
  rw [Nat.pow_add]
  omega
theorem nm_loop (N : Nat) (hN : 100000 ≤ N) {a : AW} {row : Nat → Int32} {w : Nat → Int64} (hok : zOK a) (hra : zRA a row w 0) {n : Nat} (hW : isW 9 n) (hB : aB a n = true) (K : Int32 → Option Int32) : ∀ (d t f : Nat) (z : Int32), t + d = aSC a * aSC a * aSC a → d < f → (z = 0 ∨ z = 1) → ((z = 1 ∨ ∃ v, t ≤ v ∧ v < aSC a * aSC a * aSC a ∧ nmH a n v) ∧ f_X7_isName_L14 N K row (lN n) (nI (aSC a)) f z (nI t) = K 1) ∨ ((¬ (z = 1 ∨ ∃ v, t ≤ v ∧ v < aSC a * aSC a * aSC a ∧ nmH a n v)) ∧ f_X7_isName_L14 N K row (lN n) (nI (aSC a)) f z (nI t) = K 0) := by
  have hsc : aSC a ≤ 10 := hok.2.1
  have hcu : aSC a * aSC a * aSC a ≤ 10 * 10 * 10 := Nat.mul_le_mul (Nat.mul_le_mul hsc hsc) hsc
  obtain ⟨h0, h9, hD⟩ := isW_iff.mp hW
  have h63 : n < 2 ^ 63 := by rw [p27] at h9; omega
  intro d
  induction d with
  | zero =>
    intro t f z ht hf hz
    obtain ⟨f', rfl⟩ : ∃ f', f = f' + 1 := ⟨f - 1, by omega⟩
    rw [f_X7_isName_L14_s, pk_mul, pk_mul, if_pos (nI_le (by omega) (by omega))]
    rcases hz with rfl | rfl
    · refine Or.inr ⟨?_, rfl⟩
      rintro (q | ⟨v, v1, v2, _⟩)
      · cases q
      · omega
    · exact Or.inl ⟨Or.inl rfl, rfl⟩
  | succ d ih =>
    intro t f z ht hf hz
    obtain ⟨f', rfl⟩ : ∃ f', f = f' + 1 := ⟨f - 1, by omega⟩
    obtain ⟨b1, b2, b3⟩ := sc_div (s := aSC a) (v := t) (by omega)
    have hs0 : 0 < aSC a := by omega
    have w1 := hok.2.2.1 _ b1
    have w2 := hok.2.2.1 _ b2
    have w3 := hok.2.2.1 _ b3
    have l1 : aS a (t / aSC a / aSC a) < 2 ^ 63 := by
      have : aS a (t / aSC a / aSC a) < 19683 := w1.2.1
      omega
    have l2 : aS a (t / aSC a % aSC a) < 2 ^ 63 := by
      have : aS a (t / aSC a % aSC a) < 19683 := w2.2.1
      omega
    have l3 : aS a (t % aSC a) < 2 ^ 63 := by
      have : aS a (t % aSC a) < 19683 := w3.2.1
      omega
    have j2 := jn_lt w1.2.1 w2
    have j3 := jn_lt j2 w3
    have j2' : jn (aS a (t / aSC a / aSC a)) (aS a (t / aSC a % aSC a)) < 2 ^ 63 := Nat.lt_of_lt_of_le j2 (by decide)
    have j3' : jn (jn (aS a (t / aSC a / aSC a)) (aS a (t / aSC a % aSC a))) (aS a (t % aSC a)) < 2 ^ 63 := Nat.lt_of_lt_of_le j3 (by decide)
    have hnz : zz_nz (nI (aSC a)) = true := decide_eq_true (nI_ne0 hs0 (by omega))
    have step : ∀ z', (z' = 0 ∨ z' = 1) → (z' = 1 ↔ (z = 1 ∨ nmH a n t)) → ((z = 1 ∨ ∃ v, t ≤ v ∧ v < aSC a * aSC a * aSC a ∧ nmH a n v) ∧ f_X7_isName_L14 N K row (lN n) (nI (aSC a)) f' z' (nI (t + 1)) = K 1) ∨ ((¬ (z = 1 ∨ ∃ v, t ≤ v ∧ v < aSC a * aSC a * aSC a ∧ nmH a n v)) ∧ f_X7_isName_L14 N K row (lN n) (nI (aSC a)) f' z' (nI (t + 1)) = K 0) := by
      intro z' hz' he
      have hh : (z' = 1 ∨ ∃ v, t + 1 ≤ v ∧ v < aSC a * aSC a * aSC a ∧ nmH a n v) ↔ (z = 1 ∨ ∃ v, t ≤ v ∧ v < aSC a * aSC a * aSC a ∧ nmH a n v) := by
        rw [he]
        constructor
        · rintro ((q | q) | ⟨v, v1, v2⟩)
          · exact Or.inl q
          · exact Or.inr ⟨t, by omega, by omega, q⟩
          · exact Or.inr ⟨v, by omega, v2⟩
        · rintro (q | ⟨v, v1, v2, v3⟩)
          · exact Or.inl (Or.inl q)
          · by_cases e : v = t
            · rw [e] at v3
              exact Or.inl (Or.inr v3)
            · exact Or.inr ⟨v, by omega, v2, v3⟩
      rcases ih (t + 1) f' z' (by omega) (by omega) hz' with ⟨q1, q2⟩ | ⟨q1, q2⟩
      · exact Or.inl ⟨hh.mp q1, q2⟩
      · exact Or.inr ⟨fun q => q1 (hh.mpr q), q2⟩
    rw [f_X7_isName_L14_s, pk_mul, pk_mul, if_neg (nI_ge (by omega) (by omega)), zl_b1 (ba_eq N hN hok (zl_row0 hra) h63 hD), hB, if_pos rfl, if_neg (show ¬ (1 : Int32) = 0 by decide), zl_gd hnz, pk_rem (a := t) (by omega) hs0 (by omega), pk_div (a := t) (by omega) hs0 (by omega), pk_rem (a := t / aSC a) (Nat.lt_of_le_of_lt (Nat.div_le_self _ _) (by omega)) hs0 (by omega), pk_div (Nat.lt_of_le_of_lt (Nat.div_le_self _ _) (by omega)) hs0 (by omega), show (27 : Int32) = nI 27 from rfl, nI_add, nI_add, nI_add, zl_gd (zl_inN (show 27 + t / aSC a / aSC a < 300 by omega) (by decide)), zl_let, zl_gd (zl_inN (show 27 + t / aSC a % aSC a < 300 by omega) (by decide)), zl_cl (show 27 + t / aSC a / aSC a < 2 ^ 31 by omega), zl_cl (show 27 + t / aSC a % aSC a < 2 ^ 31 by omega), zl_row27 hok hra b1, zl_row27 hok hra b2, zl_b1 (jn_eq N hN _ l2), zl_let, zl_gd (zl_inN (show 27 + t % aSC a < 300 by omega) (by decide)), zl_cl (show 27 + t % aSC a < 2 ^ 31 by omega), zl_row27 hok hra b3, zl_b1 (jn_eq N hN _ l3), nI_1]
    rcases hz with rfl | rfl
    · rw [if_pos rfl]
      by_cases c1 : aS a (t / aSC a / aSC a) = n
      · rw [if_pos (by rw [c1])]
        exact step 1 (Or.inr rfl) ⟨fun _ => Or.inr (Or.inl c1), fun _ => rfl⟩
      · rw [if_neg (fun q => c1 ((pk_lEQ l1 h63).mp q))]
        by_cases c2 : jn (aS a (t / aSC a / aSC a)) (aS a (t / aSC a % aSC a)) = n
        · rw [if_pos (by rw [c2])]
          exact step 1 (Or.inr rfl) ⟨fun _ => Or.inr (Or.inr (Or.inl c2)), fun _ => rfl⟩
        · rw [if_neg (fun q => c2 ((pk_lEQ j2' h63).mp q))]
          by_cases c3 : jn (jn (aS a (t / aSC a / aSC a)) (aS a (t / aSC a % aSC a))) (aS a (t % aSC a)) = n
          · rw [if_pos (by rw [c3])]
            exact step 1 (Or.inr rfl) ⟨fun _ => Or.inr (Or.inr (Or.inr c3)), fun _ => rfl⟩
          · rw [if_neg (fun q => c3 ((pk_lEQ j3' h63).mp q))]
            refine step 0 (Or.inl rfl) ⟨fun q => by (cases q), ?_⟩
            rintro (q | q | q | q)
            · cases q
            · exact absurd q c1
            · exact absurd q c2
            · exact absurd q c3
    · rw [if_neg (show ¬ (1 : Int32) = 0 by decide)]
      exact step 1 (Or.inr rfl) ⟨fun _ => Or.inl rfl, fun _ => rfl⟩
theorem name7 (N : Nat) (hN : 100000 ≤ N) {a : AW} {row : Nat → Int32} {w : Nat → Int64} (hok : zOK a) (hra : zRA a row w 0) {n : Nat} (hW : isW 9 n) : ((aB a n = true ∧ aNm a n) ∧ f_X7_isName N row (lN n) = some 1) ∨ ((¬ (aB a n = true ∧ aNm a n)) ∧ f_X7_isName N row (lN n) = some 0) := by
  have hsc : aSC a ≤ 10 := hok.2.1
  have hcu : aSC a * aSC a * aSC a ≤ 10 * 10 * 10 := Nat.mul_le_mul (Nat.mul_le_mul hsc hsc) hsc
  obtain ⟨h0, h9, hD⟩ := isW_iff.mp hW
  have h63 : n < 2 ^ 63 := by rw [p27] at h9; omega
  have h26 : row (26 : Int32).toNatClampNeg = nI (aSC a) := hra.2.1
  unfold f_X7_isName
  rw [h26, zl_let, zl_let]
  cases c : aB a n with
  | true =>
    rcases nm_loop N hN hok hra hW c (fun (v3_22 : Int32) => zz_gd (zz_isB v3_22) ((some v3_22))) (aSC a * aSC a * aSC a) 0 N 0 (by omega) (by omega) (Or.inl rfl) with ⟨q1, q2⟩ | ⟨q1, q2⟩
    · refine Or.inl ⟨⟨rfl, nm_of.mpr ?_⟩, q2⟩
      rcases q1 with q | ⟨v, _, v2⟩
      · cases q
      · exact ⟨v, v2⟩
    · refine Or.inr ⟨fun q => q1 (Or.inr ?_), q2⟩
      obtain ⟨v, v2⟩ := nm_of.mp q.2
      exact ⟨v, by omega, v2⟩
  | false =>
    refine Or.inr ⟨fun q => by (cases q.1), ?_⟩
    obtain ⟨f', e⟩ : ∃ f', N = f' + 1 := ⟨N - 1, by omega⟩
    have e2 := ba_eq N hN hok (zl_row0 hra) h63 hD
    rw [c] at e2
    have : ∀ f'', f_X7_isName_L14 N (fun (v3_22 : Int32) => zz_gd (zz_isB v3_22) ((some v3_22))) row (lN n) (nI (aSC a)) (f'' + 1) 0 0 = some 0 := fun f'' => by
      rw [f_X7_isName_L14_s]
      by_cases c3 : nI (aSC a) * nI (aSC a) * nI (aSC a) ≤ 0
      · rw [if_pos c3]
        rfl
      · rw [if_neg c3, zl_b1 e2]
        rfl
    have := this f'
    rw [← e] at this
    exact this
theorem pr_name (c : Nat → ClassId) (n_numbers : Nat → Int32) (n_syllables : Nat → Int64) (n_syllableCount : Int32) (n_days : Nat → Int32) (n_words : Nat → Int64) (n_parents : Nat → Int32) (n_otherParents : Nat → Int32) (n_kinds : Nat → Int32) (n_personCount : Int32) (n_hopeDays : Nat → Int32) (n_hopeTenths : Nat → Int32) (n_hopeCount : Int32) (n_degreesTold : Int32) (r_text : Nat → Int32) (r_length : Int32) (s_lane : Nat → Int32) (s_size : Nat → Int32) (s_items : Nat → Nat → Int32) (i_ir : Nat → Option Nat) (g0 : va_W) (g1 : va_W) (z_row : Nat → Int32) (z_words : Nat → Int64) (z_isKept : Nat → Int32) (z_text : Nat → Int32) (z_length : Int32) (z_lanes : Nat → Int32) (z_sizes : Nat → Int32) (z_items : Nat → Int32) (p1 : Int64) (N : Nat) (hN : 100000 ≤ N) (hR : zRel c n_numbers n_syllables n_syllableCount n_days n_words n_parents n_otherParents n_kinds n_personCount n_hopeDays n_hopeTenths n_hopeCount n_degreesTold r_text r_length s_lane s_size s_items i_ir g0 g1 z_row z_words z_isKept z_text z_length z_lanes z_sizes z_items) : ∃ (r : Int32), f_X6_name N n_numbers n_syllables n_syllableCount p1 = some r ∧ f_X7_name N z_row p1 = some r ∧ zRel c n_numbers n_syllables n_syllableCount n_days n_words n_parents n_otherParents n_kinds n_personCount n_hopeDays n_hopeTenths n_hopeCount n_degreesTold r_text r_length s_lane s_size s_items i_ir g0 g1 z_row z_words z_isKept z_text z_length z_lanes z_sizes z_items := by
  obtain ⟨⟨a, hok, hw, hra⟩, _⟩ := id hR
  suffices hh : ∃ r, f_X6_name N n_numbers n_syllables n_syllableCount p1 = some r ∧ f_X7_name N z_row p1 = some r by
    obtain ⟨r, h1, h2⟩ := hh
    exact ⟨r, h1, h2, hR⟩
  rw [hw.2.1]
  unfold f_X6_name f_X7_name
  rcases code_cases N hN p1 with ⟨n, h1, rfl, h2, h3, h4, h5⟩ | ⟨h2, h5, _⟩
  · rw [zl_b1 h2, if_neg (nI_ne0 h3 (by omega)), zl_bT h5]
    rcases name6 N hN hok hw.1 hw.2.2.1 h1 with ⟨q1, q2⟩ | ⟨q1, q2⟩
    · rcases name7 N hN hok hra h1 with ⟨r1, r2⟩ | ⟨r1, r2⟩
      · rw [zl_bT q2, zl_bT r2]
        exact ⟨_, rfl, rfl⟩
      · exact absurd q1 r1
    · rcases name7 N hN hok hra h1 with ⟨r1, r2⟩ | ⟨r1, r2⟩
      · exact absurd r1 q1
      · rw [zl_bF q2, zl_bF r2]
        exact ⟨_, rfl, rfl⟩
  · rw [zl_bF h2, zl_bF h5]
    exact ⟨_, rfl, rfl⟩
