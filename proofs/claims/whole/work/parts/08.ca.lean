/-! ===== keep, back: worlds moved ===== -/
theorem mv_row (N : Nat) {o1 o2 : Nat} (h1 : o1 ≤ 2) (h2 : o2 ≤ 2) (hne : o1 ≠ o2) (row : Nat → Int32) (K) : ∀ (d i f : Nat) (r : Nat → Int32), i + d = 100 → d < f → (∀ j, j < i → r (100 * o2 + j) = row (100 * o1 + j)) → (∀ x, (x < 100 * o2 ∨ 100 * o2 + i ≤ x) → r x = row x) → ∃ r', f_X7_move_L2 N K (nI o1) (nI o2) f (nI i) r = K r' ∧ (∀ j, j < 100 → r' (100 * o2 + j) = row (100 * o1 + j)) ∧ ∀ x, (x < 100 * o2 ∨ 100 * o2 + 100 ≤ x) → r' x = row x := by
  have e1 : (100 : Int32) * nI o1 = nI (100 * o1) := pk_mul 100 o1
  have e2 : (100 : Int32) * nI o2 = nI (100 * o2) := pk_mul 100 o2
  intro d
  induction d with
  | zero =>
    intro i f r hi hf q1 q2
    obtain ⟨f, rfl⟩ : ∃ g, f = g + 1 := ⟨f - 1, by omega⟩
    obtain rfl : i = 100 := by omega
    rw [f_X7_move_L2_s, if_pos (show (100 : Int32) ≤ nI 100 by decide)]
    exact ⟨r, rfl, q1, q2⟩
  | succ d ih =>
    intro i f r hi hf q1 q2
    obtain ⟨f, rfl⟩ : ∃ g, f = g + 1 := ⟨f - 1, by omega⟩
    rw [f_X7_move_L2_s, if_neg (show ¬ (100 : Int32) ≤ nI i from nI_ge (b := 100) (by omega) (by decide)), e1, e2, nI_add, nI_add, zl_gd (zl_inN (show 100 * o1 + i < 300 by omega) (by decide)), zl_gd (zl_inN (show 100 * o2 + i < 300 by omega) (by decide)), zl_let, zl_let, zl_cl (show 100 * o1 + i < 2 ^ 31 by omega), zl_cl (show 100 * o2 + i < 2 ^ 31 by omega), nI_1]
    refine ih (i + 1) f _ (by omega) (by omega) (fun j hj => ?_) (fun x hx => ?_)
    · by_cases c : j = i
      · rw [c, pk_us, q2 _ (by omega)]
      · rw [pk_un (by omega), q1 j (by omega)]
    · rw [pk_un (by omega), q2 x (by omega)]
theorem mv_wrd (N : Nat) {o1 o2 : Nat} (h1 : o1 ≤ 2) (h2 : o2 ≤ 2) (hne : o1 ≠ o2) (row : Nat → Int64) (K) : ∀ (d i f : Nat) (r : Nat → Int64), i + d = 16 → d < f → (∀ j, j < i → r (16 * o2 + j) = row (16 * o1 + j)) → (∀ x, (x < 16 * o2 ∨ 16 * o2 + i ≤ x) → r x = row x) → ∃ r', f_X7_move_L38 N K (nI o1) (nI o2) f (nI i) r = K r' ∧ (∀ j, j < 16 → r' (16 * o2 + j) = row (16 * o1 + j)) ∧ ∀ x, (x < 16 * o2 ∨ 16 * o2 + 16 ≤ x) → r' x = row x := by
  have e1 : (16 : Int32) * nI o1 = nI (16 * o1) := pk_mul 16 o1
  have e2 : (16 : Int32) * nI o2 = nI (16 * o2) := pk_mul 16 o2
  intro d
  induction d with
  | zero =>
    intro i f r hi hf q1 q2
    obtain ⟨f, rfl⟩ : ∃ g, f = g + 1 := ⟨f - 1, by omega⟩
    obtain rfl : i = 16 := by omega
    rw [f_X7_move_L38_s, if_pos (show (16 : Int32) ≤ nI 16 by decide)]
    exact ⟨r, rfl, q1, q2⟩
  | succ d ih =>
    intro i f r hi hf q1 q2
    obtain ⟨f, rfl⟩ : ∃ g, f = g + 1 := ⟨f - 1, by omega⟩
    rw [f_X7_move_L38_s, if_neg (show ¬ (16 : Int32) ≤ nI i from nI_ge (b := 16) (by omega) (by decide)), e1, e2, nI_add, nI_add, zl_gd (zl_inN (show 16 * o1 + i < 48 by omega) (by decide)), zl_gd (zl_inN (show 16 * o2 + i < 48 by omega) (by decide)), zl_let, zl_let, zl_cl (show 16 * o1 + i < 2 ^ 31 by omega), zl_cl (show 16 * o2 + i < 2 ^ 31 by omega), nI_1]
    refine ih (i + 1) f _ (by omega) (by omega) (fun j hj => ?_) (fun x hx => ?_)
    · by_cases c : j = i
      · rw [c, pk_uLs, q2 _ (by omega)]
      · rw [pk_uLn (by omega), q1 j (by omega)]
    · rw [pk_uLn (by omega), q2 x (by omega)]
theorem mv_eq (N : Nat) (hN : 100000 ≤ N) {o1 o2 : Nat} (h1 : o1 ≤ 2) (h2 : o2 ≤ 2) (hne : o1 ≠ o2) (row : Nat → Int32) (words : Nat → Int64) : ∃ row' words', f_X7_move N row words (nI o1) (nI o2) = some (row', words') ∧ ((∀ j, j < 100 → row' (100 * o2 + j) = row (100 * o1 + j)) ∧ ∀ x, (x < 100 * o2 ∨ 100 * o2 + 100 ≤ x) → row' x = row x) ∧ ((∀ j, j < 16 → words' (16 * o2 + j) = words (16 * o1 + j)) ∧ ∀ x, (x < 16 * o2 ∨ 16 * o2 + 16 ≤ x) → words' x = words x) := by
  obtain ⟨row', a1, a2⟩ := mv_row N h1 h2 hne row (fun (t_row_9 : Nat → Int32) => zz_let (fun (t_words_18 : Nat → Int64) => (some (t_row_9, t_words_18))) (fun k_10 => f_X7_move_L38 N k_10 (nI o1) (nI o2) N (0 : Int32) words)) 100 0 N row (by omega) (by omega) (fun j hj => by omega) (fun x _ => rfl)
  obtain ⟨words', b1, b2⟩ := mv_wrd N h1 h2 hne words (fun (t_words_18 : Nat → Int64) => (some (row', t_words_18))) 16 0 N words (by omega) (by omega) (fun j hj => by omega) (fun x _ => rfl)
  refine ⟨row', words', ?_, a2, b2⟩
  unfold f_X7_move
  rw [zl_let]
  refine (show f_X7_move_L2 N _ (nI o1) (nI o2) N (0 : Int32) row = _ from a1).trans ?_
  rw [zl_let]
  exact b1
theorem zRA_mv {a : AW} {row row' : Nat → Int32} {w w' : Nat → Int64} {o1 o2 : Nat} (hok : zOK a) (h : ∀ j, j < 100 → row' (100 * o2 + j) = row (100 * o1 + j)) (h' : ∀ j, j < 16 → w' (16 * o2 + j) = w (16 * o1 + j)) (q : zRA a row w o1) : zRA a row' w' o2 := by
  have k2 : aSC a ≤ 10 := hok.2.1
  have k5 : aPC a ≤ 16 := hok.2.2.2.2.1
  have k7 : aHC a ≤ 6 := hok.2.2.2.2.2.2.1
  obtain ⟨q1, q2, q3, q4, q5, q6, q7, q8⟩ := q
  refine ⟨fun i hi => by rw [h _ (by omega)]; exact q1 i hi, by rw [h _ (by omega)]; exact q2, fun i hi => by rw [Nat.add_assoc, h _ (by omega), ← Nat.add_assoc]; exact q3 i hi, by rw [h _ (by omega)]; exact q4, by rw [h _ (by omega)]; exact q5, fun p hp => ?_, by rw [h _ (by omega)]; exact q7, fun i hi => ?_⟩
  · rw [Nat.add_assoc (100 * o2) 39, Nat.add_assoc (100 * o2) 55, Nat.add_assoc (100 * o2) 71, h _ (by omega), h _ (by omega), h _ (by omega), h' _ (by omega), ← Nat.add_assoc, ← Nat.add_assoc, ← Nat.add_assoc]
    exact q6 p hp
  · rw [Nat.add_assoc (100 * o2) 88, Nat.add_assoc (100 * o2) 94, h _ (by omega), h _ (by omega), ← Nat.add_assoc, ← Nat.add_assoc]
    exact q8 i hi
theorem zIm_mv {c : Nat → ClassId} {k : Nat} {ir : Option Nat} {g : va_W} {kept : Int32} {row row' : Nat → Int32} {w w' : Nat → Int64} (h : ∀ j, j < 100 → row' (100 * (1 + k) + j) = row (100 * (1 + k) + j)) (h' : ∀ j, j < 16 → w' (16 * (1 + k) + j) = w (16 * (1 + k) + j)) (q : zIm c k ir g kept row w) : zIm c k ir g kept row' w' := by
  rcases q with q | ⟨v, ak, b1, b2, b3, b4, b5, b6, b7, b8, b9, b10, b11, b12, b13, e1, e2, e3, e4, e5, e6⟩
  · exact Or.inl q
  · exact Or.inr ⟨v, ak, b1, b2, b3, b4, b5, b6, b7, b8, b9, b10, b11, b12, b13, e1, e2, e3, e4, e5, zRA_mv e4 h h' e6⟩
theorem im_not {N : Nat} {p : Int32} (h : ∀ k, k < 2 → p ≠ nI k) : f_X6_isImage N p = some 0 ∧ f_X7_in N p.toInt64 (0 : Int64) (1 : Int64) = some 0 := by
  have hp : ¬ (0 ≤ p.toInt ∧ p.toInt ≤ 1) := fun q => by
    have h0 := h 0 (by decide)
    have h1 := h 1 (by decide)
    rcases (show p.toInt = 0 ∨ p.toInt = 1 by omega) with e | e
    · exact h0 (Int32.toInt_inj.mp (e.trans (show (0 : Int) = (nI 0).toInt by decide)))
    · exact h1 (Int32.toInt_inj.mp (e.trans (show (1 : Int) = (nI 1).toInt by decide)))
  constructor
  · unfold f_X6_isImage
    by_cases c : p < 0
    · rw [if_pos c]
    · rw [if_neg c]
      have : (2 : Int32) ≤ p := by
        rw [Int32.le_iff_toInt_le]
        rw [Int32.lt_iff_toInt_lt] at c
        have e0 : (0 : Int32).toInt = 0 := by decide
        have e2 : (2 : Int32).toInt = 2 := by decide
        omega
      rw [if_pos this]
  · refine zl_in7f ?_
    rw [zl_wide]
    have e0 : (0 : Int64).toInt = 0 := by decide
    have e1 : (1 : Int64).toInt = 1 := by decide
    rw [e0, e1]
    exact hp
theorem im_yes {N : Nat} {k : Nat} (h : k < 2) : f_X6_isImage N (nI k) = some 1 ∧ f_X7_in N (nI k).toInt64 (0 : Int64) (1 : Int64) = some 1 ∧ zz_in (nI k) 2 = true ∧ (nI k).toNatClampNeg = k := by
  rcases (show k = 0 ∨ k = 1 by omega) with rfl | rfl
  · exact ⟨rfl, zl_in7t (by decide), by decide, rfl⟩
  · exact ⟨rfl, zl_in7t (by decide), by decide, rfl⟩
section
variable {N : Nat} {n1 : Nat → Int32} {n2 : Nat → Int64} {n3 : Int32} {n4 : Nat → Int32} {n5 : Nat → Int64} {n6 n7 n8 : Nat → Int32} {n9 : Int32} {n10 n11 : Nat → Int32} {n12 n13 : Int32} {v1 : Nat → Int32} {v2 : Nat → Int64} {v3 : Int32} {v4 : Nat → Int32} {v5 : Nat → Int64} {v6 v7 v8 : Nat → Int32} {v9 : Int32} {v10 v11 : Nat → Int32} {v12 v13 : Int32} {row : Nat → Int32} {words : Nat → Int64} {kept : Nat → Int32} {a : AW} {k : Nat}
theorem im_out {p : Int32} (h : ∀ k, k < 2 → p ≠ nI k) : f_X7_back N row words kept p = some (-2, row, words) ∧ f_X7_keep N row words kept p = some (-2, row, words, kept) := by
  have q := (im_not (N := N) h).2
  constructor
  · unfold f_X7_back
    rw [zl_b1 q, if_pos rfl]
  · unfold f_X7_keep
    rw [zl_b1 q, if_pos rfl]
theorem bk_n (hk : k < 2) (h : kept k = 0) : f_X6_back_n N (nI k) = some (-4) ∧ f_X7_back N row words kept (nI k) = some (-4, row, words) := by
  obtain ⟨q1, q2, q3, q4⟩ := im_yes (N := N) hk
  constructor
  · unfold f_X6_back_n
    rw [zl_b1 q1, if_neg (by decide), zl_gd q3]
  · unfold f_X7_back
    rw [zl_b1 q2, if_neg (by decide), zl_gd q3, q4, if_pos h]
theorem bk_s (hN : 100000 ≤ N) (hok : zOK a) (hk : k < 2) (hv : zWA a v1 v2 v3 v4 v5 v6 v7 v8 v9 v10 v11 v12 v13) (hra : zRA a row words (1 + k)) (hkp : kept k = 1) : ∃ x1 x2 x3 x4 x5 x6 x7 x8 x9 x10 x11 x12 x13 row' words', f_X6_back_s N n1 n2 n3 n4 n5 n6 n7 n8 n9 n10 n11 n12 n13 v1 v2 v3 v4 v5 v6 v7 v8 v9 v10 v11 v12 v13 (nI k) = some (nI (aPC a), x1, x2, x3, x4, x5, x6, x7, x8, x9, x10, x11, x12, x13) ∧ f_X7_back N row words kept (nI k) = some (nI (aPC a), row', words') ∧ zWA a x1 x2 x3 x4 x5 x6 x7 x8 x9 x10 x11 x12 x13 ∧ zRA a row' words' 0 ∧ (∀ x, 100 ≤ x → row' x = row x) ∧ ∀ x, 16 ≤ x → words' x = words x := by
  obtain ⟨q1, q2, q3, q4⟩ := im_yes (N := N) hk
  obtain ⟨x1, x2, x3, x4, x5, x6, x7, x8, x9, x10, x11, x12, x13, t1, t2⟩ := tf_eq (N := N) hok n1 n2 n3 n4 n5 n6 n7 n8 n9 n10 n11 n12 n13 v1 v2 v3 v4 v5 v6 v7 v8 v9 v10 v11 v12 v13 hv
  obtain ⟨row', words', m1, ⟨m2, m3⟩, m4, m5⟩ := mv_eq N hN (o1 := 1 + k) (o2 := 0) (by omega) (by omega) (by omega) row words
  have hz : zRA a row' words' 0 := zRA_mv hok m2 m4 hra
  have e9 : x9 = nI (aPC a) := t2.2.2.2.1
  refine ⟨x1, x2, x3, x4, x5, x6, x7, x8, x9, x10, x11, x12, x13, row', words', ?_, ?_, t2, hz, fun x hx => m3 x (by omega), fun x hx => m5 x (by omega)⟩
  · unfold f_X6_back_s
    rw [zl_b1 q1, if_neg (by decide), zl_gd q3, zl_b13 t1, e9]
  · unfold f_X7_back
    rw [zl_b1 q2, if_neg (by decide), zl_gd q3, q4, if_neg (by rw [hkp]; decide), show (1 : Int32) + nI k = nI (1 + k) from nI_add 1 k, zl_b2 (show f_X7_move N row words (nI (1 + k)) (0 : Int32) = _ from m1), show row' (38 : Int32).toNatClampNeg = nI (aPC a) from hz.2.2.2.2.1]
theorem kp_s (hok : zOK a) (hk : k < 2) (hw : zWA a n1 n2 n3 n4 n5 n6 n7 n8 n9 n10 n11 n12 n13) : ∃ x1 x2 x3 x4 x5 x6 x7 x8 x9 x10 x11 x12 x13, f_X6_keep_s N n1 n2 n3 n4 n5 n6 n7 n8 n9 n10 n11 n12 n13 v1 v2 v3 v4 v5 v6 v7 v8 v9 v10 v11 v12 v13 (nI k) = some (nI (aPC a), x1, x2, x3, x4, x5, x6, x7, x8, x9, x10, x11, x12, x13) ∧ zWA a x1 x2 x3 x4 x5 x6 x7 x8 x9 x10 x11 x12 x13 := by
  obtain ⟨q1, q2, q3, q4⟩ := im_yes (N := N) hk
  obtain ⟨x1, x2, x3, x4, x5, x6, x7, x8, x9, x10, x11, x12, x13, t1, t2⟩ := tf_eq (N := N) hok v1 v2 v3 v4 v5 v6 v7 v8 v9 v10 v11 v12 v13 n1 n2 n3 n4 n5 n6 n7 n8 n9 n10 n11 n12 n13 hw
  refine ⟨x1, x2, x3, x4, x5, x6, x7, x8, x9, x10, x11, x12, x13, ?_, t2⟩
  unfold f_X6_keep_s
  rw [zl_b1 q1, if_neg (by decide), zl_gd q3, zl_b13 t1, show n9 = nI (aPC a) from hw.2.2.2.1]
theorem kp_7 (hN : 100000 ≤ N) (hok : zOK a) (hk : k < 2) (hra : zRA a row words 0) : ∃ row' words', f_X7_keep N row words kept (nI k) = some (nI (aPC a), row', words', upd kept k 1) ∧ zRA a row' words' 0 ∧ zRA a row' words' (1 + k) ∧ (∀ j, j ≠ k → ∀ i, i < 100 → row' (100 * (1 + j) + i) = row (100 * (1 + j) + i)) ∧ ∀ j, j ≠ k → ∀ i, i < 16 → words' (16 * (1 + j) + i) = words (16 * (1 + j) + i) := by
  obtain ⟨q1, q2, q3, q4⟩ := im_yes (N := N) hk
  obtain ⟨row', words', m1, ⟨m2, m3⟩, m4, m5⟩ := mv_eq N hN (o1 := 0) (o2 := 1 + k) (by omega) (by omega) (by omega) row words
  have hz : zRA a row' words' 0 := zRA_mv (o1 := 0) hok (fun j hj => m3 _ (by omega)) (fun j hj => m5 _ (by omega)) hra
  refine ⟨row', words', ?_, hz, zRA_mv hok m2 m4 hra, fun j hj i hi => m3 _ (by omega), fun j hj i hi => m5 _ (by omega)⟩
  unfold f_X7_keep
  rw [zl_b1 q2, if_neg (by decide), show (1 : Int32) + nI k = nI (1 + k) from nI_add 1 k, zl_b2 (show f_X7_move N row words (0 : Int32) (nI (1 + k)) = _ from m1), zl_gd q3, zl_let, q4, show row' (38 : Int32).toNatClampNeg = nI (aPC a) from hz.2.2.2.2.1]
end
