/-! ===== a line ===== -/
theorem zl_b8 {A1 A2 A3 A4 A5 A6 A7 A8 B : Type} {x : Option (A1 × A2 × A3 × A4 × A5 × A6 × A7 × A8)} {a1 : A1} {a2 : A2} {a3 : A3} {a4 : A4} {a5 : A5} {a6 : A6} {a7 : A7} {a8 : A8} {k : A1 → A2 → A3 → A4 → A5 → A6 → A7 → A8 → Option B} (h : x = some (a1, a2, a3, a4, a5, a6, a7, a8)) : zz_b8 x k = k a1 a2 a3 a4 a5 a6 a7 a8 := by rw [h]; rfl
theorem zl_b9 {A1 A2 A3 A4 A5 A6 A7 A8 A9 B : Type} {x : Option (A1 × A2 × A3 × A4 × A5 × A6 × A7 × A8 × A9)} {a1 : A1} {a2 : A2} {a3 : A3} {a4 : A4} {a5 : A5} {a6 : A6} {a7 : A7} {a8 : A8} {a9 : A9} {k : A1 → A2 → A3 → A4 → A5 → A6 → A7 → A8 → A9 → Option B} (h : x = some (a1, a2, a3, a4, a5, a6, a7, a8, a9)) : zz_b9 x k = k a1 a2 a3 a4 a5 a6 a7 a8 a9 := by rw [h]; rfl
theorem zl_b11 {A1 A2 A3 A4 A5 A6 A7 A8 A9 A10 A11 B : Type} {x : Option (A1 × A2 × A3 × A4 × A5 × A6 × A7 × A8 × A9 × A10 × A11)} {a1 : A1} {a2 : A2} {a3 : A3} {a4 : A4} {a5 : A5} {a6 : A6} {a7 : A7} {a8 : A8} {a9 : A9} {a10 : A10} {a11 : A11} {k : A1 → A2 → A3 → A4 → A5 → A6 → A7 → A8 → A9 → A10 → A11 → Option B} (h : x = some (a1, a2, a3, a4, a5, a6, a7, a8, a9, a10, a11)) : zz_b11 x k = k a1 a2 a3 a4 a5 a6 a7 a8 a9 a10 a11 := by rw [h]; rfl
theorem zl_b12 {A1 A2 A3 A4 A5 A6 A7 A8 A9 A10 A11 A12 B : Type} {x : Option (A1 × A2 × A3 × A4 × A5 × A6 × A7 × A8 × A9 × A10 × A11 × A12)} {a1 : A1} {a2 : A2} {a3 : A3} {a4 : A4} {a5 : A5} {a6 : A6} {a7 : A7} {a8 : A8} {a9 : A9} {a10 : A10} {a11 : A11} {a12 : A12} {k : A1 → A2 → A3 → A4 → A5 → A6 → A7 → A8 → A9 → A10 → A11 → A12 → Option B} (h : x = some (a1, a2, a3, a4, a5, a6, a7, a8, a9, a10, a11, a12)) : zz_b12 x k = k a1 a2 a3 a4 a5 a6 a7 a8 a9 a10 a11 a12 := by rw [h]; rfl
theorem zl_b21 {A1 A2 A3 A4 A5 A6 A7 A8 A9 A10 A11 A12 A13 A14 A15 A16 A17 A18 A19 A20 A21 B : Type} {x : Option (A1 × A2 × A3 × A4 × A5 × A6 × A7 × A8 × A9 × A10 × A11 × A12 × A13 × A14 × A15 × A16 × A17 × A18 × A19 × A20 × A21)} {a1 : A1} {a2 : A2} {a3 : A3} {a4 : A4} {a5 : A5} {a6 : A6} {a7 : A7} {a8 : A8} {a9 : A9} {a10 : A10} {a11 : A11} {a12 : A12} {a13 : A13} {a14 : A14} {a15 : A15} {a16 : A16} {a17 : A17} {a18 : A18} {a19 : A19} {a20 : A20} {a21 : A21} {k : A1 → A2 → A3 → A4 → A5 → A6 → A7 → A8 → A9 → A10 → A11 → A12 → A13 → A14 → A15 → A16 → A17 → A18 → A19 → A20 → A21 → Option B} (h : x = some (a1, a2, a3, a4, a5, a6, a7, a8, a9, a10, a11, a12, a13, a14, a15, a16, a17, a18, a19, a20, a21)) : zz_b21 x k = k a1 a2 a3 a4 a5 a6 a7 a8 a9 a10 a11 a12 a13 a14 a15 a16 a17 a18 a19 a20 a21 := by rw [h]; rfl
section
variable {N : Nat} {textM : Nat → Int32} {n : Nat} {m : Nat} {read : Nat → Int32} {rw_ : Nat → Int64} {at_ pl en P H S : Int32} {syl : Nat → Int32} {w : Int32}
theorem rl7_a (hwd : f_X7_wordOf N textM pl en = some (-1)) : f_X7_readsLine N textM (nI n) read rw_ (nI m) at_ pl en P H S syl = some (0, read, rw_, nI m, at_, pl, en, P, H, S, syl) := by
  unfold f_X7_readsLine
  rw [zl_b1 hwd, zl_let, if_neg (by decide), if_neg (by decide)]
  dsimp only
  rw [if_pos rfl]
theorem rl7_b (hwd : f_X7_wordOf N textM pl en = some w) (hw : w = 2 ∨ w = 3) : f_X7_readsLine N textM (nI n) read rw_ (nI m) at_ pl en 16 H S syl = some (0, read, rw_, nI m, at_, pl, en, 16, H, S, syl) := by
  unfold f_X7_readsLine
  rw [zl_b1 hwd, zl_let]
  rcases hw with rfl | rfl
  · rw [if_pos rfl]
    dsimp only
    rw [if_neg (by decide), zl_let, if_neg (by decide), if_pos rfl]
  · rw [if_neg (by decide), if_pos rfl]
    dsimp only
    rw [if_neg (by decide), zl_let, if_neg (by decide), if_pos rfl]
theorem rl7_c (hwd : f_X7_wordOf N textM pl en = some 5) : f_X7_readsLine N textM (nI n) read rw_ (nI m) at_ pl en P 6 S syl = some (0, read, rw_, nI m, at_, pl, en, P, 6, S, syl) := by
  unfold f_X7_readsLine
  rw [zl_b1 hwd, zl_let, if_neg (by decide), if_neg (by decide)]
  dsimp only
  rw [if_neg (by decide), zl_let, if_pos rfl, zl_let, if_pos rfl, if_pos rfl]
theorem rl7 (hm : m < 8) (hwd : f_X7_wordOf N textM pl en = some w) (hw1 : w ≠ -1) (hp : (w = 2 ∨ w = 3) → P ≠ 16) (hh : w = 5 → H ≠ 6) {at1 pl1 en1 : Int32} (q : f_X7_token N textM (nI n) at_ = some (at1, pl1, en1)) {r : Int32} {read' : Nat → Int32} {rw' : Nat → Int64} {at' pl' en' S' : Int32} {syl' : Nat → Int32} (hr : f_X7_readsRest N textM (nI n) (upd read (5 * m) w) rw_ (nI m) at1 pl1 en1 P S syl w = some (r, read', rw', at', pl', en', S', syl')) :
    f_X7_readsLine N textM (nI n) read rw_ (nI m) at_ pl en P H S syl = if r = 0 then some (0, read', rw', nI m, at', pl', en', P, H, S', syl') else some (1, read', rw', nI (m + 1), at', pl', en', if w = 7 then 0 else P + (if w = 2 ∨ w = 3 then 1 else 0), if w = 7 then 0 else H + (if w = 5 then 1 else 0), if w = 7 then 0 else S', syl') := by
  have m5 : (5 : Int32) * nI m = nI (5 * m) := pk_mul 5 m
  unfold f_X7_readsLine
  rw [zl_b1 hwd, zl_let]
  by_cases c2 : w = 2
  · have c5 : ¬ w = 5 := by
      rw [c2]
      decide
    have c7 : ¬ w = 7 := by
      rw [c2]
      decide
    rw [if_pos c2]
    dsimp only
    rw [if_neg hw1, zl_let, if_neg (show ¬ (1 : Int32) = 0 by decide), if_neg (hp (Or.inl c2)), zl_let, if_neg c5]
    rw [zl_b3 q, m5, zl_gd (zl_inN (show 5 * m < 40 by omega) (by decide)), zl_let, zl_cl (show 5 * m < 2 ^ 31 by omega), zl_b8 hr]
    by_cases cr : r = 0
    · rw [if_pos cr, if_pos cr]
    · rw [if_neg cr, if_neg cr, zl_let, if_neg (show ¬ (1 : Int32) = 0 by decide)]
      dsimp only
      rw [zl_let, zl_let, if_neg c5]
      dsimp only
      rw [zl_let, zl_let, if_neg c7]
      dsimp only
      rw [zl_let, nI_1, if_neg c7, if_neg c7, if_neg c7, if_pos (Or.inl c2), if_neg c5]
  · rw [if_neg c2]
    by_cases c3 : w = 3
    · have c5 : ¬ w = 5 := by
        rw [c3]
        decide
      have c7 : ¬ w = 7 := by
        rw [c3]
        decide
      rw [if_pos c3]
      dsimp only
      rw [if_neg hw1, zl_let, if_neg (show ¬ (1 : Int32) = 0 by decide), if_neg (hp (Or.inr c3)), zl_let, if_neg c5]
      rw [zl_b3 q, m5, zl_gd (zl_inN (show 5 * m < 40 by omega) (by decide)), zl_let, zl_cl (show 5 * m < 2 ^ 31 by omega), zl_b8 hr]
      by_cases cr : r = 0
      · rw [if_pos cr, if_pos cr]
      · rw [if_neg cr, if_neg cr, zl_let, if_neg (show ¬ (1 : Int32) = 0 by decide)]
        dsimp only
        rw [zl_let, zl_let, if_neg c5]
        dsimp only
        rw [zl_let, zl_let, if_neg c7]
        dsimp only
        rw [zl_let, nI_1, if_neg c7, if_neg c7, if_neg c7, if_pos (show w = 2 ∨ w = 3 from Or.inr c3), if_neg c5]
    · rw [if_neg c3]
      have c23 : ¬ (w = 2 ∨ w = 3) := fun q => q.elim c2 c3
      by_cases c5 : w = 5
      · have c7 : ¬ w = 7 := by
          rw [c5]
          decide
        dsimp only
        rw [if_neg hw1, zl_let, if_pos rfl, zl_let, if_pos c5, if_neg (hh c5)]
        rw [zl_b3 q, m5, zl_gd (zl_inN (show 5 * m < 40 by omega) (by decide)), zl_let, zl_cl (show 5 * m < 2 ^ 31 by omega), zl_b8 hr]
        by_cases cr : r = 0
        · rw [if_pos cr, if_pos cr]
        · rw [if_neg cr, if_neg cr, zl_let, if_pos rfl]
          dsimp only
          rw [zl_let, zl_let, if_pos c5]
          dsimp only
          rw [zl_let, zl_let, if_neg c7]
          dsimp only
          rw [zl_let, nI_1, if_neg c7, if_neg c7, if_neg c7, if_neg c23, if_pos c5]
      · by_cases c7 : w = 7
        · skip
          dsimp only
          rw [if_neg hw1, zl_let, if_pos rfl, zl_let, if_neg c5]
          rw [zl_b3 q, m5, zl_gd (zl_inN (show 5 * m < 40 by omega) (by decide)), zl_let, zl_cl (show 5 * m < 2 ^ 31 by omega), zl_b8 hr]
          by_cases cr : r = 0
          · rw [if_pos cr, if_pos cr]
          · rw [if_neg cr, if_neg cr, zl_let, if_pos rfl]
            dsimp only
            rw [zl_let, zl_let, if_neg c5]
            dsimp only
            rw [zl_let, zl_let, if_pos c7]
            dsimp only
            rw [zl_let, nI_1, if_pos c7, if_pos c7, if_pos c7]
        · skip
          dsimp only
          rw [if_neg hw1, zl_let, if_pos rfl, zl_let, if_neg c5]
          rw [zl_b3 q, m5, zl_gd (zl_inN (show 5 * m < 40 by omega) (by decide)), zl_let, zl_cl (show 5 * m < 2 ^ 31 by omega), zl_b8 hr]
          by_cases cr : r = 0
          · rw [if_pos cr, if_pos cr]
          · rw [if_neg cr, if_neg cr, zl_let, if_pos rfl]
            dsimp only
            rw [zl_let, zl_let, if_neg c5]
            dsimp only
            rw [zl_let, zl_let, if_neg c7]
            dsimp only
            rw [zl_let, nI_1, if_neg c7, if_neg c7, if_neg c7, if_neg c23, if_neg c5]
end
