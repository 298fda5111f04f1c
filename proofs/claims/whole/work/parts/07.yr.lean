/-! ===== what a told line does to the row ===== -/
def stp (read : Nat → Int32) (rw : Nat → Int64) (i : Nat) (a a' : AW) : Prop := ∀ (N : Nat) (row : Nat → Int32) (words : Nat → Int64), zRA a row words 0 → ∃ row' words', f_X7_tell N row words read rw (nI i) = some (row', words') ∧ zRA a' row' words' 0 ∧ (∀ x, 100 ≤ x → row' x = row x) ∧ ∀ x, 16 ≤ x → words' x = words x
theorem tl_pre (N : Nat) {i : Nat} (hi : i < 8) (row : Nat → Int32) (words : Nat → Int64) (read : Nat → Int32) (rw_ : Nat → Int64) : f_X7_tell N row words read rw_ (nI i) = (if read (5 * i) = 0 then zz_gd (zz_in (read (5 * i + 1)) 300) (some (upd row (read (5 * i + 1)).toNatClampNeg (read (5 * i + 2)), words)) else (if read (5 * i) = 1 then zz_gd (zz_in ((27 : Int32) + row 26) 300) (some (upd (upd row ((27 : Int32) + row 26).toNatClampNeg (read (5 * i + 1))) 26 (upd row ((27 : Int32) + row 26).toNatClampNeg (read (5 * i + 1)) 26 + 1), words)) else (if read (5 * i) = 2 then zz_b2 (f_X7_bear N row words (-1 : Int32) (-1 : Int32) (read (5 * i + 1)) (rw_ i)) (fun t_row_14 t_words_15 => (some (t_row_14, t_words_15))) else (if read (5 * i) = 3 then zz_b2 (f_X7_bear N row words (read (5 * i + 1)) (read (5 * i + 2)) (read (5 * i + 3)) (rw_ i)) (fun t_row_18 t_words_19 => (some (t_row_18, t_words_19))) else (if read (5 * i) = 4 then zz_gd (zz_in (read (5 * i + 1)) 48) (some (row, vp_updL words (read (5 * i + 1)).toNatClampNeg (rw_ i))) else (if read (5 * i) = 5 then zz_b1 (f_X7_hopeFor N row (read (5 * i + 1)) (read (5 * i + 2))) (fun t_row_23 => (some (t_row_23, words))) else (if read (5 * i) = 6 then (some (upd row 37 (read (5 * i + 1)), words)) else (some (upd (upd (upd row 26 0) 38 0) 87 0, words))))))))) := by
  have m5 : (5 : Int32) * nI i = nI (5 * i) := pk_mul 5 i
  have e2 : nI (5 * i) + (2 : Int32) = nI (5 * i + 2) := nI_add _ 2
  have e3 : nI (5 * i) + (3 : Int32) = nI (5 * i + 3) := nI_add _ 3
  unfold f_X7_tell
  simp only [zl_let, m5, nI_1, e2, e3]
  rw [zl_gd (zl_inN (show 5 * i + 1 < 40 by omega) (by decide)), zl_gd (zl_inN (show 5 * i + 2 < 40 by omega) (by decide)), zl_gd (zl_inN (show 5 * i < 40 by omega) (by decide)), zl_cl (show 5 * i + 1 < 2 ^ 31 by omega), zl_cl (show 5 * i + 2 < 2 ^ 31 by omega), zl_cl (show 5 * i < 2 ^ 31 by omega), zl_gd (zl_inN (show i < 8 by omega) (by decide)), zl_gd (zl_inN (show 5 * i + 3 < 40 by omega) (by decide)), zl_gd (zl_inN (show i < 8 by omega) (by decide)), zl_gd (zl_inN (show i < 8 by omega) (by decide)), zl_cl (show 5 * i + 3 < 2 ^ 31 by omega), zl_cl (show i < 2 ^ 31 by omega)]
  rfl
theorem stp_congr {read read' : Nat → Int32} {rw rw' : Nat → Int64} {i : Nat} {a a' : AW} (hi : i < 8) (h : stp read rw i a a') (h1 : ∀ x, x < 5 * (i + 1) → read' x = read x) (h2 : rw' i = rw i) : stp read' rw' i a a' := fun N row words hra => by
  obtain ⟨row', words', q1, q2⟩ := h N row words hra
  refine ⟨row', words', ?_, q2⟩
  rw [tl_pre N hi] at q1 ⊢
  rw [h1 _ (by omega), h1 _ (by omega), h1 _ (by omega), h1 _ (by omega), h2]
  exact q1
theorem let_s {a : AW} {read : Nat → Int32} {rw_ : Nat → Int64} {i l v : Nat} (hok : zOK a) (hi : i < 8) (hl : l < 26) (r0 : read (5 * i) = nI 0) (r1 : read (5 * i + 1) = nI l) (r2 : read (5 * i + 2) = nI v) : stp read rw_ i a (aLet a l v) := fun N row words hra => by
  have hsc : aSC a ≤ 10 := hok.2.1
  have hpc : aPC a ≤ 16 := hok.2.2.2.2.1
  have hhc : aHC a ≤ 6 := hok.2.2.2.2.2.2.1
  obtain ⟨g1, g2, g3, g4, g5, g6, g7, g8⟩ := hra
  refine ⟨upd row l (nI v), words, ?_, ⟨fun j hj => ?_, ?_, fun j hj => ?_, ?_, ?_, fun p hp => ?_, ?_, fun j hj => ?_⟩, fun x hx => pk_un (by omega), fun x _ => rfl⟩
  · rw [tl_pre N hi, r0, if_pos (show nI 0 = 0 from rfl), r1, zl_gd (zl_inN (show l < 300 by omega) (by decide)), r2, zl_cl (show l < 2 ^ 31 by omega)]
  · show upd row l (nI v) (100 * 0 + j) = nI (nup (a 0) l v j)
    rw [show 100 * 0 + j = j by omega]
    by_cases e : j = l
    · rw [e, pk_us, nup_s]
    · rw [pk_un e, nup_n e]
      have := g1 j hj
      rwa [show 100 * 0 + j = j by omega] at this
  · rw [pk_un (by omega)]
    exact g2
  · have hj : j < aSC a := hj
    rw [pk_un (by omega)]
    exact g3 j hj
  · rw [pk_un (by omega)]
    exact g4
  · rw [pk_un (by omega)]
    exact g5
  · have hp : p < aPC a := hp
    rw [pk_un (by omega), pk_un (by omega), pk_un (by omega)]
    exact g6 p hp
  · rw [pk_un (by omega)]
    exact g7
  · have hj : j < aHC a := hj
    rw [pk_un (by omega), pk_un (by omega)]
    exact g8 j hj
theorem syl_s {a : AW} {read : Nat → Int32} {rw_ : Nat → Int64} {i c : Nat} (hok : zOK a) (hi : i < 8) (h10 : aSC a < 10) (r0 : read (5 * i) = nI 1) (r1 : read (5 * i + 1) = nI c) : stp read rw_ i a (aSyl a c) := fun N row words hra => by
  have hpc : aPC a ≤ 16 := hok.2.2.2.2.1
  have hhc : aHC a ≤ 6 := hok.2.2.2.2.2.2.1
  obtain ⟨g1, g2, g3, g4, g5, g6, g7, g8⟩ := hra
  have e26 : row 26 = nI (aSC a) := g2
  refine ⟨upd (upd row (27 + aSC a) (nI c)) 26 (nI (aSC a + 1)), words, ?_, ⟨fun j hj => ?_, ?_, fun j hj => ?_, ?_, ?_, fun p hp => ?_, ?_, fun j hj => ?_⟩, fun x hx => by rw [pk_un (by omega), pk_un (by omega)], fun x _ => rfl⟩
  · rw [tl_pre N hi, r0, if_neg (show ¬ nI 1 = 0 by decide), if_pos (show nI 1 = 1 from rfl), e26, show (27 : Int32) = nI 27 from rfl, nI_add, zl_gd (zl_inN (show 27 + aSC a < 300 by omega) (by decide)), r1, zl_cl (show 27 + aSC a < 2 ^ 31 by omega), pk_un (show (26 : Nat) ≠ 27 + aSC a by omega), e26, nI_1]
  · rw [pk_un (by omega), pk_un (by omega)]
    exact g1 j hj
  · rw [show 100 * 0 + 26 = 26 from rfl, pk_us]
    rfl
  · have hj : j < aSC a + 1 := hj
    show _ = nI (nup (a 2) (aSC a) c j)
    rw [pk_un (show 100 * 0 + 27 + j ≠ 26 by omega)]
    by_cases e : j = aSC a
    · rw [e, nup_s, show 100 * 0 + 27 + aSC a = 27 + aSC a by omega, pk_us]
    · rw [nup_n e, pk_un (by omega)]
      exact g3 j (by omega)
  · rw [pk_un (by omega), pk_un (by omega)]
    exact g4
  · rw [pk_un (by omega), pk_un (by omega)]
    exact g5
  · have hp : p < aPC a := hp
    rw [pk_un (by omega), pk_un (by omega), pk_un (by omega), pk_un (by omega), pk_un (by omega), pk_un (by omega)]
    exact g6 p hp
  · rw [pk_un (by omega), pk_un (by omega)]
    exact g7
  · have hj : j < aHC a := hj
    rw [pk_un (by omega), pk_un (by omega), pk_un (by omega), pk_un (by omega)]
    exact g8 j hj
theorem call_s {a : AW} {read : Nat → Int32} {rw_ : Nat → Int64} {i p w : Nat} (hok : zOK a) (hi : i < 8) (hp : p < aPC a) (r0 : read (5 * i) = nI 4) (r1 : read (5 * i + 1) = nI p) (r2 : rw_ i = lN w) : stp read rw_ i a (aCall a p w) := fun N row words hra => by
  have hpc : aPC a ≤ 16 := hok.2.2.2.2.1
  obtain ⟨g1, g2, g3, g4, g5, g6, g7, g8⟩ := hra
  refine ⟨row, vp_updL words p (lN w), ?_, ⟨g1, g2, g3, g4, g5, fun q hq => ?_, g7, g8⟩, fun x hx => rfl, fun x hx => pk_uLn (by omega)⟩
  · rw [tl_pre N hi, r0, if_neg (show ¬ nI 4 = 0 by decide), if_neg (show ¬ nI 4 = 1 by decide), if_neg (show ¬ nI 4 = 2 by decide), if_neg (show ¬ nI 4 = 3 by decide), if_pos (show nI 4 = 4 from rfl), r1, zl_gd (zl_inN (show p < 48 by omega) (by decide)), r2, zl_cl (show p < 2 ^ 31 by omega)]
  · obtain ⟨h1, h2, h3, h4⟩ := g6 q hq
    refine ⟨h1, h2, h3, ?_⟩
    show vp_updL words p (lN w) (16 * 0 + q) = lN (nup (a 5) p w q)
    rw [show 16 * 0 + q = q by omega] at h4 ⊢
    by_cases e : q = p
    · rw [e, nup_s, pk_uLs]
    · rw [nup_n e, pk_uLn e]
      exact h4
theorem hope_s {a : AW} {read : Nat → Int32} {rw_ : Nat → Int64} {i d t : Nat} (hok : zOK a) (hi : i < 8) (hh : aHC a < 6) (d1 : 1 ≤ d) (d2 : d ≤ 400) (ht10 : t ≤ 10) (r0 : read (5 * i) = nI 5) (r1 : read (5 * i + 1) = nI d) (r2 : read (5 * i + 2) = nI t) : stp read rw_ i a (aHope a d t) := fun N row words hra => by
  have hw : zWA a (fun i => nI (aN a i)) (fun i => lN (aS a i)) (nI (aSC a)) (fun p => nI (aD a p)) (fun p => lN (aW a p)) (fun p => nI (aP a p) - 1) (fun p => nI (aO a p) - 1) (fun p => nI (aK a p)) (nI (aPC a)) (fun i => nI (aHD a i)) (fun i => nI (aHT a i)) (nI (aHC a)) (nI (aDT a)) := ⟨fun _ _ => rfl, rfl, fun _ _ => rfl, rfl, fun _ _ => ⟨rfl, rfl, rfl, rfl, rfl⟩, rfl, fun _ _ => ⟨rfl, rfl⟩, rfl⟩
  obtain ⟨row', _, q2, _, _, q5, q6⟩ := ho_step N hok hw hra hh d1 d2 ht10
  refine ⟨row', words, ?_, q5, q6, fun x _ => rfl⟩
  rw [tl_pre N hi, r0, if_neg (show ¬ nI 5 = 0 by decide), if_neg (show ¬ nI 5 = 1 by decide), if_neg (show ¬ nI 5 = 2 by decide), if_neg (show ¬ nI 5 = 3 by decide), if_neg (show ¬ nI 5 = 4 by decide), if_pos (show nI 5 = 5 from rfl), r1, r2, zl_b1 q2]
theorem deg_s {a : AW} {read : Nat → Int32} {rw_ : Nat → Int64} {i d : Nat} (hok : zOK a) (hi : i < 8) (r0 : read (5 * i) = nI 6) (r1 : read (5 * i + 1) = nI d) : stp read rw_ i a (aDeg a d) := fun N row words hra => by
  have hsc : aSC a ≤ 10 := hok.2.1
  have hpc : aPC a ≤ 16 := hok.2.2.2.2.1
  have hhc : aHC a ≤ 6 := hok.2.2.2.2.2.2.1
  obtain ⟨g1, g2, g3, g4, g5, g6, g7, g8⟩ := hra
  refine ⟨upd row 37 (nI d), words, ?_, ⟨fun j hj => ?_, ?_, fun j hj => ?_, ?_, ?_, fun p hp => ?_, ?_, fun j hj => ?_⟩, fun x hx => pk_un (by omega), fun x _ => rfl⟩
  · rw [tl_pre N hi, r0, if_neg (show ¬ nI 6 = 0 by decide), if_neg (show ¬ nI 6 = 1 by decide), if_neg (show ¬ nI 6 = 2 by decide), if_neg (show ¬ nI 6 = 3 by decide), if_neg (show ¬ nI 6 = 4 by decide), if_neg (show ¬ nI 6 = 5 by decide), if_pos (show nI 6 = 6 from rfl), r1]
  · rw [pk_un (by omega)]
    exact g1 j hj
  · rw [pk_un (by omega)]
    exact g2
  · have hj : j < aSC a := hj
    rw [pk_un (by omega)]
    exact g3 j hj
  · rw [show 100 * 0 + 37 = 37 from rfl, pk_us]
    rfl
  · rw [pk_un (by omega)]
    exact g5
  · have hp : p < aPC a := hp
    rw [pk_un (by omega), pk_un (by omega), pk_un (by omega)]
    exact g6 p hp
  · rw [pk_un (by omega)]
    exact g7
  · have hj : j < aHC a := hj
    rw [pk_un (by omega), pk_un (by omega)]
    exact g8 j hj
theorem forget_s {a : AW} {read : Nat → Int32} {rw_ : Nat → Int64} {i : Nat} (hi : i < 8) (r0 : read (5 * i) = nI 7) : stp read rw_ i a (aForget a) := fun N row words hra => by
  obtain ⟨g1, g2, g3, g4, g5, g6, g7, g8⟩ := hra
  refine ⟨upd (upd (upd row 26 0) 38 0) 87 0, words, ?_, ⟨fun j hj => ?_, ?_, fun j hj => absurd (show j < 0 from hj) (Nat.not_lt_zero _), ?_, ?_, fun p hp => absurd (show p < 0 from hp) (Nat.not_lt_zero _), ?_, fun j hj => absurd (show j < 0 from hj) (Nat.not_lt_zero _)⟩, fun x hx => by rw [pk_un (by omega), pk_un (by omega), pk_un (by omega)], fun x _ => rfl⟩
  · rw [tl_pre N hi, r0, if_neg (show ¬ nI 7 = 0 by decide), if_neg (show ¬ nI 7 = 1 by decide), if_neg (show ¬ nI 7 = 2 by decide), if_neg (show ¬ nI 7 = 3 by decide), if_neg (show ¬ nI 7 = 4 by decide), if_neg (show ¬ nI 7 = 5 by decide), if_neg (show ¬ nI 7 = 6 by decide)]
  · rw [pk_un (by omega), pk_un (by omega), pk_un (by omega)]
    exact g1 j hj
  · rw [pk_un (by omega), pk_un (by omega), show 100 * 0 + 26 = 26 from rfl, pk_us]
    rfl
  · rw [pk_un (by omega), pk_un (by omega), pk_un (by omega)]
    exact g4
  · rw [pk_un (by omega), show 100 * 0 + 38 = 38 from rfl, pk_us]
    rfl
  · rw [show 100 * 0 + 87 = 87 from rfl, pk_us]
    rfl
theorem bear_ra (N : Nat) {a : AW} {row : Nat → Int32} {words : Nat → Int64} (hok : zOK a) (hra : zRA a row words 0) (hh : aPC a < 16) (x y d w : Nat) : ∃ row' words', f_X7_bear N row words (nI x - 1) (nI y - 1) (nI d) (lN w) = some (row', words') ∧ zRA (aBear a x y d w) row' words' 0 ∧ (∀ z, 100 ≤ z → row' z = row z) ∧ ∀ z, 16 ≤ z → words' z = words z := by
  have hsc : aSC a ≤ 10 := hok.2.1
  have hhc : aHC a ≤ 6 := hok.2.2.2.2.2.2.1
  obtain ⟨g1, g2, g3, g4, g5, g6, g7, g8⟩ := hra
  have e38 : row 38 = nI (aPC a) := g5
  refine ⟨upd (upd (upd (upd row (39 + aPC a) (nI d)) (55 + aPC a) (nI x - 1)) (71 + aPC a) (nI y - 1)) 38 (nI (aPC a + 1)), vp_updL words (aPC a) (lN w), ?_, ⟨fun j hj => ?_, ?_, fun j hj => ?_, ?_, ?_, fun p hp => ?_, ?_, fun j hj => ?_⟩, fun z hz => by rw [pk_un (by omega), pk_un (by omega), pk_un (by omega), pk_un (by omega)], fun z hz => pk_uLn (by omega)⟩
  · unfold f_X7_bear
    simp only [zl_let]
    rw [show (38 : Int32).toNatClampNeg = 38 from rfl, e38, show (39 : Int32) = nI 39 from rfl, show (55 : Int32) = nI 55 from rfl, show (71 : Int32) = nI 71 from rfl, nI_add, nI_add, nI_add, zl_gd (zl_inN (show 39 + aPC a < 300 by omega) (by decide)), zl_gd (zl_inN (show 55 + aPC a < 300 by omega) (by decide)), zl_gd (zl_inN (show 71 + aPC a < 300 by omega) (by decide)), zl_gd (zl_inN (show aPC a < 48 by omega) (by decide)), zl_cl (show 39 + aPC a < 2 ^ 31 by omega), zl_cl (show 55 + aPC a < 2 ^ 31 by omega), zl_cl (show 71 + aPC a < 2 ^ 31 by omega), zl_cl (show aPC a < 2 ^ 31 by omega), pk_un (show (38 : Nat) ≠ 71 + aPC a by omega), pk_un (show (38 : Nat) ≠ 55 + aPC a by omega), pk_un (show (38 : Nat) ≠ 39 + aPC a by omega), e38, nI_1]
  · rw [pk_un (by omega), pk_un (by omega), pk_un (by omega), pk_un (by omega)]
    exact g1 j hj
  · rw [pk_un (by omega), pk_un (by omega), pk_un (by omega), pk_un (by omega)]
    exact g2
  · have hj : j < aSC a := hj
    rw [pk_un (by omega), pk_un (by omega), pk_un (by omega), pk_un (by omega)]
    exact g3 j hj
  · rw [pk_un (by omega), pk_un (by omega), pk_un (by omega), pk_un (by omega)]
    exact g4
  · rw [show 100 * 0 + 38 = 38 from rfl, pk_us]
    rfl
  · have hp : p < aPC a + 1 := hp
    show _ = nI (nup (a 4) (aPC a) d p) ∧ _ = nI (nup (a 6) (aPC a) x p) - 1 ∧ _ = nI (nup (a 7) (aPC a) y p) - 1 ∧ _ = lN (nup (a 5) (aPC a) w p)
    have f1 : ∀ z, z ≠ 38 → upd (upd (upd (upd row (39 + aPC a) (nI d)) (55 + aPC a) (nI x - 1)) (71 + aPC a) (nI y - 1)) 38 (nI (aPC a + 1)) z = upd (upd (upd row (39 + aPC a) (nI d)) (55 + aPC a) (nI x - 1)) (71 + aPC a) (nI y - 1) z := fun z hz => pk_un hz
    rw [f1 _ (by omega), f1 _ (by omega), f1 _ (by omega)]
    by_cases e : p = aPC a
    · rw [e, nup_s, nup_s, nup_s, nup_s, show 100 * 0 + 39 + aPC a = 39 + aPC a by omega, show 100 * 0 + 55 + aPC a = 55 + aPC a by omega, show 100 * 0 + 71 + aPC a = 71 + aPC a by omega, show 16 * 0 + aPC a = aPC a by omega, pk_uLs]
      refine ⟨?_, ?_, ?_, rfl⟩
      · rw [pk_un (by omega), pk_un (by omega), pk_us]
      · rw [pk_un (by omega), pk_us]
      · rw [pk_us]
    · rw [nup_n e, nup_n e, nup_n e, nup_n e]
      obtain ⟨h1, h2, h3, h4⟩ := g6 p (by omega)
      refine ⟨?_, ?_, ?_, ?_⟩
      · rw [pk_un (by omega), pk_un (by omega), pk_un (by omega)]
        exact h1
      · rw [pk_un (by omega), pk_un (by omega), pk_un (by omega)]
        exact h2
      · rw [pk_un (by omega), pk_un (by omega), pk_un (by omega)]
        exact h3
      · rw [pk_uLn (by omega)]
        exact h4
  · rw [pk_un (by omega), pk_un (by omega), pk_un (by omega), pk_un (by omega)]
    exact g7
  · have hj : j < aHC a := hj
    have f1 : ∀ z, 87 < z → upd (upd (upd (upd row (39 + aPC a) (nI d)) (55 + aPC a) (nI x - 1)) (71 + aPC a) (nI y - 1)) 38 (nI (aPC a + 1)) z = row z := fun z hz => by
      rw [pk_un (by omega), pk_un (by omega), pk_un (by omega), pk_un (by omega)]
    rw [f1 _ (by omega), f1 _ (by omega)]
    exact g8 j hj
theorem first_s {a : AW} {read : Nat → Int32} {rw_ : Nat → Int64} {i d w : Nat} (hok : zOK a) (hi : i < 8) (hh : aPC a < 16) (r0 : read (5 * i) = nI 2) (r1 : read (5 * i + 1) = nI d) (r2 : rw_ i = lN w) : stp read rw_ i a (aBear a 0 0 d w) := fun N row words hra => by
  obtain ⟨row', words', q1, q2⟩ := bear_ra N hok hra hh 0 0 d w
  refine ⟨row', words', ?_, q2⟩
  rw [tl_pre N hi, r0, if_neg (show ¬ nI 2 = 0 by decide), if_neg (show ¬ nI 2 = 1 by decide), if_pos (show nI 2 = 2 from rfl), r1, r2, zl_b2 (show f_X7_bear N row words (-1) (-1) (nI d) (lN w) = some (row', words') from q1)]
theorem child_s {a : AW} {read : Nat → Int32} {rw_ : Nat → Int64} {i x y d w : Nat} (hok : zOK a) (hi : i < 8) (hh : aPC a < 16) (r0 : read (5 * i) = nI 3) (r1 : read (5 * i + 1) = nI x) (r2 : read (5 * i + 2) = nI y) (r3 : read (5 * i + 3) = nI d) (r4 : rw_ i = lN w) : stp read rw_ i a (aBear a (x + 1) (y + 1) d w) := fun N row words hra => by
  obtain ⟨row', words', q1, q2⟩ := bear_ra N hok hra hh (x + 1) (y + 1) d w
  rw [nI_pred, nI_pred] at q1
  refine ⟨row', words', ?_, q2⟩
  rw [tl_pre N hi, r0, if_neg (show ¬ nI 3 = 0 by decide), if_neg (show ¬ nI 3 = 1 by decide), if_neg (show ¬ nI 3 = 2 by decide), if_pos (show nI 3 = 3 from rfl), r1, r2, r3, r4, zl_b2 q1]
