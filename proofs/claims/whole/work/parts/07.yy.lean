/-! ===== a line, both programs ===== -/
def LnF (x : Option (Int32 × Int32 × Int32 × Int32 × Int32 × Int64 × Int32 × Int32 × (Nat → Int32) × (Nat → Int64) × (Int32) × (Nat → Int32) × (Nat → Int64) × (Nat → Int32) × (Nat → Int32) × (Nat → Int32) × (Int32) × (Nat → Int32) × (Nat → Int32) × (Int32) × (Int32))) (y : Option (Int32 × (Nat → Int32) × (Nat → Int64) × Int32 × Int32 × Int32 × Int32 × Int32 × Int32 × Int32 × (Nat → Int32))) : Prop := ∃ (p' t' : Int32) (bf : Nat) (y' : Int32) (v' : Int64) (g1 g2 : Int32) (d1 : Nat → Int32) (d2 : Nat → Int64) (d3 : Int32) (d4 : Nat → Int32) (d5 : Nat → Int64) (d6 : Nat → Int32) (d7 : Nat → Int32) (d8 : Nat → Int32) (d9 : Int32) (d10 : Nat → Int32) (d11 : Nat → Int32) (d12 : Int32) (d13 : Int32) (read' : Nat → Int32) (rw' : Nat → Int64) (mm at' en' pp hh ss : Int32) (syl' : Nat → Int32), bf < 1000 ∧ x = some (0, p', t', nI bf, y', v', g1, g2, d1, d2, d3, d4, d5, d6, d7, d8, d9, d10, d11, d12, d13) ∧ y = some (0, read', rw', mm, at', nI bf, en', pp, hh, ss, syl')
def LnS (N : Nat) (text textM : Nat → Int32) (B : Nat → Nat) (n m : Nat) (a : AW) (read : Nat → Int32) (rw_ : Nat → Int64) (x : Option (Int32 × Int32 × Int32 × Int32 × Int32 × Int64 × Int32 × Int32 × (Nat → Int32) × (Nat → Int64) × (Int32) × (Nat → Int32) × (Nat → Int64) × (Nat → Int32) × (Nat → Int32) × (Nat → Int32) × (Int32) × (Nat → Int32) × (Nat → Int32) × (Int32) × (Int32))) (y : Option (Int32 × (Nat → Int32) × (Nat → Int64) × Int32 × Int32 × Int32 × Int32 × Int32 × Int32 × Int32 × (Nat → Int32))) : Prop := ∃ (a' : AW) (pe : Nat) (t' bg y' : Int32) (v' : Int64) (g1 g2 : Int32) (d1 : Nat → Int32) (d2 : Nat → Int64) (d3 : Int32) (d4 : Nat → Int32) (d5 : Nat → Int64) (d6 : Nat → Int32) (d7 : Nat → Int32) (d8 : Nat → Int32) (d9 : Int32) (d10 : Nat → Int32) (d11 : Nat → Int32) (d12 : Int32) (d13 : Int32) (read' : Nat → Int32) (rw' : Nat → Int64) (b' e' k' : Nat) (V' : Int64) (syl' : Nat → Int32), x = some (1, nI pe, t', bg, y', v', g1, g2, d1, d2, d3, d4, d5, d6, d7, d8, d9, d10, d11, d12, d13) ∧ y = some (1, read', rw', nI (m + 1), nI e', nI b', nI e', nI (aPC a'), nI (aHC a'), nI (aSC a'), syl') ∧ zOK a' ∧ zWA a' d1 d2 d3 d4 d5 d6 d7 d8 d9 d10 d11 d12 d13 ∧ TP N text textM B n pe b' e' k' V' ∧ (∀ i, i < aSC a' → syl' i = nI (aS a' i)) ∧ stp read' rw' m a a' ∧ (∀ i, i < 5 * m → read' i = read i) ∧ (∀ i, i < m → rw' i = rw_ i)
section
variable {N : Nat} {text textM : Nat → Int32} {B : Nat → Nat} {n p b e k : Nat} {V : Int64}
variable {a : AW} {n1 : Nat → Int32} {n2 : Nat → Int64} {n3 : Int32} {n4 : Nat → Int32} {n5 : Nat → Int64} {n6 n7 n8 : Nat → Int32} {n9 : Int32} {n10 n11 : Nat → Int32} {n12 n13 : Int32}
theorem ln_line (hN : 100000 ≤ N) (ht : TX text textM B n) (h : TP N text textM B n p b e k V) (hok : zOK a) (hw : zWA a n1 n2 n3 n4 n5 n6 n7 n8 n9 n10 n11 n12 n13) (z1 z2 : Int32) (read : Nat → Int32) (rw_ : Nat → Int64) {m : Nat} (hm : m < 8) {syl : Nat → Int32} (hs7 : ∀ i, i < aSC a → syl i = nI (aS a i)) : LnF (f_X3_readLine N text (nI n) (nI p) z1 z2 n1 n2 n3 n4 n5 n6 n7 n8 n9 n10 n11 n12 n13) (f_X7_readsLine N textM (nI n) read rw_ (nI m) (nI e) (nI b) (nI e) (nI (aPC a)) (nI (aHC a)) (nI (aSC a)) syl) ∨ LnS N text textM B n m a read rw_ (f_X3_readLine N text (nI n) (nI p) z1 z2 n1 n2 n3 n4 n5 n6 n7 n8 n9 n10 n11 n12 n13) (f_X7_readsLine N textM (nI n) read rw_ (nI m) (nI e) (nI b) (nI e) (nI (aPC a)) (nI (aHC a)) (nI (aSC a)) syl) := by
  obtain ⟨l1, l2, l3, l4⟩ := Tok_le h.1
  have hn := ht.1.1
  have h10 : aSC a ≤ 10 := hok.2.1
  have h16 : aPC a ≤ 16 := hok.2.2.2.2.1
  have h6 : aHC a ≤ 6 := hok.2.2.2.2.2.2.1
  have hw0 := hw
  obtain ⟨w1, w2, w3, w4, w5, w6, w7, w8⟩ := hw
  subst w2 w4 w6
  obtain ⟨b1, e1, k1, V1, h1⟩ := TP_at N hN ht l3
  have q7 := h1.2.2.2.2.2
  have uS : ∀ (r : Nat → Int32) (v : Int32) (j : Nat), upd r j v j = v := fun r v j => pk_us
  have uN : ∀ (r : Nat → Int32) (v : Int32) (j i : Nat), i ≠ j → upd r j v i = r i := fun r v j i q => pk_un q
  have uLS : ∀ (r : Nat → Int64) (v : Int64) (j : Nat), vp_updL r j v j = v := fun r v j => pk_uLs
  have uLN : ∀ (r : Nat → Int64) (v : Int64) (j i : Nat), i ≠ j → vp_updL r j v i = r i := fun r v j i q => pk_uLn q
  obtain ⟨w, hw8, hk, s0, s1, hwd⟩ := kw_of hN ht h.1
  by_cases c8 : w = 8
  · subst c8
    rw [if_neg (by decide)] at hwd
    refine Or.inl ?_
    rw [rl7_a hwd]
    unfold f_X3_readLine
    rw [zl_b5 h.2.1]
    by_cases ck : k = 1
    · rw [if_pos (show nI k = (1 : Int32) by rw [ck]; rfl), zl_b1 (s0 0 (by decide)), if_pos rfl, zl_b1 (s0 1 (by decide)), if_pos rfl, zl_b1 (s0 2 (by decide)), if_pos rfl, zl_b1 (s0 3 (by decide)), if_pos rfl, zl_b1 (s0 4 (by decide)), if_pos rfl, zl_b1 (s0 5 (by decide)), if_pos rfl, zl_b1 (s0 6 (by decide)), if_pos rfl, zl_b1 (s0 7 (by decide)), if_pos rfl]
      exact ⟨_, _, b, _, _, _, _, _, _, _, _, _, _, _, _, _, _, _, _, _, _, _, _, _, _, _, _, _, _, tp_bd ht h, rfl, rfl⟩
    · rw [if_neg (show ¬ nI k = (1 : Int32) from fun q => ck ((nI_eq (b := 1) (by omega) (by decide)).mp q))]
      exact ⟨_, _, b, _, _, _, _, _, _, _, _, _, _, _, _, _, _, _, _, _, _, _, _, _, _, _, _, _, _, tp_bd ht h, rfl, rfl⟩
  have ck : nI k = (1 : Int32) := by
    rw [hk (by omega)]
    rfl
  rw [if_pos (show w < 8 by omega)] at hwd
  have s1 := s1 (by omega)
  rcases (show w = 0 ∨ w = 1 ∨ w = 2 ∨ w = 3 ∨ w = 4 ∨ w = 5 ∨ w = 6 ∨ w = 7 by omega) with rfl | rfl | rfl | rfl | rfl | rfl | rfl | rfl
  · have R := ln_let hN ht h1 n1 (upd read (5 * m) 0) rw_ hm (nI (aPC a)) (nI (aSC a)) syl
    unfold f_X3_readLine
    rw [zl_b5 h.2.1, if_pos ck, zl_b1 s1, if_neg (show ¬ (1 : Int32) = 0 by decide)]
    rcases R with ⟨p', t', bf, y', v', read', at', en', hbf, r1, r2⟩ | ⟨l, v, pe, t', bg, y', v', b', e', k', V', hl, hv, r1, hq, r2⟩
    · rw [zl_b7 r1, rl7 (P := nI (aPC a)) (H := nI (aHC a)) hm (show f_X7_wordOf N textM (nI b) (nI e) = some (0 : Int32) from hwd) (by decide) (fun q => absurd q (by decide)) (fun q => absurd q (by decide)) q7 r2, if_pos rfl]
      exact Or.inl ⟨_, _, bf, _, _, _, _, _, _, _, _, _, _, _, _, _, _, _, _, _, _, _, _, _, _, _, _, _, _, hbf, rfl, rfl⟩
    · rw [zl_b7 r1, rl7 (P := nI (aPC a)) (H := nI (aHC a)) hm (show f_X7_wordOf N textM (nI b) (nI e) = some (0 : Int32) from hwd) (by decide) (fun q => absurd q (by decide)) (fun q => absurd q (by decide)) q7 r2, if_neg (by decide)]
      have W := let_w hok hw0 (l := l) hv
      refine Or.inr ⟨aLet a l v, pe, _, _, _, _, _, _, _, _, _, _, _, _, _, _, _, _, _, _, _, upd (upd (upd read (5 * m) 0) (5 * m + 1) (nI l)) (5 * m + 2) (nI v), rw_, b', e', k', V', syl, rfl, ?_, W.1, W.2, hq, hs7, let_s hok hm hl ?_ ?_ ?_, fun i hi => ?_, fun i hi => rfl⟩
      · rw [if_neg (by decide), if_neg (by decide), if_neg (by decide), if_neg (by decide), if_neg (by decide), Int32.add_zero, Int32.add_zero]
        rfl
      · rw [uN _ _ _ _ (by omega), uN _ _ _ _ (by omega), uS]
        rfl
      · rw [uN _ _ _ _ (by omega), uS]
      · rw [uS]
      · rw [uN _ _ _ _ (by omega), uN _ _ _ _ (by omega), uN _ _ _ _ (by omega)]
  · have R := ln_syl hN ht h1 hok w3 (upd read (5 * m) 1) rw_ hm (nI (aPC a)) hs7
    unfold f_X3_readLine
    rw [zl_b5 h.2.1, if_pos ck, zl_b1 (s0 0 (by decide)), if_pos rfl, zl_b1 s1, if_neg (show ¬ (1 : Int32) = 0 by decide)]
    rcases R with ⟨r1, r2⟩ | ⟨c, r1, r3, r2⟩ | ⟨c, b', e', k', V', hc, hns, hl, r1, r3, hq, r2⟩
    · rw [zl_b6 r1, if_pos rfl, rl7 (P := nI (aPC a)) (H := nI (aHC a)) hm (show f_X7_wordOf N textM (nI b) (nI e) = some (1 : Int32) from hwd) (by decide) (fun q => absurd q (by decide)) (fun q => absurd q (by decide)) q7 r2, if_pos rfl]
      exact Or.inl ⟨_, _, b1, _, _, _, _, _, _, _, _, _, _, _, _, _, _, _, _, _, _, _, _, _, _, _, _, _, _, tp_bd ht h1, rfl, rfl⟩
    · rw [zl_b6 r1, if_neg (by decide), zl_b3 r3, if_pos rfl, rl7 (P := nI (aPC a)) (H := nI (aHC a)) hm (show f_X7_wordOf N textM (nI b) (nI e) = some (1 : Int32) from hwd) (by decide) (fun q => absurd q (by decide)) (fun q => absurd q (by decide)) q7 r2, if_pos rfl]
      exact Or.inl ⟨_, _, b1, _, _, _, _, _, _, _, _, _, _, _, _, _, _, _, _, _, _, _, _, _, _, _, _, _, _, tp_bd ht h1, rfl, rfl⟩
    · rw [zl_b6 r1, if_neg (by decide), zl_b3 r3, if_neg (by decide), rl7 (P := nI (aPC a)) (H := nI (aHC a)) hm (show f_X7_wordOf N textM (nI b) (nI e) = some (1 : Int32) from hwd) (by decide) (fun q => absurd q (by decide)) (fun q => absurd q (by decide)) q7 r2, if_neg (by decide)]
      have W := syl_w hok hw0 hc hns hl
      refine Or.inr ⟨aSyl a c, e1, _, _, _, _, _, _, _, _, _, _, _, _, _, _, _, _, _, _, _, upd (upd read (5 * m) 1) (5 * m + 1) (nI c), rw_, b', e', k', V', upd syl (aSC a) (nI c), rfl, ?_, W.1, W.2, hq, fun i hi => ?_, syl_s hok hm hl ?_ ?_, fun i hi => ?_, fun i hi => rfl⟩
      · rw [if_neg (by decide), if_neg (by decide), if_neg (by decide), if_neg (by decide), if_neg (by decide), Int32.add_zero, Int32.add_zero]
        rfl
      · have hi : i < aSC a + 1 := hi
        show upd syl (aSC a) (nI c) i = nI (nup (a 2) (aSC a) c i)
        by_cases ei : i = aSC a
        · rw [ei, uS, nup_s]
        · rw [uN _ _ _ _ ei, nup_n ei]
          exact hs7 i (by omega)
      · rw [uN _ _ _ _ (by omega), uS]
        rfl
      · rw [uS]
      · rw [uN _ _ _ _ (by omega), uN _ _ _ _ (by omega)]
  · by_cases c16 : aPC a = 16
    · refine Or.inl ?_
      rw [c16, show nI 16 = (16 : Int32) from rfl, rl7_b hwd (Or.inl rfl)]
      unfold f_X3_readLine
      rw [zl_b5 h.2.1, if_pos ck, zl_b1 (s0 0 (by decide)), if_pos rfl, zl_b1 (s0 1 (by decide)), if_pos rfl, zl_b1 s1, if_neg (show ¬ (1 : Int32) = 0 by decide), if_pos (show (16 : Int32) ≤ 16 by decide)]
      exact ⟨_, _, b, _, _, _, _, _, _, _, _, _, _, _, _, _, _, _, _, _, _, _, _, _, _, _, _, _, _, tp_bd ht h, rfl, rfl⟩
    have n16 : nI (aPC a) ≠ 16 := fun q => c16 ((nI_eq (b := 16) (by omega) (by decide)).mp q)
    have R := ln_bir hN ht h1 hok hw0 (by omega) (x := 0) (y := 0) (by decide) (by decide) (upd read (5 * m) 2) rw_ hm (s := 0) (by decide) (nI (aSC a)) syl
    unfold f_X3_readLine
    rw [zl_b5 h.2.1, if_pos ck, zl_b1 (s0 0 (by decide)), if_pos rfl, zl_b1 (s0 1 (by decide)), if_pos rfl, zl_b1 s1, if_neg (show ¬ (1 : Int32) = 0 by decide), if_neg (show ¬ (16 : Int32) ≤ nI (aPC a) from nI_ge (b := 16) (by omega) (by decide)), zl_b3 (show f_X3_readNoParents N = some (1, nI 0 - 1, nI 0 - 1) from rfl), if_neg (show ¬ (1 : Int32) = 0 by decide)]
    rcases R with ⟨p', t', bf, y', v', read', rw', at', en', hbf, r1, r2⟩ | ⟨d, w, pe, t', bg, y', v', b', e', k', V', hd1, hd4, hw9, r1, hq, r2⟩
    · rw [zl_b12 r1, if_pos rfl, rl7 (P := nI (aPC a)) (H := nI (aHC a)) hm (show f_X7_wordOf N textM (nI b) (nI e) = some (2 : Int32) from hwd) (by decide) (fun _ => n16) (fun q => absurd q (by decide)) q7 (show f_X7_readsRest N textM (nI n) (upd read (5 * m) 2) rw_ (nI m) (nI e1) (nI b1) (nI e1) (nI (aPC a)) (nI (aSC a)) syl 2 = _ from r2), if_pos rfl]
      exact Or.inl ⟨_, _, bf, _, _, _, _, _, _, _, _, _, _, _, _, _, _, _, _, _, _, _, _, _, _, _, _, _, _, hbf, rfl, rfl⟩
    · rw [zl_b12 r1, if_neg (by decide), rl7 (P := nI (aPC a)) (H := nI (aHC a)) hm (show f_X7_wordOf N textM (nI b) (nI e) = some (2 : Int32) from hwd) (by decide) (fun _ => n16) (fun q => absurd q (by decide)) q7 (show f_X7_readsRest N textM (nI n) (upd read (5 * m) 2) rw_ (nI m) (nI e1) (nI b1) (nI e1) (nI (aPC a)) (nI (aSC a)) syl 2 = _ from r2), if_neg (by decide)]
      have W := bear_w hok hw0 (by omega) (x := 0) (y := 0) (Or.inl ⟨rfl, rfl⟩) hd1 hd4 hw9
      refine Or.inr ⟨aBear a 0 0 d w, pe, _, _, _, _, _, _, _, _, _, _, _, _, _, _, _, _, _, _, _, upd (upd read (5 * m) 2) (5 * m + 1 + 0) (nI d), vp_updL rw_ m (lN w), b', e', k', V', syl, rfl, ?_, W.1, W.2, hq, hs7, first_s hok hm (by omega) ?_ ?_ ?_, fun i hi => ?_, fun i hi => ?_⟩
      · rw [if_neg (show ¬ (2 : Int32) = 7 by decide), if_neg (show ¬ (2 : Int32) = 7 by decide), if_neg (show ¬ (2 : Int32) = 7 by decide), if_pos (show (2 : Int32) = 2 ∨ (2 : Int32) = 3 by decide), if_neg (show ¬ (2 : Int32) = 5 by decide), Int32.add_zero, nI_1]
        rfl
      · rw [uN _ _ _ _ (by omega), uS]
        rfl
      · rw [Nat.add_zero, uS]
      · rw [uLS]
      · rw [uN _ _ _ _ (by omega), uN _ _ _ _ (by omega)]
      · rw [uLN _ _ _ _ (by omega)]
  · by_cases c16 : aPC a = 16
    · refine Or.inl ?_
      rw [c16, show nI 16 = (16 : Int32) from rfl, rl7_b hwd (Or.inr rfl)]
      unfold f_X3_readLine
      rw [zl_b5 h.2.1, if_pos ck, zl_b1 (s0 0 (by decide)), if_pos rfl, zl_b1 (s0 1 (by decide)), if_pos rfl, zl_b1 (s0 2 (by decide)), if_pos rfl, zl_b1 s1, if_neg (show ¬ (1 : Int32) = 0 by decide), if_pos (show (16 : Int32) ≤ 16 by decide)]
      exact ⟨_, _, b, _, _, _, _, _, _, _, _, _, _, _, _, _, _, _, _, _, _, _, _, _, _, _, _, _, _, tp_bd ht h, rfl, rfl⟩
    have n16 : nI (aPC a) ≠ 16 := fun q => c16 ((nI_eq (b := 16) (by omega) (by decide)).mp q)
    have R := ln_par hN ht h1 h16 z1 z2 (upd read (5 * m) 3) rw_ hm (nI (aSC a)) syl
    unfold f_X3_readLine
    rw [zl_b5 h.2.1, if_pos ck, zl_b1 (s0 0 (by decide)), if_pos rfl, zl_b1 (s0 1 (by decide)), if_pos rfl, zl_b1 (s0 2 (by decide)), if_pos rfl, zl_b1 s1, if_neg (show ¬ (1 : Int32) = 0 by decide), if_neg (show ¬ (16 : Int32) ≤ nI (aPC a) from nI_ge (b := 16) (by omega) (by decide))]
    rcases R with ⟨p', t', bf, y', v', g1, g2, read', rw', at', en', hbf, r1, r2⟩ | ⟨x, y, pp, t', bg, y', v', b2, e2, k2, V2, hx, hy, hxy, r1, h2, r2⟩
    · rw [zl_b8 r1, if_pos rfl, rl7 (P := nI (aPC a)) (H := nI (aHC a)) hm (show f_X7_wordOf N textM (nI b) (nI e) = some (3 : Int32) from hwd) (by decide) (fun _ => n16) (fun q => absurd q (by decide)) q7 r2, if_pos rfl]
      exact Or.inl ⟨_, _, bf, _, _, _, _, _, _, _, _, _, _, _, _, _, _, _, _, _, _, _, _, _, _, _, _, _, _, hbf, rfl, rfl⟩
    · have x1 : nI x = nI (x + 1) - 1 := (show nI (x + 1) - 1 = nI (x + 1 - 1) from pk_sub (show 1 ≤ x + 1 by omega)).symm
      have y1 : nI y = nI (y + 1) - 1 := (show nI (y + 1) - 1 = nI (y + 1 - 1) from pk_sub (show 1 ≤ y + 1 by omega)).symm
      rw [zl_b8 r1, if_neg (show ¬ (1 : Int32) = 0 by decide)]
      have R := ln_bir hN ht h2 hok hw0 (by omega) (x := x + 1) (y := y + 1) (by omega) (by omega) (upd (upd (upd read (5 * m) 3) (5 * m + 1) (nI x)) (5 * m + 2) (nI y)) rw_ hm (s := 2) (by decide) (nI (aSC a)) syl
      rw [← x1, ← y1] at R
      rcases R with ⟨p', t', bf, y', v', read', rw', at', en', hbf, r3, r4⟩ | ⟨d, w, pe, t', bg, y', v', b', e', k', V', hd1, hd4, hw9, r3, hq, r4⟩
      · rw [zl_b12 r3, if_pos rfl, rl7 (P := nI (aPC a)) (H := nI (aHC a)) hm (show f_X7_wordOf N textM (nI b) (nI e) = some (3 : Int32) from hwd) (by decide) (fun _ => n16) (fun q => absurd q (by decide)) q7 (r2.trans r4), if_pos rfl]
        exact Or.inl ⟨_, _, bf, _, _, _, _, _, _, _, _, _, _, _, _, _, _, _, _, _, _, _, _, _, _, _, _, _, _, hbf, rfl, rfl⟩
      · rw [zl_b12 r3, if_neg (by decide), rl7 (P := nI (aPC a)) (H := nI (aHC a)) hm (show f_X7_wordOf N textM (nI b) (nI e) = some (3 : Int32) from hwd) (by decide) (fun _ => n16) (fun q => absurd q (by decide)) q7 (r2.trans r4), if_neg (by decide)]
        have W := bear_w hok hw0 (by omega) (x := x + 1) (y := y + 1) (Or.inr ⟨by omega, by omega, by omega, by omega, by omega⟩) hd1 hd4 hw9
        rw [← x1, ← y1] at W
        refine Or.inr ⟨aBear a (x + 1) (y + 1) d w, pe, _, _, _, _, _, _, _, _, _, _, _, _, _, _, _, _, _, _, _, upd (upd (upd (upd read (5 * m) 3) (5 * m + 1) (nI x)) (5 * m + 2) (nI y)) (5 * m + 1 + 2) (nI d), vp_updL rw_ m (lN w), b', e', k', V', syl, rfl, ?_, W.1, W.2, hq, hs7, child_s hok hm (by omega) ?_ ?_ ?_ ?_ ?_, fun i hi => ?_, fun i hi => ?_⟩
        · rw [if_neg (show ¬ (3 : Int32) = 7 by decide), if_neg (show ¬ (3 : Int32) = 7 by decide), if_neg (show ¬ (3 : Int32) = 7 by decide), if_pos (show (3 : Int32) = 2 ∨ (3 : Int32) = 3 by decide), if_neg (show ¬ (3 : Int32) = 5 by decide), Int32.add_zero, nI_1]
          rfl
        · rw [uN _ _ _ _ (by omega), uN _ _ _ _ (by omega), uN _ _ _ _ (by omega), uS]
          rfl
        · rw [uN _ _ _ _ (by omega), uN _ _ _ _ (by omega), uS]
        · rw [uN _ _ _ _ (by omega), uS]
        · rw [show 5 * m + 1 + 2 = 5 * m + 3 from rfl, uS]
        · rw [uLS]
        · rw [uN _ _ _ _ (by omega), uN _ _ _ _ (by omega), uN _ _ _ _ (by omega), uN _ _ _ _ (by omega)]
        · rw [uLN _ _ _ _ (by omega)]
  · have R := ln_call hN ht h1 h16 n5 (upd read (5 * m) 4) rw_ hm (nI (aSC a)) syl
    unfold f_X3_readLine
    rw [zl_b5 h.2.1, if_pos ck, zl_b1 (s0 0 (by decide)), if_pos rfl, zl_b1 (s0 1 (by decide)), if_pos rfl, zl_b1 (s0 2 (by decide)), if_pos rfl, zl_b1 (s0 3 (by decide)), if_pos rfl, zl_b1 s1, if_neg (show ¬ (1 : Int32) = 0 by decide)]
    rcases R with ⟨p', t', bf, y', v', read', rw', at', en', hbf, r1, r2⟩ | ⟨x, w, pe, t', bg, y', v', b', e', k', V', hx, hw9, r1, hq, r2⟩
    · rw [zl_b7 r1, rl7 (P := nI (aPC a)) (H := nI (aHC a)) hm (show f_X7_wordOf N textM (nI b) (nI e) = some (4 : Int32) from hwd) (by decide) (fun q => absurd q (by decide)) (fun q => absurd q (by decide)) q7 r2, if_pos rfl]
      exact Or.inl ⟨_, _, bf, _, _, _, _, _, _, _, _, _, _, _, _, _, _, _, _, _, _, _, _, _, _, _, _, _, _, hbf, rfl, rfl⟩
    · rw [zl_b7 r1, rl7 (P := nI (aPC a)) (H := nI (aHC a)) hm (show f_X7_wordOf N textM (nI b) (nI e) = some (4 : Int32) from hwd) (by decide) (fun q => absurd q (by decide)) (fun q => absurd q (by decide)) q7 r2, if_neg (by decide)]
      have W := call_w hok hw0 (p := x) hw9
      refine Or.inr ⟨aCall a x w, pe, _, _, _, _, _, _, _, _, _, _, _, _, _, _, _, _, _, _, _, upd (upd read (5 * m) 4) (5 * m + 1) (nI x), vp_updL rw_ m (lN w), b', e', k', V', syl, rfl, ?_, W.1, W.2, hq, hs7, call_s hok hm hx ?_ ?_ ?_, fun i hi => ?_, fun i hi => ?_⟩
      · rw [if_neg (by decide), if_neg (by decide), if_neg (by decide), if_neg (by decide), if_neg (by decide), Int32.add_zero, Int32.add_zero]
        rfl
      · rw [uN _ _ _ _ (by omega), uS]
        rfl
      · rw [uS]
      · rw [uLS]
      · rw [uN _ _ _ _ (by omega), uN _ _ _ _ (by omega)]
      · rw [uLN _ _ _ _ (by omega)]
  · by_cases c6 : aHC a = 6
    · refine Or.inl ?_
      rw [c6, show nI 6 = (6 : Int32) from rfl, rl7_c hwd]
      unfold f_X3_readLine f_X3_readHope
      rw [zl_b5 h.2.1, if_pos ck, zl_b1 (s0 0 (by decide)), if_pos rfl, zl_b1 (s0 1 (by decide)), if_pos rfl, zl_b1 (s0 2 (by decide)), if_pos rfl, zl_b1 (s0 3 (by decide)), if_pos rfl, zl_b1 (s0 4 (by decide)), if_pos rfl, zl_b1 s1, if_neg (show ¬ (1 : Int32) = 0 by decide), if_pos (show (6 : Int32) ≤ 6 by decide), zl_b9 rfl]
      exact ⟨_, _, b, _, _, _, _, _, _, _, _, _, _, _, _, _, _, _, _, _, _, _, _, _, _, _, _, _, _, tp_bd ht h, rfl, rfl⟩
    have n6' : nI (aHC a) ≠ 6 := fun q => c6 ((nI_eq (b := 6) (by omega) (by decide)).mp q)
    have R := ln_hope hN ht h1 (show aHC a < 6 by omega) n10 n11 (nI k) (nI b) (nI (e - b)) V (upd read (5 * m) 5) rw_ hm (nI (aPC a)) (nI (aSC a)) syl
    unfold f_X3_readLine
    rw [zl_b5 h.2.1, if_pos ck, zl_b1 (s0 0 (by decide)), if_pos rfl, zl_b1 (s0 1 (by decide)), if_pos rfl, zl_b1 (s0 2 (by decide)), if_pos rfl, zl_b1 (s0 3 (by decide)), if_pos rfl, zl_b1 (s0 4 (by decide)), if_pos rfl, zl_b1 s1, if_neg (show ¬ (1 : Int32) = 0 by decide)]
    rcases R with ⟨p', t', bf, y', v', read', at', en', hbf, r1, r2⟩ | ⟨d, t, pe, t', bg, y', v', b', e', k', V', hd1, hd4, ht10, r1, hq, r2⟩
    · rw [zl_b9 r1, rl7 (P := nI (aPC a)) (H := nI (aHC a)) hm (show f_X7_wordOf N textM (nI b) (nI e) = some (5 : Int32) from hwd) (by decide) (fun q => absurd q (by decide)) (fun _ => n6') q7 r2, if_pos rfl]
      exact Or.inl ⟨_, _, bf, _, _, _, _, _, _, _, _, _, _, _, _, _, _, _, _, _, _, _, _, _, _, _, _, _, _, hbf, rfl, rfl⟩
    · rw [zl_b9 r1, rl7 (P := nI (aPC a)) (H := nI (aHC a)) hm (show f_X7_wordOf N textM (nI b) (nI e) = some (5 : Int32) from hwd) (by decide) (fun q => absurd q (by decide)) (fun _ => n6') q7 r2, if_neg (by decide)]
      have W := hope_w hok hw0 (by omega) hd1 hd4 ht10
      refine Or.inr ⟨aHope a d t, pe, _, _, _, _, _, _, _, _, _, _, _, _, _, _, _, _, _, _, _, upd (upd (upd read (5 * m) 5) (5 * m + 1) (nI d)) (5 * m + 2) (nI t), rw_, b', e', k', V', syl, rfl, ?_, W.1, W.2, hq, hs7, hope_s hok hm (by omega) hd1 hd4 ht10 ?_ ?_ ?_, fun i hi => ?_, fun i hi => rfl⟩
      · rw [if_neg (show ¬ (5 : Int32) = 7 by decide), if_neg (show ¬ (5 : Int32) = 7 by decide), if_neg (show ¬ (5 : Int32) = 7 by decide), if_neg (show ¬ ((5 : Int32) = 2 ∨ (5 : Int32) = 3) by decide), if_pos (show (5 : Int32) = 5 by decide), Int32.add_zero, nI_1]
        rfl
      · rw [uN _ _ _ _ (by omega), uN _ _ _ _ (by omega), uS]
        rfl
      · rw [uN _ _ _ _ (by omega), uS]
      · rw [uS]
      · rw [uN _ _ _ _ (by omega), uN _ _ _ _ (by omega), uN _ _ _ _ (by omega)]
  · have R := ln_deg hN ht h1 n13 (upd read (5 * m) 6) rw_ hm (nI (aPC a)) (nI (aSC a)) syl
    unfold f_X3_readLine
    rw [zl_b5 h.2.1, if_pos ck, zl_b1 (s0 0 (by decide)), if_pos rfl, zl_b1 (s0 1 (by decide)), if_pos rfl, zl_b1 (s0 2 (by decide)), if_pos rfl, zl_b1 (s0 3 (by decide)), if_pos rfl, zl_b1 (s0 4 (by decide)), if_pos rfl, zl_b1 (s0 5 (by decide)), if_pos rfl, zl_b1 s1, if_neg (show ¬ (1 : Int32) = 0 by decide)]
    rcases R with ⟨p', t', bf, y', v', read', at', en', hbf, r1, r2⟩ | ⟨d, pe, t', bg, y', v', b', e', k', V', hd1, hd4, r1, hq, r2⟩
    · rw [zl_b7 r1, rl7 (P := nI (aPC a)) (H := nI (aHC a)) hm (show f_X7_wordOf N textM (nI b) (nI e) = some (6 : Int32) from hwd) (by decide) (fun q => absurd q (by decide)) (fun q => absurd q (by decide)) q7 r2, if_pos rfl]
      exact Or.inl ⟨_, _, bf, _, _, _, _, _, _, _, _, _, _, _, _, _, _, _, _, _, _, _, _, _, _, _, _, _, _, hbf, rfl, rfl⟩
    · rw [zl_b7 r1, rl7 (P := nI (aPC a)) (H := nI (aHC a)) hm (show f_X7_wordOf N textM (nI b) (nI e) = some (6 : Int32) from hwd) (by decide) (fun q => absurd q (by decide)) (fun q => absurd q (by decide)) q7 r2, if_neg (by decide)]
      have W := deg_w hok hw0 hd1 hd4
      refine Or.inr ⟨aDeg a d, pe, _, _, _, _, _, _, _, _, _, _, _, _, _, _, _, _, _, _, _, upd (upd read (5 * m) 6) (5 * m + 1) (nI d), rw_, b', e', k', V', syl, rfl, ?_, W.1, W.2, hq, hs7, deg_s hok hm ?_ ?_, fun i hi => ?_, fun i hi => rfl⟩
      · rw [if_neg (by decide), if_neg (by decide), if_neg (by decide), if_neg (by decide), if_neg (by decide), Int32.add_zero, Int32.add_zero]
        rfl
      · rw [uN _ _ _ _ (by omega), uS]
        rfl
      · rw [uS]
      · rw [uN _ _ _ _ (by omega), uN _ _ _ _ (by omega)]
  · have r2 : f_X7_readsRest N textM (nI n) (upd read (5 * m) 7) rw_ (nI m) (nI e1) (nI b1) (nI e1) (nI (aPC a)) (nI (aSC a)) syl 7 = some (1, upd read (5 * m) 7, rw_, nI e1, nI b1, nI e1, nI (aSC a), syl) := rfl
    unfold f_X3_readLine
    rw [zl_b5 h.2.1, if_pos ck, zl_b1 (s0 0 (by decide)), if_pos rfl, zl_b1 (s0 1 (by decide)), if_pos rfl, zl_b1 (s0 2 (by decide)), if_pos rfl, zl_b1 (s0 3 (by decide)), if_pos rfl, zl_b1 (s0 4 (by decide)), if_pos rfl, zl_b1 (s0 5 (by decide)), if_pos rfl, zl_b1 (s0 6 (by decide)), if_pos rfl, zl_b1 s1, if_neg (show ¬ (1 : Int32) = 0 by decide), show f_X3_readForget N = some (1, 0, 0, 0) from rfl]
    rw [rl7 (P := nI (aPC a)) (H := nI (aHC a)) hm (show f_X7_wordOf N textM (nI b) (nI e) = some (7 : Int32) from hwd) (by decide) (fun q => absurd q (by decide)) (fun q => absurd q (by decide)) q7 r2, if_neg (by decide)]
    have W := forget_w hok hw0
    refine Or.inr ⟨aForget a, e, _, _, _, _, _, _, _, _, _, _, _, _, _, _, _, _, _, _, _, upd read (5 * m) 7, rw_, b1, e1, k1, V1, syl, rfl, ?_, W.1, W.2, h1, fun i hi => absurd (show i < 0 from hi) (Nat.not_lt_zero _), forget_s hm ?_, fun i hi => ?_, fun i hi => rfl⟩
    · rfl
    · rw [uS]
      rfl
    · rw [uN _ _ _ _ (by omega)]
end
