/-! ===== the readers of a line's rest ===== -/
section
variable {N : Nat} {text textM : Nat → Int32} {B : Nat → Nat} {n p b e k : Nat} {V : Int64}
variable {a : AW} {n1 : Nat → Int32} {n2 : Nat → Int64} {n3 : Int32} {n4 : Nat → Int32} {n5 : Nat → Int64} {n6 n7 n8 : Nat → Int32} {n9 : Int32} {n10 n11 : Nat → Int32} {n12 n13 : Int32}
theorem ln_syl (hN : 100000 ≤ N) (ht : TX text textM B n) (h : TP N text textM B n p b e k V) (hok : zOK a) (hs6 : ∀ i, i < aSC a → n2 i = lN (aS a i)) (read : Nat → Int32) (rw_ : Nat → Int64) {m : Nat} (hm : m < 8) (P : Int32) {syl : Nat → Int32} (hs7 : ∀ i, i < aSC a → syl i = nI (aS a i)) :
    (f_X3_readWord N text (nI n) (nI p) 3 = some (0, nI e, nI k, nI b, nI (e - b), V) ∧ f_X7_readsRest N textM (nI n) read rw_ (nI m) (nI e) (nI b) (nI e) P (nI (aSC a)) syl 1 = some (0, read, rw_, nI e, nI b, nI e, nI (aSC a), syl)) ∨
    (∃ c, f_X3_readWord N text (nI n) (nI p) 3 = some (1, nI e, nI k, nI b, nI (e - b), lN c) ∧ f_X5_addSyllable N n2 (nI (aSC a)) (lN c) = some (0, n2, nI (aSC a)) ∧ f_X7_readsRest N textM (nI n) read rw_ (nI m) (nI e) (nI b) (nI e) P (nI (aSC a)) syl 1 = some (0, read, rw_, nI e, nI b, nI e, nI (aSC a), syl)) ∨
    (∃ c b' e' k' V', isW 3 c ∧ ¬ isSy a c ∧ aSC a < 10 ∧ f_X3_readWord N text (nI n) (nI p) 3 = some (1, nI e, nI k, nI b, nI (e - b), lN c) ∧ f_X5_addSyllable N n2 (nI (aSC a)) (lN c) = some (1, vp_updL n2 (aSC a) (lN c), nI (aSC a + 1)) ∧ TP N text textM B n e b' e' k' V' ∧ f_X7_readsRest N textM (nI n) read rw_ (nI m) (nI e) (nI b) (nI e) P (nI (aSC a)) syl 1 = some (1, upd read (5 * m + 1) (nI c), rw_, nI e', nI b', nI e', nI (aSC a + 1), upd syl (aSC a) (nI c))) := by
  obtain ⟨l1, l2, l3, l4⟩ := Tok_le h.1
  have hn := ht.1.1
  have h10 : aSC a ≤ 10 := hok.2.1
  have m5 : (5 : Int32) * nI m = nI (5 * m) := pk_mul 5 m
  obtain ⟨b', e', k', V', h1⟩ := TP_at N hN ht l3
  unfold f_X7_readsRest f_X7_readsSyl f_X5_addSyllable
  rw [zl_let, zl_let, if_neg (by decide), if_pos rfl]
  obtain ⟨N', hN'⟩ : ∃ g, N = g + 1 := ⟨N - 1, by omega⟩
  have stop : ∀ (v : Int64) (K), f_X7_readsSyl_L32 N K (nI (aSC a)) syl v N 0 (0 : Int32) = K 0 := fun v K => by
    rw [hN', f_X7_readsSyl_L32_s, if_pos rfl, ite_self]
  rcases wd_ln hN ht h (L := 3) (by decide) with ⟨q1, q2⟩ | ⟨c, hc, q1, q2⟩
  · rw [zl_b1 (show f_X7_codeHere N textM (nI n) (nI b) (nI e) (3 : Int32) = _ from q2), zl_let, if_pos rfl]
    dsimp only
    rw [zl_let, stop, if_pos rfl, zl_b7 rfl]
    exact Or.inl ⟨q1, rfl⟩
  · have hc3 : c < 27 ^ 3 := hc.2.1
    rw [zl_b1 (show f_X7_codeHere N textM (nI n) (nI b) (nI e) (3 : Int32) = _ from q2), zl_let, if_neg (lN_nm1 (by omega))]
    by_cases c10 : aSC a = 10
    · rw [if_pos (show (10 : Int32) ≤ nI (aSC a) from nI_le (a := 10) (by omega) (by omega))]
      dsimp only
      rw [zl_let, stop, if_pos rfl, zl_b7 rfl]
      refine Or.inr (Or.inl ⟨c, q1, ?_, rfl⟩)
      rw [if_pos (show (10 : Int32) ≤ nI (aSC a) from nI_le (a := 10) (by omega) (by omega))]
    · rw [if_neg (show ¬ (10 : Int32) ≤ nI (aSC a) from nI_ge (b := 10) (by omega) (by decide))]
      dsimp only
      obtain ⟨z, z1, z2⟩ := sy32 (N := N) hok hs7 hc3 (fun (v3_16 : Int32) => (
        if v3_16 = 0 then (some ((0 : Int32), read, nI e, nI b, nI e, nI (aSC a), syl)) 
        else 
        zz_gd (zz_in (nI (aSC a)) 18) (
          zz_let (upd syl (nI (aSC a)).toNatClampNeg (lN c).toInt32) (fun t_readSyl_19 => 
            zz_let (nI (aSC a) + (1 : Int32)) (fun t_readSyls_20 => 
              zz_gd (zz_in (((5 : Int32) * nI m) + (1 : Int32)) 40) (
                zz_let (upd read (((5 : Int32) * nI m) + (1 : Int32)).toNatClampNeg (lN c).toInt32) (fun t_read_22 => 
                  zz_b3 (f_X7_token N textM (nI n) (nI e)) (fun t_at_23 t_place_24 t_end_25 => (some ((1 : Int32), t_read_22, t_at_23, t_place_24, t_end_25, t_readSyls_20, t_readSyl_19)))))))))) (aSC a) 0 N (by omega) (by omega)
      rw [zl_let, show ∀ K, f_X7_readsSyl_L32 N K (nI (aSC a)) syl (lN c) N 1 (0 : Int32) = f_X7_readsSyl_L32 N K (nI (aSC a)) syl (lN c) N 1 (nI 0) from fun _ => rfl, z1]
      rcases sy_eq N hN hok hs6 (y := c) (by omega) with ⟨y1, y2⟩ | ⟨y1, y2⟩
      · have : z = false := by
          cases z
          · rfl
          · obtain ⟨j, j1, j2⟩ := y1
            exact absurd ⟨j, Nat.zero_le _, j1, j2⟩ (z2.mp rfl)
        subst this
        refine Or.inr (Or.inl ⟨c, q1, ?_, rfl⟩)
        rw [if_neg (show ¬ (10 : Int32) ≤ nI (aSC a) from nI_ge (b := 10) (by omega) (by decide)), zl_b1 y2, if_neg (by decide)]
      · have : z = true := z2.mpr (fun ⟨j, _, j1, j2⟩ => y1 ⟨j, j1, j2⟩)
        subst this
        refine Or.inr (Or.inr ⟨c, b', e', k', V', hc, y1, by omega, q1, ?_, h1, ?_⟩)
        · rw [if_neg (show ¬ (10 : Int32) ≤ nI (aSC a) from nI_ge (b := 10) (by omega) (by decide)), zl_b1 y2, if_pos rfl, zl_gd (zl_inN (show aSC a < 10 by omega) (by decide)), zl_let, zl_let, zl_cl (show aSC a < 2 ^ 31 by omega), nI_1]
        · rw [if_neg (by decide), zl_gd (zl_inN (show aSC a < 18 by omega) (by decide)), zl_let, zl_let, m5, nI_1, zl_gd (zl_inN (show 5 * m + 1 < 40 by omega) (by decide)), zl_let, zl_b3 h1.2.2.2.2.2, zl_b7 rfl, lN_i, nI_1, zl_cl (show aSC a < 2 ^ 31 by omega), zl_cl (show 5 * m + 1 < 2 ^ 31 by omega)]
          rfl
theorem ln_bir (hN : 100000 ≤ N) (ht : TX text textM B n) (h : TP N text textM B n p b e k V) (hok : zOK a) (hw : zWA a n1 n2 n3 n4 n5 n6 n7 n8 n9 n10 n11 n12 n13) (h16 : aPC a < 16) {x y : Nat} (hx : x ≤ 16) (hy : y ≤ 16) (read : Nat → Int32) (rw_ : Nat → Int64) {m s : Nat} (hm : m < 8) (hs : s ≤ 2) (S : Int32) (syl : Nat → Int32) :
    (∃ p' t' bf y' v' read' rw' at' en', bf < 1000 ∧ f_X3_readBirth N text (nI n) (nI p) (nI x - 1) (nI y - 1) n4 n5 n6 n7 n8 (nI (aPC a)) = some (0, p', t', nI bf, y', v', n4, n5, n6, n7, n8, nI (aPC a)) ∧ zz_b5 (f_X7_reads N textM (nI n) read (nI m) (nI e) (nI b) (nI e) (nI s) (1 : Int32) (400 : Int32) (-1 : Int32)) (fun r_24 t_read_25 t_at_26 t_place_27 t_end_28 => (if r_24 = 0 then (some ((0 : Int32), t_read_25, rw_, t_at_26, t_place_27, t_end_28, S, syl)) else zz_b5 (f_X7_readsWord N textM (nI n) rw_ (nI m) t_at_26 t_place_27 t_end_28) (fun r_30 t_readWord_31 t_at_32 t_place_33 t_end_34 => (if r_30 = 0 then (some ((0 : Int32), t_read_25, t_readWord_31, t_at_32, t_place_33, t_end_34, S, syl)) else (some ((1 : Int32), t_read_25, t_readWord_31, t_at_32, t_place_33, t_end_34, S, syl)))))) = some (0, read', rw', at', nI bf, en', S, syl)) ∨
    (∃ d w pe t' bg y' v' b' e' k' V', 1 ≤ d ∧ d ≤ 400 ∧ (w = 0 ∨ isW 9 w) ∧ f_X3_readBirth N text (nI n) (nI p) (nI x - 1) (nI y - 1) n4 n5 n6 n7 n8 (nI (aPC a)) = some (1, nI pe, t', bg, y', v', upd n4 (aPC a) (nI d), vp_updL n5 (aPC a) (lN w), upd n6 (aPC a) (nI x - 1), upd n7 (aPC a) (nI y - 1), upd n8 (aPC a) (nI (aK (aBear a x y d w) (aPC a))), nI (aPC a + 1)) ∧ TP N text textM B n pe b' e' k' V' ∧ zz_b5 (f_X7_reads N textM (nI n) read (nI m) (nI e) (nI b) (nI e) (nI s) (1 : Int32) (400 : Int32) (-1 : Int32)) (fun r_24 t_read_25 t_at_26 t_place_27 t_end_28 => (if r_24 = 0 then (some ((0 : Int32), t_read_25, rw_, t_at_26, t_place_27, t_end_28, S, syl)) else zz_b5 (f_X7_readsWord N textM (nI n) rw_ (nI m) t_at_26 t_place_27 t_end_28) (fun r_30 t_readWord_31 t_at_32 t_place_33 t_end_34 => (if r_30 = 0 then (some ((0 : Int32), t_read_25, t_readWord_31, t_at_32, t_place_33, t_end_34, S, syl)) else (some ((1 : Int32), t_read_25, t_readWord_31, t_at_32, t_place_33, t_end_34, S, syl)))))) = some (1, upd read (5 * m + 1 + s) (nI d), vp_updL rw_ m (lN w), nI e', nI b', nI e', S, syl)) := by
  unfold f_X3_readBirth
  rcases num_l1 hN ht h read hm hs 1 400 with ⟨r1, r2⟩ | ⟨d, b1, e1, k1, V1, v1, v2, v3, r1, h1, r2⟩
  · rw [zl_b6 r1, if_pos rfl, zl_b5 r2, if_pos rfl]
    exact Or.inl ⟨_, _, b, _, _, _, _, _, _, tp_bd ht h, rfl, rfl⟩
  · have e1' : (1 : Int32).toInt = 1 := by decide
    have e4' : (400 : Int32).toInt = 400 := by decide
    rw [zl_b6 r1, if_neg (by decide), zl_let, zl_b5 r2, if_neg (by decide), lN_i]
    rcases wn_ln hN ht h1 rw_ hm with ⟨q1, q2⟩ | ⟨w, b', e', k', V', hw9, q1, hq, q2⟩
    · rw [zl_b6 q1, if_pos rfl, zl_b5 q2, if_pos rfl]
      exact Or.inl ⟨_, _, b1, _, _, _, _, _, _, tp_bd ht h1, rfl, rfl⟩
    · rw [zl_b6 q1, if_neg (by decide), zl_b5 q2, if_neg (by decide)]
      refine Or.inr ⟨d, w, e1, nI k1, nI b1, nI (e1 - b1), lN w, b', e', k', V', by omega, by omega, hw9, ?_, hq, rfl⟩
      unfold f_X5_addPerson
      rw [if_pos (show nI (aPC a) < (16 : Int32) from nI_lt (b := 16) h16 (by decide)), zl_b1 (kd6_eq N hN hok hw w hx hy (by omega)), zl_gd (zl_inN h16 (by decide)), zl_let, zl_let, zl_let, zl_let, zl_let, zl_let, zl_cl (show aPC a < 2 ^ 31 by omega), zl_b6 rfl, nI_1]
theorem pcm1 (h16 : aPC a ≤ 16) : (nI (aPC a) - 1).toInt = (aPC a : Int) - 1 := by
  by_cases c : aPC a = 0
  · rw [c]
    decide
  · rw [show nI (aPC a) - 1 = nI (aPC a - 1) from pk_sub (show 1 ≤ aPC a by omega), nI_toInt (by omega)]
    omega
theorem prs_ln (hN : 100000 ≤ N) (ht : TX text textM B n) (h : TP N text textM B n p b e k V) (h16 : aPC a ≤ 16) (read : Nat → Int32) {m s : Nat} (hm : m < 8) (hs : s ≤ 2) (nt : Int32) :
    (f_X3_readPerson N text (nI n) (nI p) (nI (aPC a)) = some (0, nI e, nI k, nI b, nI (e - b), V) ∧ f_X7_reads N textM (nI n) read (nI m) (nI e) (nI b) (nI e) (nI s) 0 (nI (aPC a) - 1) nt = some (0, read, nI e, nI b, nI e)) ∨
    (∃ v, v < aPC a ∧ f_X3_readPerson N text (nI n) (nI p) (nI (aPC a)) = some (1, nI e, nI k, nI b, nI (e - b), lN v) ∧
      ((nI v = nt ∧ f_X7_reads N textM (nI n) read (nI m) (nI e) (nI b) (nI e) (nI s) 0 (nI (aPC a) - 1) nt = some (0, read, nI e, nI b, nI e)) ∨
       (¬ nI v = nt ∧ ∃ b' e' k' V', TP N text textM B n e b' e' k' V' ∧ f_X7_reads N textM (nI n) read (nI m) (nI e) (nI b) (nI e) (nI s) 0 (nI (aPC a) - 1) nt = some (1, upd read (5 * m + 1 + s) (nI v), nI e', nI b', nI e')))) := by
  unfold f_X3_readPerson
  rcases num_ln hN ht h read hm hs 0 (nI (aPC a) - 1) nt with ⟨r1, r2⟩ | ⟨v, v1, v2, v3, r1, r2⟩
  · refine Or.inl ⟨?_, r2⟩
    rw [zl_b6 r1]
    rfl
  · rw [pcm1 h16] at v3
    refine Or.inr ⟨v, by omega, ?_, r2⟩
    rw [zl_b6 r1]
    rfl
theorem ln_call (hN : 100000 ≤ N) (ht : TX text textM B n) (h : TP N text textM B n p b e k V) (h16 : aPC a ≤ 16) (n5 : Nat → Int64) (read : Nat → Int32) (rw_ : Nat → Int64) {m : Nat} (hm : m < 8) (S : Int32) (syl : Nat → Int32) :
    (∃ p' t' bf y' v' read' rw' at' en', bf < 1000 ∧ f_X3_readCall N text (nI n) (nI p) n5 (nI (aPC a)) = some (0, p', t', nI bf, y', v', n5) ∧ f_X7_readsRest N textM (nI n) read rw_ (nI m) (nI e) (nI b) (nI e) (nI (aPC a)) S syl 4 = some (0, read', rw', at', nI bf, en', S, syl)) ∨
    (∃ x w pe t' bg y' v' b' e' k' V', x < aPC a ∧ (w = 0 ∨ isW 9 w) ∧ f_X3_readCall N text (nI n) (nI p) n5 (nI (aPC a)) = some (1, nI pe, t', bg, y', v', vp_updL n5 x (lN w)) ∧ TP N text textM B n pe b' e' k' V' ∧ f_X7_readsRest N textM (nI n) read rw_ (nI m) (nI e) (nI b) (nI e) (nI (aPC a)) S syl 4 = some (1, upd read (5 * m + 1) (nI x), vp_updL rw_ m (lN w), nI e', nI b', nI e', S, syl)) := by
  unfold f_X3_readCall f_X7_readsRest
  rw [zl_let, zl_let, if_neg (by decide), if_neg (by decide), if_neg (by decide), if_neg (by decide), if_pos rfl]
  rcases prs_ln hN ht h h16 read hm (s := 0) (by decide) (-1) with ⟨r1, r2⟩ | ⟨x, v1, r1, r2 | ⟨_, b1, e1, k1, V1, h1, r2⟩⟩
  · rw [zl_b6 r1, if_pos rfl, zl_b5 (show f_X7_reads N textM (nI n) read (nI m) (nI e) (nI b) (nI e) (0 : Int32) 0 (nI (aPC a) - 1) (-1) = _ from r2), if_pos rfl]
    exact Or.inl ⟨_, _, b, _, _, _, _, _, _, tp_bd ht h, rfl, rfl⟩
  · exact absurd r2.1 (nI_nm1 (by omega))
  · rw [zl_b6 r1, if_neg (by decide), zl_b5 (show f_X7_reads N textM (nI n) read (nI m) (nI e) (nI b) (nI e) (0 : Int32) 0 (nI (aPC a) - 1) (-1) = _ from r2), if_neg (by decide), zl_let, lN_i]
    rcases wn_ln hN ht h1 rw_ hm with ⟨q1, q2⟩ | ⟨w, b', e', k', V', hw9, q1, hq, q2⟩
    · rw [zl_b6 q1, if_pos rfl, zl_b5 q2, if_pos rfl]
      exact Or.inl ⟨_, _, b1, _, _, _, _, _, _, tp_bd ht h1, rfl, rfl⟩
    · rw [zl_b6 q1, if_neg (by decide), zl_b5 q2, if_neg (by decide), zl_gd (zl_inN (show x < 16 by omega) (by decide)), zl_let, zl_cl (show x < 2 ^ 31 by omega)]
      exact Or.inr ⟨x, w, e1, _, _, _, _, b', e', k', V', v1, hw9, rfl, hq, rfl⟩
theorem ln_hope (hN : 100000 ≤ N) (ht : TX text textM B n) (h : TP N text textM B n p b e k V) (h6 : aHC a < 6) (n10 n11 : Nat → Int32) (z1 z2 z3 : Int32) (z4 : Int64) (read : Nat → Int32) (rw_ : Nat → Int64) {m : Nat} (hm : m < 8) (P S : Int32) (syl : Nat → Int32) :
    (∃ p' t' bf y' v' read' at' en', bf < 1000 ∧ f_X3_readHope N text (nI n) (nI p) z1 z2 z3 z4 n10 n11 (nI (aHC a)) = some (0, p', t', nI bf, y', v', n10, n11, nI (aHC a)) ∧ f_X7_readsRest N textM (nI n) read rw_ (nI m) (nI e) (nI b) (nI e) P S syl 5 = some (0, read', rw_, at', nI bf, en', S, syl)) ∨
    (∃ d t pe t' bg y' v' b' e' k' V', 1 ≤ d ∧ d ≤ 400 ∧ t ≤ 10 ∧ f_X3_readHope N text (nI n) (nI p) z1 z2 z3 z4 n10 n11 (nI (aHC a)) = some (1, nI pe, t', bg, y', v', upd n10 (aHC a) (nI d), upd n11 (aHC a) (nI t), nI (aHC a + 1)) ∧ TP N text textM B n pe b' e' k' V' ∧ f_X7_readsRest N textM (nI n) read rw_ (nI m) (nI e) (nI b) (nI e) P S syl 5 = some (1, upd (upd read (5 * m + 1) (nI d)) (5 * m + 2) (nI t), rw_, nI e', nI b', nI e', S, syl)) := by
  unfold f_X3_readHope f_X7_readsRest
  rw [if_neg (show ¬ (6 : Int32) ≤ nI (aHC a) from nI_ge (b := 6) h6 (by decide)), zl_let, zl_let, if_neg (show ¬ (5 : Int32) = 0 by decide), if_neg (show ¬ (5 : Int32) = 1 by decide), if_neg (show ¬ (5 : Int32) = 2 by decide), if_neg (show ¬ (5 : Int32) = 3 by decide), if_neg (show ¬ (5 : Int32) = 4 by decide), if_pos rfl]
  rcases num_l1 hN ht h read hm (s := 0) (by decide) 1 400 with ⟨r1, r2⟩ | ⟨d, b1, e1, k1, V1, v1, v2, v3, r1, h1, r2⟩
  · rw [zl_b6 r1, if_pos rfl, zl_b5 (show f_X7_reads N textM (nI n) read (nI m) (nI e) (nI b) (nI e) (0 : Int32) 1 400 (-1) = _ from r2), if_pos rfl]
    exact Or.inl ⟨_, _, b, _, _, _, _, _, tp_bd ht h, rfl, rfl⟩
  · have e1' : (1 : Int32).toInt = 1 := by decide
    have e4' : (400 : Int32).toInt = 400 := by decide
    have e10' : (10 : Int32).toInt = 10 := by decide
    rw [zl_b6 r1, if_neg (by decide), zl_let, zl_b5 (show f_X7_reads N textM (nI n) read (nI m) (nI e) (nI b) (nI e) (0 : Int32) 1 400 (-1) = _ from r2), if_neg (by decide), lN_i]
    rcases num_l1 hN ht h1 (upd read (5 * m + 1 + 0) (nI d)) hm (s := 1) (by decide) 0 10 with ⟨q1, q2⟩ | ⟨t, b', e', k', V', w1, w2, w3, q1, hq, q2⟩
    · rw [zl_b6 q1, if_pos rfl, zl_b5 (show f_X7_reads N textM (nI n) (upd read (5 * m + 1 + 0) (nI d)) (nI m) (nI e1) (nI b1) (nI e1) (1 : Int32) 0 10 (-1) = _ from q2), if_pos rfl]
      exact Or.inl ⟨_, _, b1, _, _, _, _, _, tp_bd ht h1, rfl, rfl⟩
    · rw [zl_b6 q1, if_neg (by decide), zl_b5 (show f_X7_reads N textM (nI n) (upd read (5 * m + 1 + 0) (nI d)) (nI m) (nI e1) (nI b1) (nI e1) (1 : Int32) 0 10 (-1) = _ from q2), if_neg (by decide), lN_i]
      refine Or.inr ⟨d, t, e1, nI k1, nI b1, nI (e1 - b1), lN t, b', e', k', V', by omega, by omega, by omega, ?_, hq, rfl⟩
      unfold f_X5_addHope
      rw [if_pos (show nI (aHC a) < (6 : Int32) from nI_lt (b := 6) h6 (by decide)), zl_gd (zl_inN h6 (by decide)), zl_let, zl_let, zl_let, zl_cl (show aHC a < 2 ^ 31 by omega), zl_b3 rfl, nI_1]
theorem ln_deg (hN : 100000 ≤ N) (ht : TX text textM B n) (h : TP N text textM B n p b e k V) (n13 : Int32) (read : Nat → Int32) (rw_ : Nat → Int64) {m : Nat} (hm : m < 8) (P S : Int32) (syl : Nat → Int32) :
    (∃ p' t' bf y' v' read' at' en', bf < 1000 ∧ f_X3_readDegrees N text (nI n) (nI p) n13 = some (0, p', t', nI bf, y', v', n13) ∧ f_X7_readsRest N textM (nI n) read rw_ (nI m) (nI e) (nI b) (nI e) P S syl 6 = some (0, read', rw_, at', nI bf, en', S, syl)) ∨
    (∃ d pe t' bg y' v' b' e' k' V', 1 ≤ d ∧ d ≤ 4 ∧ f_X3_readDegrees N text (nI n) (nI p) n13 = some (1, nI pe, t', bg, y', v', nI d) ∧ TP N text textM B n pe b' e' k' V' ∧ f_X7_readsRest N textM (nI n) read rw_ (nI m) (nI e) (nI b) (nI e) P S syl 6 = some (1, upd read (5 * m + 1) (nI d), rw_, nI e', nI b', nI e', S, syl)) := by
  unfold f_X3_readDegrees f_X7_readsRest
  rw [zl_let, zl_let, if_neg (by decide), if_neg (by decide), if_neg (by decide), if_neg (by decide), if_neg (by decide), if_neg (by decide), if_pos rfl]
  rcases num_l1 hN ht h read hm (s := 0) (by decide) 1 4 with ⟨r1, r2⟩ | ⟨d, b1, e1, k1, V1, v1, v2, v3, r1, h1, r2⟩
  · rw [zl_b6 r1, if_pos rfl, zl_b5 (show f_X7_reads N textM (nI n) read (nI m) (nI e) (nI b) (nI e) (0 : Int32) 1 4 (-1) = _ from r2)]
    exact Or.inl ⟨_, _, b, _, _, _, _, _, tp_bd ht h, rfl, rfl⟩
  · have e1' : (1 : Int32).toInt = 1 := by decide
    have e4' : (4 : Int32).toInt = 4 := by decide
    rw [zl_b6 r1, if_neg (by decide), zl_let, zl_b5 (show f_X7_reads N textM (nI n) read (nI m) (nI e) (nI b) (nI e) (0 : Int32) 1 4 (-1) = _ from r2), lN_i]
    exact Or.inr ⟨d, e, _, _, _, _, b1, e1, k1, V1, by omega, by omega, rfl, h1, rfl⟩
theorem ln_par (hN : 100000 ≤ N) (ht : TX text textM B n) (h : TP N text textM B n p b e k V) (h16 : aPC a ≤ 16) (z1 z2 : Int32) (read : Nat → Int32) (rw_ : Nat → Int64) {m : Nat} (hm : m < 8) (S : Int32) (syl : Nat → Int32) :
    (∃ p' t' bf y' v' g1 g2 read' rw' at' en', bf < 1000 ∧ f_X3_readParents N text (nI n) (nI p) z1 z2 (nI (aPC a)) = some (0, p', t', nI bf, y', v', g1, g2) ∧ f_X7_readsRest N textM (nI n) read rw_ (nI m) (nI e) (nI b) (nI e) (nI (aPC a)) S syl 3 = some (0, read', rw', at', nI bf, en', S, syl)) ∨
    (∃ x y pe t' bg y' v' b' e' k' V', x < aPC a ∧ y < aPC a ∧ x ≠ y ∧ f_X3_readParents N text (nI n) (nI p) z1 z2 (nI (aPC a)) = some (1, nI pe, t', bg, y', v', nI x, nI y) ∧ TP N text textM B n pe b' e' k' V' ∧ f_X7_readsRest N textM (nI n) read rw_ (nI m) (nI e) (nI b) (nI e) (nI (aPC a)) S syl 3 = zz_b5 (f_X7_reads N textM (nI n) (upd (upd read (5 * m + 1) (nI x)) (5 * m + 2) (nI y)) (nI m) (nI e') (nI b') (nI e') (nI 2) (1 : Int32) (400 : Int32) (-1 : Int32)) (fun r_24 t_read_25 t_at_26 t_place_27 t_end_28 => (if r_24 = 0 then (some ((0 : Int32), t_read_25, rw_, t_at_26, t_place_27, t_end_28, S, syl)) else zz_b5 (f_X7_readsWord N textM (nI n) rw_ (nI m) t_at_26 t_place_27 t_end_28) (fun r_30 t_readWord_31 t_at_32 t_place_33 t_end_34 => (if r_30 = 0 then (some ((0 : Int32), t_read_25, t_readWord_31, t_at_32, t_place_33, t_end_34, S, syl)) else (some ((1 : Int32), t_read_25, t_readWord_31, t_at_32, t_place_33, t_end_34, S, syl))))))) := by
  have m5 : (5 : Int32) * nI m = nI (5 * m) := pk_mul 5 m
  unfold f_X3_readParents f_X7_readsRest
  rw [zl_let, zl_let, if_neg (by decide), if_neg (by decide), if_neg (by decide), if_pos rfl]
  rcases prs_ln hN ht h h16 read hm (s := 0) (by decide) (-1) with ⟨r1, r2⟩ | ⟨x, v1, r1, r2 | ⟨_, b1, e1, k1, V1, h1, r2⟩⟩
  · rw [zl_b6 r1, if_pos rfl, zl_b5 (show f_X7_reads N textM (nI n) read (nI m) (nI e) (nI b) (nI e) (0 : Int32) 0 (nI (aPC a) - 1) (-1) = _ from r2), if_pos rfl]
    exact Or.inl ⟨_, _, b, _, _, _, _, _, _, _, _, tp_bd ht h, rfl, rfl⟩
  · exact absurd r2.1 (nI_nm1 (by omega))
  · rw [zl_b6 r1, if_neg (by decide), zl_b5 (show f_X7_reads N textM (nI n) read (nI m) (nI e) (nI b) (nI e) (0 : Int32) 0 (nI (aPC a) - 1) (-1) = _ from r2), if_neg (by decide), zl_let, lN_i, m5, nI_1, zl_gd (zl_inN (show 5 * m + 1 < 40 by omega) (by decide)), zl_cl (show 5 * m + 1 < 2 ^ 31 by omega), show upd read (5 * m + 1 + 0) (nI x) (5 * m + 1) = nI x from pk_us, nI_l (by omega)]
    rcases prs_ln hN ht h1 h16 (upd read (5 * m + 1 + 0) (nI x)) hm (s := 1) (by decide) (nI x) with ⟨q1, q2⟩ | ⟨y, w1, q1, ⟨q2, q3⟩ | ⟨q2, b2, e2, k2, V2, h2, q3⟩⟩
    · rw [zl_b6 q1, if_pos rfl, zl_b5 (show f_X7_reads N textM (nI n) (upd read (5 * m + 1 + 0) (nI x)) (nI m) (nI e1) (nI b1) (nI e1) (1 : Int32) 0 (nI (aPC a) - 1) (nI x) = _ from q2), if_pos rfl]
      exact Or.inl ⟨_, _, b1, _, _, _, _, _, _, _, _, tp_bd ht h1, rfl, rfl⟩
    · have : y = x := (nI_eq (by omega) (by omega)).mp q2
      rw [zl_b6 q1, if_neg (by decide), if_pos (show lN y = lN x by rw [this]), zl_b5 (show f_X7_reads N textM (nI n) (upd read (5 * m + 1 + 0) (nI x)) (nI m) (nI e1) (nI b1) (nI e1) (1 : Int32) 0 (nI (aPC a) - 1) (nI x) = _ from q3), if_pos rfl]
      exact Or.inl ⟨_, _, b1, _, _, _, _, _, _, _, _, tp_bd ht h1, rfl, rfl⟩
    · have hne : y ≠ x := fun w => q2 (by rw [w])
      have hnl : ¬ lN y = lN x := fun w => hne (by
        have := congrArg Int64.toInt w
        rw [pk_lT (by omega), pk_lT (by omega)] at this
        omega)
      rw [zl_b6 q1, if_neg (by decide), if_neg hnl, zl_b5 (show f_X7_reads N textM (nI n) (upd read (5 * m + 1 + 0) (nI x)) (nI m) (nI e1) (nI b1) (nI e1) (1 : Int32) 0 (nI (aPC a) - 1) (nI x) = _ from q3), if_neg (by decide), zl_let, lN_i]
      exact Or.inr ⟨x, y, e1, _, _, _, _, b2, e2, k2, V2, v1, w1, fun w => hne w.symm, rfl, h2, rfl⟩
end
