/-! ===== a page in which one letter is false ===== -/
def ocP (a : AW) (mis : Int) (x l : Nat) : Bool := !(l == x) && (decide (0 < aN a l) && decide ((aN a l : Int) = aN a x + mis))
def ocC (a : AW) (mis : Int) (x n : Nat) : Nat := fb_ct (ocP a mis x) n
def wcC (a : AW) (mis : Int) (l : List Nat) : Nat := (l.map (fun x => ocC a mis (x - 1) 26)).sum
theorem wcC_s (a : AW) (mis : Int) {n : Nat} (h0 : n ≠ 0) (h : n < 2 ^ 63) : wcC a mis (zL n) = ocC a mis (n % 27 - 1) 26 + wcC a mis (zL (n / 27)) := by
  rw [zL_s h0 h]
  rfl
theorem wcC_le (a : AW) (mis : Int) : ∀ l : List Nat, wcC a mis l ≤ 26 * l.length := by
  intro l
  induction l with
  | nil => exact Nat.le_refl 0
  | cons x l ih =>
    have h1 : ocC a mis (x - 1) 26 ≤ 26 := fb_ct_le _ _
    have e : wcC a mis (x :: l) = ocC a mis (x - 1) 26 + wcC a mis l := rfl
    rw [e, List.length_cons]
    omega
theorem oc6_loop (N : Nat) {a : AW} {num : Nat → Int32} (hok : zOK a) (hn : ∀ i, i < 26 → num i = nI (aN a i)) {mis : Int} {x : Nat} (hx : x < 26) {t : Int32} (ht : t.toInt = aN a x + mis) (K : Int32 → Option Int32) : ∀ (d l f s : Nat), l + d = 26 → d < f → f_X5_othersOfNumber_L5 N K num t (nI x) f (nI (s + ocC a mis x l)) (nI l) = K (nI (s + ocC a mis x 26)) := by
  intro d
  induction d with
  | zero =>
    intro l f s hl hf
    obtain ⟨f, rfl⟩ : ∃ g, f = g + 1 := ⟨f - 1, by omega⟩
    have hl : l = 26 := by omega
    subst hl
    rw [f_X5_othersOfNumber_L5_s, if_pos (show (26 : Int32) ≤ nI 26 by decide)]
  | succ d ih =>
    intro l f s hl hf
    obtain ⟨f, rfl⟩ : ∃ g, f = g + 1 := ⟨f - 1, by omega⟩
    have hl2 : l < 26 := by omega
    have ih2 := ih (l + 1) f s (by omega) (by omega)
    have es : ocC a mis x (l + 1) = ocC a mis x l + (if ocP a mis x l = true then 1 else 0) := fb_ct_succ _ _
    rw [es] at ih2
    have h99 := hok.1 l hl2
    have h0 : (0 : Int32).toInt = 0 := rfl
    have no : ocP a mis x l = false → (fun (v3_11 : Int32) => zz_let (nI l + (1 : Int32)) (fun v4_12 => (f_X5_othersOfNumber_L5 N K num t (nI x) f v3_11 v4_12))) (nI (s + ocC a mis x l)) = K (nI (s + ocC a mis x 26)) := fun h => by
      rw [h] at ih2
      dsimp only
      rw [zl_let, nI_1]
      exact ih2
    rw [f_X5_othersOfNumber_L5_s, if_neg (show ¬ (26 : Int32) ≤ nI l from nI_ge (b := 26) (by omega) (by decide)), zl_let]
    by_cases c1 : l = x
    · rw [if_pos (show nI l = nI x by rw [c1])]
      refine no ?_
      unfold ocP
      rw [beq_iff_eq.mpr c1]
      rfl
    · rw [if_neg (show ¬ nI l = nI x from fun q => c1 ((nI_eq (by omega) (by omega)).mp q))]
      by_cases c2 : t ≤ 0
      · rw [if_pos c2]
        rw [fa_le, ht, h0] at c2
        refine no ?_
        unfold ocP
        by_cases c3 : 0 < aN a l
        · rw [decide_eq_false (show ¬ (aN a l : Int) = aN a x + mis by omega), Bool.and_false, Bool.and_false]
        · rw [decide_eq_false c3, Bool.false_and, Bool.and_false]
      · rw [if_neg c2, zl_gd (zl_inN (show l < 26 by omega) (by decide)), zl_cl (show l < 2 ^ 31 by omega), hn l hl2]
        rw [fa_le, ht, h0] at c2
        by_cases c3 : (aN a l : Int) = aN a x + mis
        · rw [if_pos (show nI (aN a l) = t by rw [fa_eq, nI_toInt (by omega), ht, c3]), zl_let, nI_1]
          have h : ocP a mis x l = true := by
            unfold ocP
            rw [beq_eq_false_iff_ne.mpr c1, decide_eq_true (show 0 < aN a l by omega), decide_eq_true c3]
            rfl
          rw [h, if_pos rfl] at ih2
          dsimp only
          rw [zl_let, nI_1]
          exact ih2
        · rw [if_neg (show ¬ nI (aN a l) = t from fun q => c3 (by
            rw [fa_eq, nI_toInt (by omega), ht] at q
            exact q))]
          refine no ?_
          unfold ocP
          rw [decide_eq_false c3, Bool.and_false, Bool.and_false]
theorem oc6 (N : Nat) (hN : 100000 ≤ N) {a : AW} {num : Nat → Int32} (hok : zOK a) (hn : ∀ i, i < 26 → num i = nI (aN a i)) {mis : Int} {x : Nat} (hx : x < 26) {t : Int32} (ht : t.toInt = aN a x + mis) : f_X5_othersOfNumber N num t (nI x) = some (nI (ocC a mis x 26)) := by
  unfold f_X5_othersOfNumber
  rw [zl_let]
  have := oc6_loop N hok hn hx ht (fun v => some v) 26 0 N 0 (by omega) (by omega)
  rw [Nat.zero_add, Nat.zero_add] at this
  exact this
theorem cb6_loop (N : Nat) (hN : 100000 ≤ N) {a : AW} {num : Nat → Int32} (hok : zOK a) (hn : ∀ i, i < 26 → num i = nI (aN a i)) {mis : Int} {m3 : Int32} (hm : m3.toInt = mis) (hm1 : -100000 ≤ mis) (hm2 : mis ≤ 100000) (K : Int32 → Option Int32) : ∀ (d i f m s : Nat), i + d = 9 → d < f → m < 27 ^ d → m < 2 ^ 63 → zDg (zL m) = true → f_X5_changesBy_L9 N K num m3 f (nI s) (lN m) (nI i) = K (nI (s + wcC a mis (zL m))) := by
  intro d
  induction d with
  | zero =>
    intro i f m s hi hf hm h2 _
    obtain ⟨f', rfl⟩ : ∃ f', f = f' + 1 := ⟨f - 1, by omega⟩
    have : m = 0 := by
      rw [Nat.pow_zero] at hm
      omega
    rw [this, f_X5_changesBy_L9_s, if_pos (show (9 : Int32) ≤ nI i from nI_le (a := 9) (by omega) (by omega))]
    rfl
  | succ d ih =>
    intro i f m s hi hf hmm h2 hD
    obtain ⟨f', rfl⟩ : ∃ f', f = f' + 1 := ⟨f - 1, by omega⟩
    rw [f_X5_changesBy_L9_s, if_neg (show ¬ (9 : Int32) ≤ nI i from nI_ge (b := 9) (by omega) (by omega))]
    by_cases c : m = 0
    · rw [if_pos ((cd_pos h2).mpr c), c]
      rfl
    · rw [zDg_s c h2, Bool.and_eq_true, Bool.not_eq_true', beq_eq_false_iff_ne] at hD
      have h99 := hok.1 (m % 27 - 1) (by omega)
      have et : (nI (aN a (m % 27 - 1)) + m3).toInt = aN a (m % 27 - 1) + mis := by
        have e := nI_toInt (n := aN a (m % 27 - 1)) (by omega)
        rw [fb_addI (by rw [e, hm]; omega) (by rw [e, hm]; omega), e, hm]
      rw [if_neg (fun q => c ((cd_pos h2).mp q)), zl_b1 (cd_last h2 hD.1), zl_b1 (zl_isLetter hD.1 (by omega)), zl_let, if_neg (show ¬ (1 : Int32) = 0 by decide), zl_gd (zl_inN (show m % 27 - 1 < 26 by omega) (by decide)), zl_cl (by omega), hn _ (by omega), zl_b1 (oc6 N hN hok hn (by omega) et), zl_let, nI_add]
      dsimp only
      rw [zl_let, zl_let, cd_div h2, nI_1, ih (i + 1) f' (m / 27) _ (by omega) (by omega) (by rw [Nat.pow_succ] at hmm; omega) (by omega) hD.2, wcC_s a mis c h2, Nat.add_assoc]
theorem cb6 (N : Nat) (hN : 100000 ≤ N) {a : AW} {num : Nat → Int32} (hok : zOK a) (hn : ∀ i, i < 26 → num i = nI (aN a i)) {mis : Int} {m3 : Int32} (hm : m3.toInt = mis) (hm1 : -100000 ≤ mis) (hm2 : mis ≤ 100000) {n : Nat} (hW : isW 9 n) : f_X5_changesBy N num (lN n) m3 = some (nI (wcC a mis (zL n))) := by
  obtain ⟨h0, h9, hD⟩ := isW_iff.mp hW
  unfold f_X5_changesBy
  rw [zl_let]
  have := cb6_loop N hN hok hn hm hm1 hm2 (fun v => some v) 9 0 N n 0 (by omega) (by omega) h9 (w_63 hW) hD
  rw [Nat.zero_add] at this
  exact this
/-- the first that changes -/
def fsT (v7 : Int32) (p c : Nat) : Int32 := if v7 = -1 then (if 0 < c then nI p else -1) else v7
theorem fsT_0 (v7 : Int32) (p : Nat) : fsT v7 p 0 = v7 := by
  unfold fsT
  by_cases c : v7 = -1
  · rw [if_pos c, if_neg (by decide), c]
  · rw [if_neg c]
theorem fsT_add {p : Nat} (hp : p < 2 ^ 31) (v7 : Int32) (c d : Nat) : fsT (fsT v7 p c) p d = fsT v7 p (c + d) := by
  unfold fsT
  by_cases h : v7 = -1
  · rw [if_pos h, if_pos h]
    by_cases h2 : 0 < c
    · rw [if_pos h2, if_neg (zl_nm1 hp), if_pos (by omega)]
    · rw [if_neg h2, if_pos rfl]
      by_cases h3 : 0 < d
      · rw [if_pos h3, if_pos (by omega)]
      · rw [if_neg h3, if_neg (by omega)]
  · rw [if_neg h, if_neg h, if_neg h]
theorem p207 (N : Nat) {a : AW} {row : Nat → Int32} (hok : zOK a) (hn : ∀ i, i < 26 → row i = nI (aN a i)) {T s p x : Nat} (hT : T ≤ 50000) (hs : s ≤ 9999) (hp : p < 16) (hx : x < 26) (K : Int32 → Int32 → Option Int32) : ∀ (d l f c : Nat) (v7 : Int32), l + d = 26 → d < f → ∃ e, ocC a ((s : Int) - T) x 26 = ocC a ((s : Int) - T) x l + e ∧ f_X7_page_L207 N K row (nI s) (nI T) (nI p) (nI x) f (nI c) v7 (nI l) = K (nI (c + e)) (fsT v7 p e) := by
  intro d
  induction d with
  | zero =>
    intro l f c v7 hl hf
    obtain ⟨f, rfl⟩ : ∃ g, f = g + 1 := ⟨f - 1, by omega⟩
    have hl : l = 26 := by omega
    subst hl
    rw [f_X7_page_L207_s, if_pos (show (26 : Int32) ≤ nI 26 by decide)]
    exact ⟨0, rfl, by rw [fsT_0]; rfl⟩
  | succ d ih =>
    intro l f c v7 hl hf
    obtain ⟨f, rfl⟩ : ∃ g, f = g + 1 := ⟨f - 1, by omega⟩
    have hl2 : l < 26 := by omega
    have es : ocC a ((s : Int) - T) x (l + 1) = ocC a ((s : Int) - T) x l + (if ocP a ((s : Int) - T) x l = true then 1 else 0) := fb_ct_succ _ _
    have h99 := hok.1 l hl2
    have h99x := hok.1 x hx
    have no : ocP a ((s : Int) - T) x l = false → ∃ e, ocC a ((s : Int) - T) x 26 = ocC a ((s : Int) - T) x l + e ∧ (fun (v6_61 : Int32) (v7_62 : Int32) => zz_let (nI l + (1 : Int32)) (fun v12_63 => (f_X7_page_L207 N K row (nI s) (nI T) (nI p) (nI x) f v6_61 v7_62 v12_63))) (nI c) v7 = K (nI (c + e)) (fsT v7 p e) := fun h => by
      obtain ⟨e, e1, e2⟩ := ih (l + 1) f c v7 (by omega) (by omega)
      rw [es, h] at e1
      refine ⟨e, e1, ?_⟩
      dsimp only
      rw [zl_let, nI_1]
      exact e2
    rw [f_X7_page_L207_s, if_neg (show ¬ (26 : Int32) ≤ nI l from nI_ge (b := 26) (by omega) (by decide)), zl_let]
    by_cases c1 : l = x
    · rw [if_pos (show nI l = nI x by rw [c1])]
      refine no ?_
      unfold ocP
      rw [beq_iff_eq.mpr c1]
      rfl
    · rw [if_neg (show ¬ nI l = nI x from fun q => c1 ((nI_eq (by omega) (by omega)).mp q)), zl_gd (zl_inN (show l < 300 by omega) (by decide)), zl_cl (show l < 2 ^ 31 by omega), hn l hl2]
      by_cases c2 : 0 < aN a l
      · rw [if_neg (nI_nle c2 (by omega)), zl_gd (zl_inN (show x < 300 by omega) (by decide)), zl_cl (show x < 2 ^ 31 by omega), hn x hx]
        have et : ((nI T - nI (aN a x)) + nI (aN a l)).toInt = (T : Int) - aN a x + aN a l := by
          have e1 : (nI T - nI (aN a x)).toInt = (T : Int) - aN a x := pk_sub_toInt (by omega) (by omega)
          have e2 := nI_toInt (n := aN a l) (by omega)
          rw [fb_addI (by rw [e1, e2]; omega) (by rw [e1, e2]; omega), e1, e2]
        have eqv : ((nI T - nI (aN a x)) + nI (aN a l)) = nI s ↔ (aN a l : Int) = aN a x + ((s : Int) - T) := by
          rw [fa_eq, et, nI_toInt (by omega)]
          omega
        by_cases c3 : (aN a l : Int) = aN a x + ((s : Int) - T)
        · have h : ocP a ((s : Int) - T) x l = true := by
            unfold ocP
            rw [beq_eq_false_iff_ne.mpr c1, decide_eq_true c2, decide_eq_true c3]
            rfl
          rw [if_pos (eqv.mpr c3), zl_let, zl_let, nI_1]
          have go : ∃ e, ocC a ((s : Int) - T) x 26 = ocC a ((s : Int) - T) x l + e ∧ f_X7_page_L207 N K row (nI s) (nI T) (nI p) (nI x) f (nI (c + 1)) (fsT v7 p 1) (nI (l + 1)) = K (nI (c + e)) (fsT v7 p e) := by
            obtain ⟨e, e1, e2⟩ := ih (l + 1) f (c + 1) (fsT v7 p 1) (by omega) (by omega)
            rw [es, h, if_pos rfl] at e1
            refine ⟨1 + e, by omega, ?_⟩
            rw [e2, fsT_add (by omega), Nat.add_assoc]
          by_cases c4 : v7 = -1
          · rw [if_pos c4]
            dsimp only
            rw [zl_let, nI_1]
            have e7 : fsT v7 p 1 = nI p := by
              unfold fsT
              rw [if_pos c4, if_pos (by decide)]
            rw [e7] at go
            exact go
          · rw [if_neg c4]
            dsimp only
            rw [zl_let, nI_1]
            have e7 : fsT v7 p 1 = v7 := by
              unfold fsT
              rw [if_neg c4]
            rw [e7] at go
            exact go
        · rw [if_neg (fun q => c3 (eqv.mp q))]
          refine no ?_
          unfold ocP
          rw [decide_eq_false c3, Bool.and_false, Bool.and_false]
      · rw [if_pos (show nI (aN a l) ≤ 0 by rw [show aN a l = 0 by omega]; decide)]
        refine no ?_
        unfold ocP
        rw [decide_eq_false c2, Bool.false_and, Bool.and_false]
theorem p186 (N : Nat) (hN : 100000 ≤ N) {a : AW} {row : Nat → Int32} (hok : zOK a) (hn : ∀ i, i < 26 → row i = nI (aN a i)) {T s p : Nat} (hT : T ≤ 50000) (hs : s ≤ 9999) (hp : p < 16) (K : Int32 → Int32 → Option Int32) : ∀ (d f m c : Nat) (v7 : Int32), (zL m).length ≤ d → d < f → m < 2 ^ 63 → zDg (zL m) = true → f_X7_page_L186 N K row (nI s) (nI T) (nI p) f (nI c) v7 (lN m) = K (nI (c + wcC a ((s : Int) - T) (zL m))) (fsT v7 p (wcC a ((s : Int) - T) (zL m))) := by
  intro d
  induction d with
  | zero =>
    intro f m c v7 hd hf h2 _
    obtain ⟨f', rfl⟩ : ∃ f', f = f' + 1 := ⟨f - 1, by omega⟩
    have : m = 0 := by
      by_cases c : m = 0
      · exact c
      · rw [zL_s c h2, List.length_cons] at hd
        omega
    rw [this, f_X7_page_L186_s, if_pos (show lN 0 ≤ (0 : Int64) by decide), show wcC a ((s : Int) - T) (zL 0) = 0 from rfl, fsT_0]
    rfl
  | succ d ih =>
    intro f m c v7 hd hf h2 hD
    obtain ⟨f', rfl⟩ : ∃ f', f = f' + 1 := ⟨f - 1, by omega⟩
    rw [f_X7_page_L186_s]
    by_cases c0 : m = 0
    · rw [if_pos ((cd_pos h2).mpr c0), c0, show wcC a ((s : Int) - T) (zL 0) = 0 from rfl, fsT_0]
      rfl
    · rw [zL_s c0 h2, List.length_cons] at hd
      rw [zDg_s c0 h2, Bool.and_eq_true, Bool.not_eq_true', beq_eq_false_iff_ne] at hD
      have e : ((lN m - lN m / (27 : Int64) * (27 : Int64)).toInt32) - (1 : Int32) = nI (m % 27 - 1) := by
        rw [cd_rem h2, lN_i, show (1 : Int32) = nI 1 from rfl, pk_sub (by omega)]
      rw [if_neg (fun q => c0 ((cd_pos h2).mp q)), e, zl_let, zl_let]
      obtain ⟨z, z1, z2⟩ := p207 N hok hn hT hs hp (show m % 27 - 1 < 26 by omega) (fun (v6_64 : Int32) (v7_65 : Int32) => zz_let (lN m / (27 : Int64)) (fun v9_66 => (f_X7_page_L186 N K row (nI s) (nI T) (nI p) f' v6_64 v7_65 v9_66))) 26 0 N c v7 (by omega) (by omega)
      have z1' : ocC a ((s : Int) - T) (m % 27 - 1) 26 = z := by
        have : ocC a ((s : Int) - T) (m % 27 - 1) 0 = 0 := rfl
        omega
      rw [show f_X7_page_L207 N _ row (nI s) (nI T) (nI p) (nI (m % 27 - 1)) N (nI c) v7 0 = _ from z2, zl_let, cd_div h2, ih f' (m / 27) _ _ (by omega) (by omega) (by omega) hD.2, fsT_add (by omega), wcC_s a _ c0 h2, z1', Nat.add_assoc]
def pgW (a : AW) (m : Int32) (mis : Int) (j : Nat) : Nat := if bt m j = true then wcC a mis (zL (aW a j)) else 0
theorem p152 (N : Nat) (hN : 100000 ≤ N) {a : AW} {row : Nat → Int32} {w : Nat → Int64} (hok : zOK a) (hra : zRA a row w 0) {T s : Nat} (m : Int32) (hT : T ≤ 50000) (hs : s ≤ 9999) (K : Int32 → Int32 → Option Int32) : ∀ (d i f c : Nat) (v7 : Int32), i + d = aPC a → d < f → ∃ v7', f_X7_page_L152 N K row w m (nI s) (nI T) f (nI c) v7 (nI i) = K (nI (c + fb_sm (fun j => pgW a m ((s : Int) - T) (i + j)) d)) v7' ∧ (¬ v7 = -1 → v7' = v7) ∧ (v7 = -1 → (v7' = -1 ∧ ∀ j, i ≤ j → j < aPC a → pgW a m ((s : Int) - T) j = 0) ∨ ∃ j, i ≤ j ∧ j < aPC a ∧ 0 < pgW a m ((s : Int) - T) j ∧ (∀ k, i ≤ k → k < j → pgW a m ((s : Int) - T) k = 0) ∧ v7' = nI j) := by
  have hpc : aPC a ≤ 16 := hok.2.2.2.2.1
  have h38 : row (38 : Int32).toNatClampNeg = nI (aPC a) := hra.2.2.2.2.1
  intro d
  induction d with
  | zero =>
    intro i f c v7 hi hf
    obtain ⟨f', rfl⟩ : ∃ f', f = f' + 1 := ⟨f - 1, by omega⟩
    rw [f_X7_page_L152_s, h38, if_pos (nI_le (by omega) (by omega))]
    exact ⟨v7, rfl, fun _ => rfl, fun e => Or.inl ⟨e, fun j h1 h2 => by omega⟩⟩
  | succ d ih =>
    intro i f c v7 hi hf
    obtain ⟨f', rfl⟩ : ∃ f', f = f' + 1 := ⟨f - 1, by omega⟩
    have hi2 : i < aPC a := by omega
    obtain ⟨_, _, _, g3⟩ := zl_p55 hra hi2
    have hd := hok.2.2.2.2.2.1 i hi2
    have h63 := aW_63 hok hi2
    have hDg : zDg (zL (aW a i)) = true := by
      rcases hd.2.2.1 with q | q
      · rw [q]
        rfl
      · exact (isW_iff.mp q).2.2
    have esum : fb_sm (fun j => pgW a m ((s : Int) - T) (i + j)) (d + 1) = pgW a m ((s : Int) - T) i + fb_sm (fun j => pgW a m ((s : Int) - T) (i + 1 + j)) d := by
      rw [show d + 1 = 1 + d by omega, fb_sm_split]
      have e1 : fb_sm (fun k => pgW a m ((s : Int) - T) (i + k)) 1 = pgW a m ((s : Int) - T) i := by
        rw [fb_sm_succ]
        exact Nat.zero_add _
      have e2 : fb_sm (fun k => pgW a m ((s : Int) - T) (i + (1 + k))) d = fb_sm (fun k => pgW a m ((s : Int) - T) (i + 1 + k)) d := fb_sm_cong (fun k _ => by rw [show i + (1 + k) = i + 1 + k by omega])
      rw [e1, e2]
    rw [f_X7_page_L152_s, h38, if_neg (nI_ge (by omega) (by omega)), zl_b1 (has_eq (show i < 32 by omega)), zl_let, zl_gd (zl_inN (show i < 48 by omega) (by decide)), zl_cl (show i < 2 ^ 31 by omega), g3]
    have go : ∀ n, n < 2 ^ 63 → zDg (zL n) = true → wcC a ((s : Int) - T) (zL n) = pgW a m ((s : Int) - T) i → ∃ v7', zz_let (fun (v6_67 : Int32) (v7_68 : Int32) => zz_let (nI i + (1 : Int32)) (fun v8_69 => (f_X7_page_L152 N K row w m (nI s) (nI T) f' v6_67 v7_68 v8_69))) (fun k_40 => f_X7_page_L186 N k_40 row (nI s) (nI T) (nI i) N (nI c) v7 (lN n)) = K (nI (c + fb_sm (fun j => pgW a m ((s : Int) - T) (i + j)) (d + 1))) v7' ∧ (¬ v7 = -1 → v7' = v7) ∧ (v7 = -1 → (v7' = -1 ∧ ∀ j, i ≤ j → j < aPC a → pgW a m ((s : Int) - T) j = 0) ∨ ∃ j, i ≤ j ∧ j < aPC a ∧ 0 < pgW a m ((s : Int) - T) j ∧ (∀ k, i ≤ k → k < j → pgW a m ((s : Int) - T) k = 0) ∧ v7' = nI j) := fun n hn hnD he => by
      rw [zl_let, p186 N hN hok (zl_row0 hra) hT hs (show i < 16 by omega) _ 14 N n c v7 (zL_14 hn) (by omega) hn hnD, zl_let, nI_1, he]
      obtain ⟨v7', q1, q2, q3⟩ := ih (i + 1) f' (c + pgW a m ((s : Int) - T) i) (fsT v7 i (pgW a m ((s : Int) - T) i)) (by omega) (by omega)
      refine ⟨v7', ?_, fun h => ?_, fun h => ?_⟩
      · rw [q1, esum, Nat.add_assoc]
      · have e : fsT v7 i (pgW a m ((s : Int) - T) i) = v7 := by
          unfold fsT
          rw [if_neg h]
        rw [e] at q2
        exact q2 h
      · by_cases c5 : 0 < pgW a m ((s : Int) - T) i
        · have e : fsT v7 i (pgW a m ((s : Int) - T) i) = nI i := by
            unfold fsT
            rw [if_pos h, if_pos c5]
          rw [e] at q2
          exact Or.inr ⟨i, Nat.le_refl _, hi2, c5, fun k h1 h2 => by omega, q2 (zl_nm1 (by omega))⟩
        · have e : fsT v7 i (pgW a m ((s : Int) - T) i) = -1 := by
            unfold fsT
            rw [if_pos h, if_neg c5]
          rcases q3 e with ⟨r1, r2⟩ | ⟨j, j1, j2, j3, j4, j5⟩
          · refine Or.inl ⟨r1, fun j h1 h2 => ?_⟩
            by_cases e2 : j = i
            · rw [e2]
              omega
            · exact r2 j (by omega) h2
          · refine Or.inr ⟨j, by omega, j2, j3, fun k h1 h2 => ?_, j5⟩
            by_cases e2 : k = i
            · rw [e2]
              omega
            · exact j4 k (by omega) h2
    cases cb : bt m i with
    | false =>
      rw [if_pos (show (if false = true then (1 : Int32) else 0) = 0 from rfl)]
      refine go 0 (by decide) rfl ?_
      unfold pgW
      rw [cb]
      rfl
    | true =>
      rw [if_neg (show ¬ (if true = true then (1 : Int32) else 0) = 0 by decide)]
      refine go (aW a i) h63 hDg ?_
      unfold pgW
      rw [cb, if_pos rfl]
theorem p69 (N : Nat) (hN : 100000 ≤ N) {a : AW} {num : Nat → Int32} {words : Nat → Int64} (hok : zOK a) (hn : ∀ i, i < 26 → num i = nI (aN a i)) (hw : ∀ p, p < aPC a → words p = lN (aW a p)) {mis : Int} {m3 : Int32} (hm : m3.toInt = mis) (hm1 : -100000 ≤ mis) (hm2 : mis ≤ 100000) (m p3 : Int32) (hall : ∀ j, j < aPC a → bt m j = true → isW 9 (aW a j)) (K : Int32 → Option Int32) : ∀ (d i f c : Nat), i + d = aPC a → d < f → (¬ p3 = 1 → f_X6_page_L69 N K num words (nI (aPC a)) m p3 m3 f (nI c) (nI i) = K (nI (c + fb_sm (fun j => pgW a m mis (i + j)) d))) ∧ (p3 = 1 → ((∀ j, i ≤ j → j < aPC a → pgW a m mis j = 0) ∧ f_X6_page_L69 N K num words (nI (aPC a)) m p3 m3 f (nI c) (nI i) = K (nI c)) ∨ ∃ j, i ≤ j ∧ j < aPC a ∧ 0 < pgW a m mis j ∧ (∀ k, i ≤ k → k < j → pgW a m mis k = 0) ∧ f_X6_page_L69 N K num words (nI (aPC a)) m p3 m3 f (nI c) (nI i) = some (nI j)) := by
  have hpc : aPC a ≤ 16 := hok.2.2.2.2.1
  intro d
  induction d with
  | zero =>
    intro i f c hi hf
    obtain ⟨f', rfl⟩ : ∃ f', f = f' + 1 := ⟨f - 1, by omega⟩
    rw [f_X6_page_L69_s, if_pos (nI_le (by omega) (by omega))]
    exact ⟨fun _ => rfl, fun _ => Or.inl ⟨fun j h1 h2 => by omega, rfl⟩⟩
  | succ d ih =>
    intro i f c hi hf
    obtain ⟨f', rfl⟩ : ∃ f', f = f' + 1 := ⟨f - 1, by omega⟩
    have hi2 : i < aPC a := by omega
    have esum : fb_sm (fun j => pgW a m mis (i + j)) (d + 1) = pgW a m mis i + fb_sm (fun j => pgW a m mis (i + 1 + j)) d := by
      rw [show d + 1 = 1 + d by omega, fb_sm_split]
      have e1 : fb_sm (fun k => pgW a m mis (i + k)) 1 = pgW a m mis i := by
        rw [fb_sm_succ]
        exact Nat.zero_add _
      have e2 : fb_sm (fun k => pgW a m mis (i + (1 + k))) d = fb_sm (fun k => pgW a m mis (i + 1 + k)) d := fb_sm_cong (fun k _ => by rw [show i + (1 + k) = i + 1 + k by omega])
      rw [e1, e2]
    have hle : pgW a m mis i ≤ 1000 := by
      unfold pgW
      by_cases q : bt m i = true
      · rw [if_pos q]
        have h1 := wcC_le a mis (zL (aW a i))
        have h2 := zL_14 (aW_63 hok hi2)
        omega
      · rw [if_neg q]
        omega
    obtain ⟨i1, i2⟩ := ih (i + 1) f' (c + pgW a m mis i) (by omega) (by omega)
    have go : ∀ x, x = pgW a m mis i → (¬ p3 = 1 → zz_let (zz_let (nI c + nI x) (fun v5_22 => zz_let (nI i + (1 : Int32)) (fun v6_23 => (f_X6_page_L69 N K num words (nI (aPC a)) m p3 m3 f' v5_22 v6_23)))) (fun k_21 => (if nI x ≤ 0 then k_21 else (if p3 = (1 : Int32) then (some (nI i)) else k_21))) = K (nI (c + fb_sm (fun j => pgW a m mis (i + j)) (d + 1)))) ∧ (p3 = 1 → ((∀ j, i ≤ j → j < aPC a → pgW a m mis j = 0) ∧ zz_let (zz_let (nI c + nI x) (fun v5_22 => zz_let (nI i + (1 : Int32)) (fun v6_23 => (f_X6_page_L69 N K num words (nI (aPC a)) m p3 m3 f' v5_22 v6_23)))) (fun k_21 => (if nI x ≤ 0 then k_21 else (if p3 = (1 : Int32) then (some (nI i)) else k_21))) = K (nI c)) ∨ ∃ j, i ≤ j ∧ j < aPC a ∧ 0 < pgW a m mis j ∧ (∀ k, i ≤ k → k < j → pgW a m mis k = 0) ∧ zz_let (zz_let (nI c + nI x) (fun v5_22 => zz_let (nI i + (1 : Int32)) (fun v6_23 => (f_X6_page_L69 N K num words (nI (aPC a)) m p3 m3 f' v5_22 v6_23)))) (fun k_21 => (if nI x ≤ 0 then k_21 else (if p3 = (1 : Int32) then (some (nI i)) else k_21))) = some (nI j)) := fun x hx => by
      subst hx
      rw [zl_let, zl_let, zl_let, nI_1, nI_add]
      by_cases c5 : 0 < pgW a m mis i
      · rw [if_neg (nI_nle c5 (by omega))]
        refine ⟨fun h => ?_, fun h => Or.inr ⟨i, Nat.le_refl _, hi2, c5, fun k h1 h2 => by omega, ?_⟩⟩
        · rw [if_neg h, i1 h, esum, Nat.add_assoc]
        · rw [if_pos h]
      · rw [if_pos (show nI (pgW a m mis i) ≤ 0 by rw [show pgW a m mis i = 0 by omega]; decide)]
        refine ⟨fun h => ?_, fun h => ?_⟩
        · rw [i1 h, esum, Nat.add_assoc]
        · rcases i2 h with ⟨r1, r2⟩ | ⟨j, j1, j2, j3, j4, j5⟩
          · refine Or.inl ⟨fun j h1 h2 => ?_, ?_⟩
            · by_cases e : j = i
              · rw [e]
                omega
              · exact r1 j (by omega) h2
            · rw [r2, show pgW a m mis i = 0 by omega]
              rfl
          · refine Or.inr ⟨j, by omega, j2, j3, fun k h1 h2 => ?_, j5⟩
            by_cases e : k = i
            · rw [e]
              omega
            · exact j4 k (by omega) h2
    rw [f_X6_page_L69_s, if_neg (nI_ge (by omega) (by omega)), zl_let, b_bitv (show i < 32 by omega)]
    cases cb : bt m i with
    | false =>
      rw [if_pos (show (if false = true then (1 : Int32) else 0) = 0 from rfl)]
      refine go 0 ?_
      unfold pgW
      rw [cb]
      rfl
    | true =>
      rw [if_neg (show ¬ (if true = true then (1 : Int32) else 0) = 0 by decide), zl_gd (zl_inN (show i < 16 by omega) (by decide)), zl_cl (show i < 2 ^ 31 by omega), hw i hi2, zl_b1 (cb6 N hN hok hn hm hm1 hm2 (hall i hi2 cb))]
      refine go _ ?_
      unfold pgW
      rw [cb, if_pos rfl]
