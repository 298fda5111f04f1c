/-! ===== all names, laid in order ===== -/
theorem ad5 (N n : Nat) (hn : n ≤ 1110) (names : Nat → Int64) (v : Int64) (K : Int32 → Option ((Nat → Int64) × Int32)) : ∀ (d f : Nat), d < f → d ≤ n → (∀ i, d ≤ i → i < n → v.toInt < (names i).toInt) → ∃ p, p ≤ d ∧ f_X7_addName_L5 N K names v f (nI d) = K (nI p) ∧ (∀ i, p ≤ i → i < n → v.toInt < (names i).toInt) ∧ (p = 0 ∨ (names (p - 1)).toInt ≤ v.toInt) := by
  intro d
  induction d with
  | zero =>
    intro f hf hd h
    obtain ⟨f', rfl⟩ : ∃ f', f = f' + 1 := ⟨f - 1, by omega⟩
    rw [f_X7_addName_L5_s, if_pos (show nI 0 ≤ 0 by decide)]
    exact ⟨0, by omega, rfl, h, Or.inl rfl⟩
  | succ d ih =>
    intro f hf hd h
    obtain ⟨f', rfl⟩ : ∃ f', f = f' + 1 := ⟨f - 1, by omega⟩
    rw [f_X7_addName_L5_s, if_neg (nI_nle (by omega) (by omega)), nI_pred, zl_gd (zl_inN (show d < 1110 by omega) (by decide)), zl_cl (by omega)]
    by_cases c : names d ≤ v
    · rw [if_pos c]
      rw [fa_le64] at c
      exact ⟨d + 1, by omega, rfl, h, Or.inr (by rw [Nat.add_sub_cancel]; exact c)⟩
    · rw [if_neg c, zl_let, nI_dec]
      rw [fa_le64] at c
      obtain ⟨p, p1, p2, p3⟩ := ih f' (by omega) (by omega) (fun i hi hi2 => by
        by_cases e : i = d
        · rw [e]
          omega
        · exact h i (by omega) hi2)
      exact ⟨p, by omega, p2, p3⟩
theorem ad52 (N n p : Nat) (hn : n < 1110) (names : Nat → Int64) (K : (Nat → Int64) → Option ((Nat → Int64) × Int32)) : ∀ (d j f : Nat) (t : Nat → Int64), p + d = j → d < f → j ≤ n → (∀ i, i < j → t i = names i) → (∀ i, j < i → i ≤ n → t i = names (i - 1)) → ∃ t', f_X7_addName_L52 N K (nI p) f (nI j) t = K t' ∧ (∀ i, i < p → t' i = names i) ∧ ∀ i, p < i → i ≤ n → t' i = names (i - 1) := by
  intro d
  induction d with
  | zero =>
    intro j f t hj hf hjn h1 h2
    obtain ⟨f', rfl⟩ : ∃ f', f = f' + 1 := ⟨f - 1, by omega⟩
    have hj : j = p := by omega
    subst hj
    rw [f_X7_addName_L52_s, if_pos (nI_le (Nat.le_refl _) (by omega))]
    exact ⟨t, rfl, h1, h2⟩
  | succ d ih =>
    intro j f t hj hf hjn h1 h2
    obtain ⟨f', rfl⟩ : ∃ f', f = f' + 1 := ⟨f - 1, by omega⟩
    obtain ⟨j', rfl⟩ : ∃ j', j = j' + 1 := ⟨j - 1, by omega⟩
    rw [f_X7_addName_L52_s, if_neg (nI_ge (by omega) (by omega)), nI_pred, nI_dec, zl_gd (zl_inN (show j' < 1110 by omega) (by decide)), zl_gd (zl_inN (show j' + 1 < 1110 by omega) (by decide)), zl_let, zl_let, zl_cl (show j' < 2 ^ 31 by omega), zl_cl (show j' + 1 < 2 ^ 31 by omega), h1 j' (by omega)]
    refine ih j' f' _ (by omega) (by omega) (by omega) (fun i hi => ?_) (fun i hi hi2 => ?_)
    · rw [pk_uLn (by omega)]
      exact h1 i (by omega)
    · by_cases e : i = j' + 1
      · rw [e, pk_uLs]
        rfl
      · rw [pk_uLn e]
        exact h2 i (by omega) hi2
theorem ad_eq (N n : Nat) (hN : 100000 ≤ N) (hn : n < 1110) (names : Nat → Int64) (v : Int64) (hs : zSs names n) : ∃ names' n', f_X7_addName N names (nI n) v = some (names', nI n') ∧ n' ≤ n + 1 ∧ zSs names' n' ∧ ∀ u, zIn names' n' u ↔ (zIn names n u ∨ u = v) := by
  unfold f_X7_addName
  rw [zl_let]
  obtain ⟨p, p1, p2, p3, p4⟩ := ad5 N n (by omega) names v (fun (v3_7 : Int32) => zz_let (zz_let (fun (t_names_20 : Nat → Int64) => zz_gd (zz_in v3_7 1110) (zz_let (vp_updL t_names_20 v3_7.toNatClampNeg v) (fun t_names_22 => zz_let (nI n + (1 : Int32)) (fun t_nameMany_23 => (some (t_names_22, t_nameMany_23)))))) (fun k_12 => f_X7_addName_L52 N k_12 v3_7 N (nI n) names)) (fun k_11 => (if v3_7 ≤ 0 then k_11 else zz_gd (zz_in (v3_7 - (1 : Int32)) 1110) ((if (names (v3_7 - (1 : Int32)).toNatClampNeg) = v then (some (names, nI n)) else k_11))))) n N (by omega) (Nat.le_refl _) (fun i hi hi2 => by omega)
  rw [p2, zl_let]
  obtain ⟨t, t1, t2, t3⟩ := ad52 N n p hn names (fun (t_names_20 : Nat → Int64) => zz_gd (zz_in (nI p) 1110) (zz_let (vp_updL t_names_20 (nI p).toNatClampNeg v) (fun t_names_22 => zz_let (nI n + (1 : Int32)) (fun t_nameMany_23 => (some (t_names_22, t_nameMany_23)))))) (n - p) n N names (by omega) (by omega) (Nat.le_refl _) (fun _ _ => rfl) (fun i hi hi2 => by omega)
  have put : (p = 0 ∨ (names (p - 1)).toInt < v.toInt) → ∃ names' n', zz_let (fun (t_names_20 : Nat → Int64) => zz_gd (zz_in (nI p) 1110) (zz_let (vp_updL t_names_20 (nI p).toNatClampNeg v) (fun t_names_22 => zz_let (nI n + (1 : Int32)) (fun t_nameMany_23 => (some (t_names_22, t_nameMany_23)))))) (fun k_12 => f_X7_addName_L52 N k_12 (nI p) N (nI n) names) = some (names', nI n') ∧ n' ≤ n + 1 ∧ zSs names' n' ∧ ∀ u, zIn names' n' u ↔ (zIn names n u ∨ u = v) := fun hlt => by
    rw [zl_let, t1, zl_gd (zl_inN (show p < 1110 by omega) (by decide)), zl_let, zl_let, nI_1, zl_cl (by omega)]
    refine ⟨_, n + 1, rfl, Nat.le_refl _, fun i j hij hj => ?_, fun u => ?_⟩
    · by_cases e1 : j = p
      · subst e1
        rw [pk_uLs, pk_uLn (by omega), t2 i hij]
        rcases hlt with q | q
        · omega
        · by_cases e2 : i = j - 1
          · rw [e2]
            exact q
          · have := hs i (j - 1) (by omega) (by omega)
            omega
      · rw [pk_uLn e1]
        by_cases e2 : i = p
        · subst e2
          rw [pk_uLs, t3 j hij (by omega)]
          exact p3 (j - 1) (by omega) (by omega)
        · rw [pk_uLn e2]
          by_cases e3 : i < p
          · rw [t2 i e3]
            by_cases e4 : j < p
            · rw [t2 j e4]
              exact hs i j hij (by omega)
            · rw [t3 j (by omega) (by omega)]
              exact hs i (j - 1) (by omega) (by omega)
          · rw [t3 i (by omega) (by omega), t3 j (by omega) (by omega)]
            exact hs (i - 1) (j - 1) (by omega) (by omega)
    · constructor
      · rintro ⟨i, i1, i2⟩
        by_cases e1 : i = p
        · rw [e1, pk_uLs] at i2
          exact Or.inr i2.symm
        · rw [pk_uLn e1] at i2
          by_cases e2 : i < p
          · rw [t2 i e2] at i2
            exact Or.inl ⟨i, by omega, i2⟩
          · rw [t3 i (by omega) (by omega)] at i2
            exact Or.inl ⟨i - 1, by omega, i2⟩
      · rintro (⟨i, i1, i2⟩ | e)
        · by_cases e2 : i < p
          · exact ⟨i, by omega, by rw [pk_uLn (by omega), t2 i e2]; exact i2⟩
          · exact ⟨i + 1, by omega, by rw [pk_uLn (by omega), t3 (i + 1) (by omega) (by omega), Nat.add_sub_cancel]; exact i2⟩
        · exact ⟨p, by omega, by rw [pk_uLs, e]⟩
  by_cases c : p = 0
  · rw [if_pos (show nI p ≤ 0 by rw [c]; decide)]
    exact put (Or.inl c)
  · rw [if_neg (nI_nle (by omega) (by omega)), show (1 : Int32) = nI 1 from rfl, pk_sub (show 1 ≤ p by omega), zl_gd (zl_inN (show p - 1 < 1110 by omega) (by decide)), zl_cl (show p - 1 < 2 ^ 31 by omega)]
    by_cases c2 : names (p - 1) = v
    · rw [if_pos c2]
      refine ⟨names, n, rfl, by omega, hs, fun u => ⟨Or.inl, ?_⟩⟩
      rintro (q | q)
      · exact q
      · exact ⟨p - 1, by omega, by rw [c2, q]⟩
    · rw [if_neg c2]
      refine put (Or.inr ?_)
      have h8 : (names (p - 1)).toInt ≠ v.toInt := fun e => c2 ((fa_eq64 _ _).mpr e)
      rcases p4 with q | q
      · omega
      · omega
theorem sy_D {a : AW} (hok : zOK a) {y : Nat} (h : isSy a y) : zDg (zL y) = true := (isW_iff.mp (sy_w hok h)).2.2
theorem ln88 (N : Nat) (hN : 100000 ≤ N) {a : AW} {row : Nat → Int32} {w : Nat → Int64} (hok : zOK a) (hra : zRA a row w 0) {r : Nat} (K : (Nat → Int64) → (Int32) → Option ((Nat → Int64) × (Int32))) : ∀ (d i f n : Nat) (names : Nat → Int64), i + d = aSC a → d < f → n + d ≤ 1110 → zSs names n → ∃ names' n', f_X7_layNames_L88 N K row (nI (aSC a)) (lN r) f (nI i) names (nI n) = K names' (nI n') ∧ n' ≤ n + d ∧ zSs names' n' ∧ ∀ u, zIn names' n' u ↔ (zIn names n u ∨ ∃ t, i ≤ t ∧ t < aSC a ∧ aB a (aS a t) = true ∧ u = lN (jn r (aS a t))) := by
  have hsc : aSC a ≤ 10 := hok.2.1
  intro d
  induction d with
  | zero =>
    intro i f n names hi hf hn hs
    obtain ⟨f', rfl⟩ : ∃ f', f = f' + 1 := ⟨f - 1, by omega⟩
    rw [f_X7_layNames_L88_s, if_pos (nI_le (by omega) (by omega))]
    refine ⟨names, n, rfl, by omega, hs, fun u => ⟨Or.inl, ?_⟩⟩
    rintro (q | ⟨t, t1, t2, _⟩)
    · exact q
    · omega
  | succ d ih =>
    intro i f n names hi hf hn hs
    obtain ⟨f', rfl⟩ : ∃ f', f = f' + 1 := ⟨f - 1, by omega⟩
    have hi3 : i < aSC a := by omega
    have hsy : isSy a (aS a i) := ⟨i, hi3, rfl⟩
    have h63 := sy_63 hok hsy
    rw [f_X7_layNames_L88_s, if_neg (nI_ge hi3 (by omega)), show (27 : Int32) = nI 27 from rfl, nI_add, zl_gd (zl_inN (show 27 + i < 300 by omega) (by decide)), zl_cl (show 27 + i < 2 ^ 31 by omega), zl_row27 hok hra hi3, zl_b1 (ba_eq N hN hok (zl_row0 hra) h63 (sy_D hok hsy)), zl_let]
    cases c : aB a (aS a i) with
    | false =>
      rw [if_neg (show ¬ false = true by decide), if_pos rfl]
      dsimp only
      rw [zl_let, nI_1]
      obtain ⟨names', n', r1, r2, r3, r4⟩ := ih (i + 1) f' n names (by omega) (by omega) (by omega) hs
      refine ⟨names', n', r1, by omega, r3, fun u => (r4 u).trans (or_congr Iff.rfl ?_)⟩
      constructor
      · rintro ⟨t, t1, t2⟩
        exact ⟨t, by omega, t2⟩
      · rintro ⟨t, t1, t2, t3, t4⟩
        refine ⟨t, ?_, t2, t3, t4⟩
        by_cases e : t = i
        · rw [e, c] at t3
          cases t3
        · omega
    | true =>
      obtain ⟨n1, k1, a1, a2, a3, a4⟩ := ad_eq N n hN (by omega) names (lN (jn r (aS a i))) hs
      rw [if_pos rfl, if_neg (show ¬ (1 : Int32) = 0 by decide), zl_b1 (jn_eq N hN r h63), zl_b2 a1]
      dsimp only
      rw [zl_let, nI_1]
      obtain ⟨names', n', r1, r2, r3, r4⟩ := ih (i + 1) f' k1 n1 (by omega) (by omega) (by omega) a3
      refine ⟨names', n', r1, by omega, r3, fun u => ?_⟩
      rw [r4 u, a4 u]
      constructor
      · rintro ((q | q) | ⟨t, t1, t2⟩)
        · exact Or.inl q
        · exact Or.inr ⟨i, by omega, hi3, c, q⟩
        · exact Or.inr ⟨t, by omega, t2⟩
      · rintro (q | ⟨t, t1, t2, t3, t4⟩)
        · exact Or.inl (Or.inl q)
        · by_cases e : t = i
          · rw [e] at t4
            exact Or.inl (Or.inr t4)
          · exact Or.inr ⟨t, by omega, t2, t3, t4⟩
theorem ln47 (N : Nat) (hN : 100000 ≤ N) {a : AW} {row : Nat → Int32} {w : Nat → Int64} (hok : zOK a) (hra : zRA a row w 0) {x : Nat} (hx : isSy a x) (K : (Nat → Int64) → (Int32) → Option ((Nat → Int64) × (Int32))) : ∀ (d i f n : Nat) (names : Nat → Int64), i + d = aSC a → d < f → n + 11 * d ≤ 1110 → zSs names n → ∃ names' n', f_X7_layNames_L47 N K row (nI (aSC a)) (lN x) f (nI i) names (nI n) = K names' (nI n') ∧ n' ≤ n + 11 * d ∧ zSs names' n' ∧ ∀ u, zIn names' n' u ↔ (zIn names n u ∨ ∃ t, i ≤ t ∧ t < aSC a ∧ aB a (jn x (aS a t)) = true ∧ (u = lN (jn x (aS a t)) ∨ ∃ k, k < aSC a ∧ aB a (aS a k) = true ∧ u = lN (jn (jn x (aS a t)) (aS a k)))) := by
  have hsc : aSC a ≤ 10 := hok.2.1
  intro d
  induction d with
  | zero =>
    intro i f n names hi hf hn hs
    obtain ⟨f', rfl⟩ : ∃ f', f = f' + 1 := ⟨f - 1, by omega⟩
    rw [f_X7_layNames_L47_s, if_pos (nI_le (by omega) (by omega))]
    refine ⟨names, n, rfl, by omega, hs, fun u => ⟨Or.inl, ?_⟩⟩
    rintro (q | ⟨t, t1, t2, _⟩)
    · exact q
    · omega
  | succ d ih =>
    intro i f n names hi hf hn hs
    obtain ⟨f', rfl⟩ : ∃ f', f = f' + 1 := ⟨f - 1, by omega⟩
    have hi3 : i < aSC a := by omega
    have hsy : isSy a (aS a i) := ⟨i, hi3, rfl⟩
    have h63 := sy_63 hok hsy
    have hj := (jn_63 hok hx hsy).1
    have hDg : zDg (zL (jn x (aS a i))) = true := by
      rw [zDg_jn h63 hj, sy_D hok hsy, sy_D hok hx]
      rfl
    rw [f_X7_layNames_L47_s, if_neg (nI_ge hi3 (by omega)), show (27 : Int32) = nI 27 from rfl, nI_add, zl_gd (zl_inN (show 27 + i < 300 by omega) (by decide)), zl_cl (show 27 + i < 2 ^ 31 by omega), zl_row27 hok hra hi3, zl_b1 (jn_eq N hN x h63), zl_b1 (ba_eq N hN hok (zl_row0 hra) hj hDg), zl_let]
    cases c : aB a (jn x (aS a i)) with
    | false =>
      rw [if_neg (show ¬ false = true by decide), if_pos rfl]
      dsimp only
      rw [zl_let, nI_1]
      obtain ⟨names', n', r1, r2, r3, r4⟩ := ih (i + 1) f' n names (by omega) (by omega) (by omega) hs
      refine ⟨names', n', r1, by omega, r3, fun u => (r4 u).trans (or_congr Iff.rfl ?_)⟩
      constructor
      · rintro ⟨t, t1, t2⟩
        exact ⟨t, by omega, t2⟩
      · rintro ⟨t, t1, t2, t3, t4⟩
        refine ⟨t, ?_, t2, t3, t4⟩
        by_cases e : t = i
        · rw [e, c] at t3
          cases t3
        · omega
    | true =>
      obtain ⟨n1, k1, a1, a2, a3, a4⟩ := ad_eq N n hN (by omega) names (lN (jn x (aS a i))) hs
      rw [if_pos rfl, if_neg (show ¬ (1 : Int32) = 0 by decide), zl_b2 a1, zl_let]
      obtain ⟨n2, k2, b1, b2, b3, b4⟩ := ln88 N hN hok hra (r := jn x (aS a i)) (fun (t_names_39 : Nat → Int64) (t_nameMany_40 : Int32) => (fun (t_names_42 : Nat → Int64) (t_nameMany_43 : Int32) => zz_let (nI i + (1 : Int32)) (fun v5_44 => (f_X7_layNames_L47 N K row (nI (aSC a)) (lN x) f' v5_44 t_names_42 t_nameMany_43))) t_names_39 t_nameMany_40) (aSC a) 0 N k1 n1 (by omega) (by omega) (by omega) a3
      have b1' := b1
      rw [show nI 0 = (0 : Int32) from rfl] at b1'
      rw [b1']
      dsimp only
      rw [zl_let, nI_1]
      obtain ⟨names', n', r1, r2, r3, r4⟩ := ih (i + 1) f' k2 n2 (by omega) (by omega) (by omega) b3
      refine ⟨names', n', r1, by omega, r3, fun u => ?_⟩
      rw [r4 u, b4 u, a4 u]
      constructor
      · rintro (((q | q) | ⟨t, _, t1, t2, t3⟩) | ⟨t, t1, t2⟩)
        · exact Or.inl q
        · exact Or.inr ⟨i, by omega, hi3, c, Or.inl q⟩
        · exact Or.inr ⟨i, by omega, hi3, c, Or.inr ⟨t, t1, t2, t3⟩⟩
        · exact Or.inr ⟨t, by omega, t2⟩
      · rintro (q | ⟨t, t1, t2, t3, t4⟩)
        · exact Or.inl (Or.inl (Or.inl q))
        · by_cases e : t = i
          · rw [e] at t4
            rcases t4 with t4 | ⟨k, k1, k2, k3⟩
            · exact Or.inl (Or.inl (Or.inr t4))
            · exact Or.inl (Or.inr ⟨k, by omega, k1, k2, k3⟩)
          · exact Or.inr ⟨t, by omega, t2, t3, t4⟩
theorem ln15 (N : Nat) (hN : 100000 ≤ N) {a : AW} {row : Nat → Int32} {w : Nat → Int64} (hok : zOK a) (hra : zRA a row w 0) (K : (Nat → Int64) → (Int32) → Option ((Nat → Int64) × (Int32))) : ∀ (d i f n : Nat) (names : Nat → Int64), i + d = aSC a → d < f → n + 111 * d ≤ 1110 → zSs names n → ∃ names' n', f_X7_layNames_L15 N K row (nI (aSC a)) f (nI i) names (nI n) = K names' (nI n') ∧ n' ≤ n + 111 * d ∧ zSs names' n' ∧ ∀ u, zIn names' n' u ↔ (zIn names n u ∨ ∃ s, i ≤ s ∧ s < aSC a ∧ aB a (aS a s) = true ∧ (u = lN (aS a s) ∨ ∃ t, t < aSC a ∧ aB a (jn (aS a s) (aS a t)) = true ∧ (u = lN (jn (aS a s) (aS a t)) ∨ ∃ k, k < aSC a ∧ aB a (aS a k) = true ∧ u = lN (jn (jn (aS a s) (aS a t)) (aS a k))))) := by
  have hsc : aSC a ≤ 10 := hok.2.1
  intro d
  induction d with
  | zero =>
    intro i f n names hi hf hn hs
    obtain ⟨f', rfl⟩ : ∃ f', f = f' + 1 := ⟨f - 1, by omega⟩
    rw [f_X7_layNames_L15_s, if_pos (nI_le (by omega) (by omega))]
    refine ⟨names, n, rfl, by omega, hs, fun u => ⟨Or.inl, ?_⟩⟩
    rintro (q | ⟨t, t1, t2, _⟩)
    · exact q
    · omega
  | succ d ih =>
    intro i f n names hi hf hn hs
    obtain ⟨f', rfl⟩ : ∃ f', f = f' + 1 := ⟨f - 1, by omega⟩
    have hi3 : i < aSC a := by omega
    have hsy : isSy a (aS a i) := ⟨i, hi3, rfl⟩
    have h63 := sy_63 hok hsy
    rw [f_X7_layNames_L15_s, if_neg (nI_ge hi3 (by omega)), show (27 : Int32) = nI 27 from rfl, nI_add, zl_gd (zl_inN (show 27 + i < 300 by omega) (by decide)), zl_let, zl_cl (show 27 + i < 2 ^ 31 by omega), zl_row27 hok hra hi3, zl_b1 (ba_eq N hN hok (zl_row0 hra) h63 (sy_D hok hsy)), zl_let]
    cases c : aB a (aS a i) with
    | false =>
      rw [if_neg (show ¬ false = true by decide), if_pos rfl]
      dsimp only
      rw [zl_let, nI_1]
      obtain ⟨names', n', r1, r2, r3, r4⟩ := ih (i + 1) f' n names (by omega) (by omega) (by omega) hs
      refine ⟨names', n', r1, by omega, r3, fun u => (r4 u).trans (or_congr Iff.rfl ?_)⟩
      constructor
      · rintro ⟨t, t1, t2⟩
        exact ⟨t, by omega, t2⟩
      · rintro ⟨t, t1, t2, t3, t4⟩
        refine ⟨t, ?_, t2, t3, t4⟩
        by_cases e : t = i
        · rw [e, c] at t3
          cases t3
        · omega
    | true =>
      obtain ⟨n1, k1, a1, a2, a3, a4⟩ := ad_eq N n hN (by omega) names (lN (aS a i)) hs
      rw [if_pos rfl, if_neg (show ¬ (1 : Int32) = 0 by decide), zl_b2 a1, zl_let]
      obtain ⟨n2, k2, b1, b2, b3, b4⟩ := ln47 N hN hok hra hsy (fun (t_names_45 : Nat → Int64) (t_nameMany_46 : Int32) => (fun (t_names_48 : Nat → Int64) (t_nameMany_49 : Int32) => zz_let (nI i + (1 : Int32)) (fun v2_50 => (f_X7_layNames_L15 N K row (nI (aSC a)) f' v2_50 t_names_48 t_nameMany_49))) t_names_45 t_nameMany_46) (aSC a) 0 N k1 n1 (by omega) (by omega) (by omega) a3
      have b1' := b1
      rw [show nI 0 = (0 : Int32) from rfl] at b1'
      rw [b1']
      dsimp only
      rw [zl_let, nI_1]
      obtain ⟨names', n', r1, r2, r3, r4⟩ := ih (i + 1) f' k2 n2 (by omega) (by omega) (by omega) b3
      refine ⟨names', n', r1, by omega, r3, fun u => ?_⟩
      rw [r4 u, b4 u, a4 u]
      constructor
      · rintro (((q | q) | ⟨t, _, t1, t2, t3⟩) | ⟨t, t1, t2⟩)
        · exact Or.inl q
        · exact Or.inr ⟨i, by omega, hi3, c, Or.inl q⟩
        · exact Or.inr ⟨i, by omega, hi3, c, Or.inr ⟨t, t1, t2, t3⟩⟩
        · exact Or.inr ⟨t, by omega, t2⟩
      · rintro (q | ⟨t, t1, t2, t3, t4⟩)
        · exact Or.inl (Or.inl (Or.inl q))
        · by_cases e : t = i
          · rw [e] at t4
            rcases t4 with t4 | ⟨k, k1, k2, k3⟩
            · exact Or.inl (Or.inl (Or.inr t4))
            · exact Or.inl (Or.inr ⟨k, by omega, k1, k2, k3⟩)
          · exact Or.inr ⟨t, by omega, t2, t3, t4⟩
theorem ns_eq (N : Nat) (hN : 100000 ≤ N) {a : AW} {row : Nat → Int32} {w : Nat → Int64} (hok : zOK a) (hra : zRA a row w 0) (names : Nat → Int64) : ∃ names' n', f_X7_layNames N row names = some (names', nI n') ∧ n' ≤ 1110 ∧ zSs names' n' ∧ ∀ u, zIn names' n' u ↔ ∃ y, u = lN y ∧ (aB a y = true ∧ aNm a y) := by
  have hsc : aSC a ≤ 10 := hok.2.1
  have h26 : row (26 : Int32).toNatClampNeg = nI (aSC a) := hra.2.1
  unfold f_X7_layNames
  rw [zl_let, zl_let, h26]
  obtain ⟨names', n', r1, r2, r3, r4⟩ := ln15 N hN hok hra (fun (t_names_51 : Nat → Int64) (t_nameMany_52 : Int32) => (some (t_names_51, t_nameMany_52))) (aSC a) 0 N 0 names (by omega) (by omega) (by omega) (fun a b hab hb => by omega)
  refine ⟨names', n', r1, by omega, r3, fun u => ?_⟩
  rw [r4 u]
  constructor
  · rintro (⟨i, i1, _⟩ | ⟨s, _, s1, s2, q⟩)
    · omega
    · have ss : isSy a (aS a s) := ⟨s, s1, rfl⟩
      rcases q with q | ⟨t, t1, t2, q⟩
      · exact ⟨_, q, s2, s, s, s, s1, s1, s1, Or.inl rfl⟩
      · have st : isSy a (aS a t) := ⟨t, t1, rfl⟩
        rcases q with q | ⟨k, k1, k2, q⟩
        · exact ⟨_, q, t2, s, t, t, s1, t1, t1, Or.inr (Or.inl rfl)⟩
        · have sk : isSy a (aS a k) := ⟨k, k1, rfl⟩
          refine ⟨_, q, ?_, s, t, k, s1, t1, k1, Or.inr (Or.inr rfl)⟩
          rw [aB_jn (sy_63 hok sk) (jn3_63 hok ss st sk).1, k2, t2]
          rfl
  · rintro ⟨y, q, hB, i, j, k, i1, j1, k1, h⟩
    have si : isSy a (aS a i) := ⟨i, i1, rfl⟩
    have sj : isSy a (aS a j) := ⟨j, j1, rfl⟩
    have sk : isSy a (aS a k) := ⟨k, k1, rfl⟩
    refine Or.inr ⟨i, by omega, i1, ?_⟩
    rcases h with rfl | rfl | rfl
    · exact ⟨hB, Or.inl q⟩
    · have hB' := hB
      rw [aB_jn (sy_63 hok sj) (jn_63 hok si sj).1, Bool.and_eq_true] at hB'
      exact ⟨hB'.2, Or.inr ⟨j, j1, hB, Or.inl q⟩⟩
    · rw [aB_jn (sy_63 hok sk) (jn3_63 hok si sj sk).1, Bool.and_eq_true] at hB
      have hB' := hB.2
      rw [aB_jn (sy_63 hok sj) (jn_63 hok si sj).1, Bool.and_eq_true] at hB'
      exact ⟨hB'.2, Or.inr ⟨j, j1, hB.2, Or.inr ⟨k, k1, hB.1, q⟩⟩⟩
