/-! ===== all names for a day: gathered ===== -/
theorem zL_jn : ∀ (l x y : Nat), (zL y).length = l → y < 2 ^ 63 → jn x y < 2 ^ 63 → zL (jn x y) = zL y ++ zL x := by
  intro l
  induction l with
  | zero =>
    intro x y hl hy _
    have : y = 0 := by
      by_cases c : y = 0
      · exact c
      · rw [zL_s c hy, List.length_cons] at hl
        omega
    subst this
    show zL (x * 27 ^ 0 + 0) = [] ++ zL x
    rw [Nat.pow_zero, Nat.mul_one, Nat.add_zero, List.nil_append]
  | succ l ih =>
    intro x y hl hy hj
    have c : y ≠ 0 := by
      intro c
      rw [c] at hl
      cases hl
    have hl2 : (zL (y / 27)).length = l := by
      rw [zL_s c hy, List.length_cons] at hl
      omega
    have e : jn x y = 27 * (x * 27 ^ l) + y := by
      unfold jn
      rw [hl, Nat.pow_succ, ← Nat.mul_assoc, Nat.mul_comm _ 27]
    have e2 : jn x (y / 27) = x * 27 ^ l + y / 27 := by
      unfold jn
      rw [hl2]
    have h1 : jn x y % 27 = y % 27 := by omega
    have h2 : jn x y / 27 = jn x (y / 27) := by omega
    rw [zL_s (by omega) hj, zL_s c hy, h1, h2, ih x (y / 27) hl2 (by omega) (by omega)]
    rfl
theorem aB_jn {a : AW} {x y : Nat} (hy : y < 2 ^ 63) (hj : jn x y < 2 ^ 63) : aB a (jn x y) = (aB a y && aB a x) := by
  unfold aB
  rw [zL_jn _ x y rfl hy hj, List.all_append]
theorem aSum_jn {a : AW} {x y : Nat} (hy : y < 2 ^ 63) (hj : jn x y < 2 ^ 63) : aSum a (jn x y) = aSum a y + aSum a x := by
  unfold aSum
  rw [zL_jn _ x y rfl hy hj, aV_app]
theorem zDg_jn {x y : Nat} (hy : y < 2 ^ 63) (hj : jn x y < 2 ^ 63) : zDg (zL (jn x y)) = (zDg (zL y) && zDg (zL x)) := by
  unfold zDg
  rw [zL_jn _ x y rfl hy hj, List.all_append]
def wan (D : Nat) (dv : Bool) (s : Nat) : Prop := s = D ∨ (dv = true ∧ 0 < s ∧ D % s = 0)
theorem wan_le {D : Nat} {dv : Bool} {s : Nat} (hD : 1 ≤ D) (h : wan D dv s) : s ≤ D := by
  rcases h with h | ⟨_, h1, h2⟩
  · omega
  · exact Nat.le_of_dvd (by omega) (Nat.dvd_of_mod_eq_zero h2)
abbrev zBo (b : Bool) : Int32 := if b = true then 1 else 0
theorem aw_eq (N : Nat) {f : Nat → Int64} {s D sm : Nat} {dv : Bool} (v : Int64) (hs : s < 1110) (hD : D ≤ 400) (hsm : sm ≤ 400) : (wan D dv sm ∧ f_X0_addIfWanted N f (nI s) (nI D) (zBo dv) v (nI sm) = some (vp_updL f s v, nI (s + 1))) ∨ (¬ wan D dv sm ∧ f_X0_addIfWanted N f (nI s) (nI D) (zBo dv) v (nI sm) = some (f, nI s)) := by
  have yes : (fun (q_7 : Int32) => (if q_7 = 0 then (some (f, nI s)) else (if (1110 : Int32) ≤ nI s then (some (f, nI s)) else zz_gd (zz_in (nI s) 1110) (zz_let (vp_updL f (nI s).toNatClampNeg v) (fun t_codes_11 => zz_let (nI s + (1 : Int32)) (fun t_size_12 => (some (t_codes_11, t_size_12)))))))) 1 = some (vp_updL f s v, nI (s + 1)) := by
    dsimp only
    rw [if_neg (show ¬ (1 : Int32) = 0 by decide), if_neg (show ¬ (1110 : Int32) ≤ nI s from nI_ge (b := 1110) hs (by decide)), zl_gd (zl_inN hs (by decide)), zl_let, zl_let, nI_1, zl_cl (by omega)]
  unfold f_X0_addIfWanted
  rw [zl_let]
  by_cases c1 : sm = D
  · rw [if_pos (show nI sm = nI D by rw [c1])]
    exact Or.inl ⟨Or.inl c1, yes⟩
  · rw [if_neg (show ¬ nI sm = nI D from fun q => c1 ((nI_eq (by omega) (by omega)).mp q))]
    cases dv with
    | false =>
      rw [if_pos (show zBo false = 0 from rfl)]
      refine Or.inr ⟨?_, rfl⟩
      rintro (q | q)
      · exact c1 q
      · cases q.1
    | true =>
      rw [if_neg (show ¬ zBo true = 0 by decide)]
      by_cases c2 : sm = 0
      · rw [if_pos (show nI sm ≤ 0 by rw [c2]; decide)]
        refine Or.inr ⟨?_, rfl⟩
        rintro (q | q)
        · exact c1 q
        · omega
      · rw [if_neg (nI_nle (by omega) (by omega)), zl_gd (show zz_nz (nI sm) = true from decide_eq_true (nI_ne0 (by omega) (by omega))), pk_rem (by omega) (by omega) (by omega)]
        by_cases c3 : D % sm = 0
        · rw [if_pos (show nI (D % sm) = 0 by rw [c3]; rfl)]
          exact Or.inl ⟨Or.inr ⟨rfl, by omega, c3⟩, yes⟩
        · rw [if_neg (nI_ne0 (by omega) (Nat.lt_of_le_of_lt (Nat.mod_le _ _) (by omega)))]
          refine Or.inr ⟨?_, rfl⟩
          rintro (q | q)
          · exact c1 q
          · exact c3 q.2.2
theorem sh_loop (N : Nat) {y : Nat} (hy : y < 2 ^ 63) (h3 : (zL y).length ≤ 3) (K : Int64 → Option Int64) : ∀ (d c f : Nat), c + d = 3 → d < f → 1 ≤ c → c ≤ (zL y).length → f_X0_shiftOf_L7 N K (lN y) f (lN (27 ^ c)) (nI c) = K (lN (27 ^ (zL y).length)) := by
  intro d
  induction d with
  | zero =>
    intro c f hc hf h1 hl
    obtain ⟨f', rfl⟩ : ∃ f', f = f' + 1 := ⟨f - 1, by omega⟩
    rw [f_X0_shiftOf_L7_s, if_pos (show (3 : Int32) ≤ nI c from nI_le (a := 3) (by omega) (by omega)), show (zL y).length = c by omega]
  | succ d ih =>
    intro c f hc hf h1 hl
    obtain ⟨f', rfl⟩ : ∃ f', f = f' + 1 := ⟨f - 1, by omega⟩
    have hp1 : 27 ^ c ≤ 27 ^ 3 := Nat.pow_le_pow_right (by decide) (by omega)
    have hp2 : 27 ^ c < 2 ^ 63 := Nat.lt_of_le_of_lt hp1 (by decide)
    rw [f_X0_shiftOf_L7_s, if_neg (show ¬ (3 : Int32) ≤ nI c from nI_ge (b := 3) (by omega) (by omega))]
    by_cases e : y < 27 ^ c
    · have := zL_lt e hy
      rw [if_pos ((pk_lLT hy hp2).mpr e), show (zL y).length = c by omega]
    · have := zL_ge (f := c) (n := y) (by omega) hy
      rw [if_neg (fun q => e ((pk_lLT hy hp2).mp q)), zl_let, zl_let, nI_1, show (27 : Int64) = lN 27 from rfl, lN_mul, ← Nat.pow_succ]
      exact ih (c + 1) f' (by omega) (by omega) (by omega) (by omega)
theorem sh_eq (N : Nat) (hN : 100000 ≤ N) {y : Nat} (hy : y < 2 ^ 63) (h1 : 1 ≤ (zL y).length) (h3 : (zL y).length ≤ 3) : f_X0_shiftOf N (lN y) = some (lN (27 ^ (zL y).length)) := by
  unfold f_X0_shiftOf
  rw [zl_let]
  exact sh_loop N hy h3 (fun v => some v) 2 1 N (by omega) (by omega) (by omega) h1
def zPt (a : AW) (pc ps : Nat → Int64) (pm : Nat → Int32) (k i : Nat) (q : Nat → Nat) : Prop := k ≤ i ∧ (∀ j, j < k → pc j = lN (q j) ∧ ps j = lN (27 ^ (zL (q j)).length) ∧ pm j = nI (aSum a (q j)) ∧ isSy a (q j) ∧ aB a (q j) = true) ∧ ∀ t, t < i → aB a (aS a t) = true → ∃ j, j < k ∧ q j = aS a t
theorem fp_loop (N : Nat) (hN : 100000 ≤ N) {a : AW} {num : Nat → Int32} {syl : Nat → Int64} (hok : zOK a) (hn : ∀ i, i < 26 → num i = nI (aN a i)) (hs : ∀ i, i < aSC a → syl i = lN (aS a i)) (K : (Nat → Int64) → (Nat → Int64) → (Nat → Int32) → (Int32) → Option ((Nat → Int64) × (Nat → Int64) × (Nat → Int32) × (Int32))) : ∀ (d i f k : Nat) (pc ps : Nat → Int64) (pm : Nat → Int32) (q : Nat → Nat), i + d = aSC a → d < f → zPt a pc ps pm k i q → ∃ pc' ps' pm' k' q', f_X0_findParts_L7 N K num syl (nI (aSC a)) f (nI i) pc ps pm (nI k) = K pc' ps' pm' (nI k') ∧ zPt a pc' ps' pm' k' (aSC a) q' := by
  have hsc : aSC a ≤ 10 := hok.2.1
  intro d
  induction d with
  | zero =>
    intro i f k pc ps pm q hi hf h
    obtain ⟨f', rfl⟩ : ∃ f', f = f' + 1 := ⟨f - 1, by omega⟩
    rw [f_X0_findParts_L7_s, if_pos (nI_le (by omega) (by omega))]
    have hi : i = aSC a := by omega
    rw [hi] at h
    exact ⟨pc, ps, pm, k, q, rfl, h⟩
  | succ d ih =>
    intro i f k pc ps pm q hi hf h
    obtain ⟨f', rfl⟩ : ∃ f', f = f' + 1 := ⟨f - 1, by omega⟩
    have hi3 : i < aSC a := by omega
    have hsy : isSy a (aS a i) := ⟨i, hi3, rfl⟩
    have hw := isW_iff.mp (hok.2.2.1 i hi3)
    have hlt := sy_lt hok hsy
    obtain ⟨l1, l3⟩ := sy_len hok hsy
    have h9 : aS a i < 27 ^ 9 := by rw [p27]; omega
    have h63 : aS a i < 2 ^ 63 := by omega
    have e1 := si_eq N hN hok hn h9 hw.2.2
    obtain ⟨g1, g2, g3⟩ := h
    have hsum := aSum_le hok h63
    rw [f_X0_findParts_L7_s, if_neg (nI_ge hi3 (by omega)), zl_gd (zl_inN (show i < 10 by omega) (by decide)), zl_let, zl_cl (by omega), hs i hi3]
    cases c : aB a (aS a i) with
    | false =>
      rw [c] at e1
      rw [zl_b1 (show f_X5_sumInNames N num (lN (aS a i)) = some 0 from e1), zl_let, if_pos (show (0 : Int32) ≤ 0 by decide)]
      dsimp only
      rw [zl_let, nI_1]
      refine ih (i + 1) f' k pc ps pm q (by omega) (by omega) ⟨by omega, g2, fun t ht hb => ?_⟩
      by_cases e : t = i
      · rw [e, c] at hb
        cases hb
      · exact g3 t (by omega) hb
    | true =>
      rw [c, if_pos rfl] at e1
      have hp := aSum_pos hw.1 h63 c
      rw [zl_b1 e1, zl_let, if_neg (nI_nle hp (by omega)), zl_gd (zl_inN (show k < 10 by omega) (by decide)), zl_let, zl_b1 (sh_eq N hN h63 l1 l3), zl_let, zl_let, zl_let, nI_1, zl_cl (by omega)]
      dsimp only
      rw [zl_let, nI_1]
      refine ih (i + 1) f' (k + 1) _ _ _ (nup q k (aS a i)) (by omega) (by omega) ⟨by omega, fun j hj => ?_, fun t ht hb => ?_⟩
      · by_cases e : j = k
        · subst e
          rw [pk_uLs, pk_uLs, pk_us, nup_s]
          exact ⟨rfl, rfl, rfl, hsy, c⟩
        · rw [pk_uLn e, pk_uLn e, pk_un e, nup_n e]
          exact g2 j (by omega)
      · by_cases e : t = i
        · rw [e]
          exact ⟨k, by omega, nup_s⟩
        · obtain ⟨j, j1, j2⟩ := g3 t (by omega) hb
          exact ⟨j, by omega, by rw [nup_n (by omega)]; exact j2⟩
theorem fp_eq (N : Nat) (hN : 100000 ≤ N) {a : AW} {num : Nat → Int32} {syl : Nat → Int64} (hok : zOK a) (hn : ∀ i, i < 26 → num i = nI (aN a i)) (hs : ∀ i, i < aSC a → syl i = lN (aS a i)) (pc ps : Nat → Int64) (pm : Nat → Int32) : ∃ pc' ps' pm' k' q', f_X0_findParts N pc ps pm num syl (nI (aSC a)) = some (pc', ps', pm', nI k') ∧ zPt a pc' ps' pm' k' (aSC a) q' := by
  have hsc : aSC a ≤ 10 := hok.2.1
  unfold f_X0_findParts
  rw [zl_let]
  exact fp_loop N hN hok hn hs (fun (t_partCodes_24 : Nat → Int64) (t_partShifts_25 : Nat → Int64) (t_partSums_26 : Nat → Int32) (t_partCount_27 : Int32) => (some (t_partCodes_24, t_partShifts_25, t_partSums_26, t_partCount_27))) (aSC a) 0 N 0 pc ps pm (fun _ => 0) (by omega) (by omega) ⟨by omega, fun j hj => by omega, fun t ht => by omega⟩
def RJ (a : AW) (D : Nat) (dv : Bool) : Nat → Nat → Nat → Prop
  | 0, _, _ => False
  | m + 1, x, y => ∃ s, (isSy a s ∧ aB a s = true) ∧ aSum a (jn x s) ≤ D ∧ ((y = jn x s ∧ wan D dv (aSum a (jn x s))) ∨ RJ a D dv m (jn x s) y)
def cnJ : Nat → Nat
  | 0 => 0
  | m + 1 => 10 * (1 + cnJ m)
theorem jo_loop (N : Nat) {a : AW} {pc ps : Nat → Int64} {pm : Nat → Int32} {k : Nat} {q : Nat → Nat} (hok : zOK a) (hP : zPt a pc ps pm k (aSC a) q) {D : Nat} {dv : Bool} (hD : D ≤ 400) (m x : Nat) (hm : m ≤ 2) (hx : x < 27 ^ (3 * (2 - m))) (self : (Nat → Int64) → (Int32) → (Nat → Int64) → (Nat → Int64) → (Nat → Int32) → (Int32) → (Int32) → (Int32) → (Int64) → (Int32) → (Int32) → Option ((Nat → Int64) × (Int32))) (hself : ∀ x', x' < 27 ^ (3 * (3 - m)) → aSum a x' ≤ D → ∀ (codes : Nat → Int64) (s : Nat), s + cnJ m ≤ 1110 → ∃ codes' s', self codes (nI s) pc ps pm (nI k) (nI D) (zBo dv) (lN x') (nI (aSum a x')) (nI m) = some (codes', nI s') ∧ s' ≤ s + cnJ m ∧ ∀ u, zIn codes' s' u ↔ (zIn codes s u ∨ ∃ y, u = lN y ∧ RJ a D dv m x' y)) (K : (Nat → Int64) → (Int32) → Option ((Nat → Int64) × (Int32))) : ∀ (d i f s : Nat) (codes : Nat → Int64), i + d = k → d < f → s + d * (1 + cnJ m) ≤ 1110 → ∃ codes' s', f_X0_join_L9 N K self pc ps pm (nI k) (nI D) (zBo dv) (lN x) (nI (aSum a x)) (nI (m + 1)) f (nI i) codes (nI s) = K codes' (nI s') ∧ s' ≤ s + d * (1 + cnJ m) ∧ ∀ u, zIn codes' s' u ↔ (zIn codes s u ∨ ∃ y, u = lN y ∧ ∃ j, i ≤ j ∧ j < k ∧ aSum a (jn x (q j)) ≤ D ∧ ((y = jn x (q j) ∧ wan D dv (aSum a (jn x (q j)))) ∨ RJ a D dv m (jn x (q j)) y)) := by
  have hsc : aSC a ≤ 10 := hok.2.1
  have hk : k ≤ 10 := Nat.le_trans hP.1 hsc
  intro d
  induction d with
  | zero =>
    intro i f s codes hi hf hc
    obtain ⟨f', rfl⟩ : ∃ f', f = f' + 1 := ⟨f - 1, by omega⟩
    rw [f_X0_join_L9_s, if_pos (nI_le (by omega) (by omega))]
    refine ⟨codes, s, rfl, by omega, fun u => ⟨Or.inl, ?_⟩⟩
    rintro (w | ⟨y, _, j, j1, j2, _⟩)
    · exact w
    · omega
  | succ d ih =>
    intro i f s codes hi hf hc
    obtain ⟨f', rfl⟩ : ∃ f', f = f' + 1 := ⟨f - 1, by omega⟩
    have hi3 : i < k := by omega
    obtain ⟨e1, e2, e3, e4, e5⟩ := hP.2.1 i hi3
    have hw := sy_w hok e4
    have hlt := sy_lt hok e4
    have hj : jn x (q i) < 27 ^ (3 * (3 - m)) := by
      have := jn_lt hx hw
      rwa [show 3 * (2 - m) + 3 = 3 * (3 - m) by omega] at this
    have hp9 : 27 ^ (3 * (3 - m)) ≤ 27 ^ 9 := Nat.pow_le_pow_right (by decide) (by omega)
    have hj63 : jn x (q i) < 2 ^ 63 := Nat.lt_of_lt_of_le hj (Nat.le_trans hp9 (by decide))
    have esum : nI (aSum a x) + nI (aSum a (q i)) = nI (aSum a (jn x (q i))) := by
      rw [aSum_jn (by omega) hj63, nI_add, Nat.add_comm]
    have ecode : lN x * lN (27 ^ (zL (q i)).length) + lN (q i) = lN (jn x (q i)) := by
      rw [lN_mul, lN_add]
      rfl
    have hsm := aSum_le hok hj63
    have hc2 : (d + 1) * (1 + cnJ m) = d * (1 + cnJ m) + (1 + cnJ m) := Nat.succ_mul _ _
    rw [hc2] at hc ⊢
    rw [f_X0_join_L9_s, if_neg (nI_ge hi3 (by omega)), zl_gd (zl_inN (show i < 10 by omega) (by decide)), zl_let, zl_let, zl_cl (by omega), e1, e2, e3, esum, ecode]
    by_cases c1 : D < aSum a (jn x (q i))
    · rw [if_pos (nI_lt c1 (by omega))]
      dsimp only
      rw [zl_let, nI_1]
      obtain ⟨codes', s', r1, r2, r3⟩ := ih (i + 1) f' s codes (by omega) (by omega) (by omega)
      refine ⟨codes', s', r1, by omega, fun u => (r3 u).trans (or_congr Iff.rfl ?_)⟩
      constructor
      · rintro ⟨y, y1, j, j1, j2⟩
        exact ⟨y, y1, j, by omega, j2⟩
      · rintro ⟨y, y1, j, j1, j2, j3, j4⟩
        refine ⟨y, y1, j, ?_, j2, j3, j4⟩
        by_cases e : j = i
        · rw [e] at j3
          omega
        · omega
    · rw [if_neg (nI_nlt (by omega) (by omega)), zl_let]
      have add : ∃ codes1 s1, f_X0_addIfWanted N codes (nI s) (nI D) (zBo dv) (lN (jn x (q i))) (nI (aSum a (jn x (q i)))) = some (codes1, nI s1) ∧ s1 ≤ s + 1 ∧ ∀ u, zIn codes1 s1 u ↔ (zIn codes s u ∨ (u = lN (jn x (q i)) ∧ wan D dv (aSum a (jn x (q i))))) := by
        rcases aw_eq N (f := codes) (s := s) (D := D) (sm := aSum a (jn x (q i))) (dv := dv) (lN (jn x (q i))) (by omega) hD (by omega) with ⟨w1, w2⟩ | ⟨w1, w2⟩
        · refine ⟨_, s + 1, w2, by omega, fun u => ?_⟩
          constructor
          · rintro ⟨j, j1, j2⟩
            by_cases e : j = s
            · rw [e, pk_uLs] at j2
              exact Or.inr ⟨j2.symm, w1⟩
            · rw [pk_uLn e] at j2
              exact Or.inl ⟨j, by omega, j2⟩
          · rintro (⟨j, j1, j2⟩ | ⟨j1, _⟩)
            · exact ⟨j, by omega, by rw [pk_uLn (by omega)]; exact j2⟩
            · exact ⟨s, by omega, by rw [pk_uLs]; exact j1.symm⟩
        · exact ⟨codes, s, w2, by omega, fun u => ⟨Or.inl, fun w => by
            rcases w with w | w
            · exact w
            · exact absurd w.2 w1⟩⟩
      obtain ⟨codes1, s1, a1, a2, a3⟩ := add
      obtain ⟨codes2, s2, b1, b2, b3⟩ := hself (jn x (q i)) hj (by omega) codes1 s1 (by omega)
      rw [zl_b2 a1, show (1 : Int32) = nI 1 from rfl, pk_sub (show 1 ≤ m + 1 by omega), Nat.add_sub_cancel, zl_b2 b1]
      dsimp only
      rw [zl_let, nI_add]
      obtain ⟨codes', s', r1, r2, r3⟩ := ih (i + 1) f' s2 codes2 (by omega) (by omega) (by omega)
      refine ⟨codes', s', r1, by omega, fun u => ?_⟩
      rw [r3 u, b3 u, a3 u]
      constructor
      · rintro (((w | ⟨w1, w2⟩) | ⟨y, y1, y2⟩) | ⟨y, y1, j, j1, j2⟩)
        · exact Or.inl w
        · exact Or.inr ⟨_, w1, i, by omega, hi3, by omega, Or.inl ⟨rfl, w2⟩⟩
        · exact Or.inr ⟨y, y1, i, by omega, hi3, by omega, Or.inr y2⟩
        · exact Or.inr ⟨y, y1, j, by omega, j2⟩
      · rintro (w | ⟨y, y1, j, j1, j2, j3, j4⟩)
        · exact Or.inl (Or.inl (Or.inl w))
        · by_cases e : j = i
          · rw [e] at j4
            rcases j4 with ⟨j4, j5⟩ | j4
            · exact Or.inl (Or.inl (Or.inr ⟨by rw [y1, j4], j5⟩))
            · exact Or.inl (Or.inr ⟨y, y1, j4⟩)
          · exact Or.inr ⟨y, y1, j, by omega, j2, j3, j4⟩
theorem jo_eq (N : Nat) (hN : 100000 ≤ N) {a : AW} {pc ps : Nat → Int64} {pm : Nat → Int32} {k : Nat} {q : Nat → Nat} (hok : zOK a) (hP : zPt a pc ps pm k (aSC a) q) {D : Nat} {dv : Bool} (hD : D ≤ 400) : ∀ (m : Nat), m ≤ 3 → ∀ x, x < 27 ^ (3 * (3 - m)) → aSum a x ≤ D → ∀ (codes : Nat → Int64) (s : Nat), s + cnJ m ≤ 1110 → ∃ codes' s', f_X0_join N (m + 1) codes (nI s) pc ps pm (nI k) (nI D) (zBo dv) (lN x) (nI (aSum a x)) (nI m) = some (codes', nI s') ∧ s' ≤ s + cnJ m ∧ ∀ u, zIn codes' s' u ↔ (zIn codes s u ∨ ∃ y, u = lN y ∧ RJ a D dv m x y) := by
  have hsc : aSC a ≤ 10 := hok.2.1
  have hk : k ≤ 10 := Nat.le_trans hP.1 hsc
  intro m
  induction m with
  | zero =>
    intro _ x hx hs codes s hc
    rw [f_X0_join_s, if_pos (show nI 0 = 0 from rfl)]
    refine ⟨codes, s, rfl, by omega, fun u => ⟨Or.inl, ?_⟩⟩
    rintro (w | ⟨y, _, w⟩)
    · exact w
    · cases w
  | succ m ih =>
    intro hm x hx hs codes s hc
    have hc2 : cnJ (m + 1) = 10 * (1 + cnJ m) := rfl
    have hc3 : k * (1 + cnJ m) ≤ 10 * (1 + cnJ m) := Nat.mul_le_mul_right _ hk
    rw [f_X0_join_s, if_neg (nI_ne0 (by omega) (by omega)), zl_let]
    obtain ⟨codes', s', r1, r2, r3⟩ := jo_loop N hok hP (dv := dv) hD m x (by omega) (by rwa [show 3 * (3 - (m + 1)) = 3 * (2 - m) by omega] at hx) (f_X0_join N (m + 1)) (ih (by omega)) (fun (t_codes_19 : Nat → Int64) (t_size_20 : Int32) => (some (t_codes_19, t_size_20))) k 0 N s codes (by omega) (by omega) (by omega)
    refine ⟨codes', s', r1, by omega, fun u => (r3 u).trans (or_congr Iff.rfl ?_)⟩
    constructor
    · rintro ⟨y, y1, j, _, j2, j3⟩
      obtain ⟨_, _, _, e4, e5⟩ := hP.2.1 j j2
      exact ⟨y, y1, q j, ⟨e4, e5⟩, j3⟩
    · rintro ⟨y, y1, z, ⟨⟨t, t1, t2⟩, z2⟩, z3⟩
      rw [← t2] at z2 z3
      obtain ⟨j, j1, j2⟩ := hP.2.2 t t1 z2
      rw [← j2] at z3
      exact ⟨y, y1, j, by omega, j1, z3⟩
theorem jn_zero (y : Nat) : jn 0 y = y := by
  unfold jn
  rw [Nat.zero_mul, Nat.zero_add]
theorem sy_63 {a : AW} (hok : zOK a) {y : Nat} (h : isSy a y) : y < 2 ^ 63 := by
  have := sy_lt hok h
  omega
theorem jn_63 {a : AW} (hok : zOK a) {x y : Nat} (hx : isSy a x) (hy : isSy a y) : jn x y < 2 ^ 63 ∧ jn x y < 27 ^ 6 := by
  have h1 := jn_lt (sy_w hok hx).2.1 (sy_w hok hy)
  exact ⟨Nat.lt_of_lt_of_le h1 (by decide), h1⟩
theorem jn3_63 {a : AW} (hok : zOK a) {x y z : Nat} (hx : isSy a x) (hy : isSy a y) (hz : isSy a z) : jn (jn x y) z < 2 ^ 63 ∧ jn (jn x y) z < 27 ^ 9 := by
  have h1 := jn_lt (jn_63 hok hx hy).2 (sy_w hok hz)
  exact ⟨Nat.lt_of_lt_of_le h1 (by decide), h1⟩
theorem rj_nm {a : AW} (hok : zOK a) {D : Nat} {dv : Bool} (hD1 : 1 ≤ D) (y : Nat) : RJ a D dv 3 0 y ↔ (aB a y = true ∧ aNm a y ∧ wan D dv (aSum a y)) := by
  constructor
  · rintro ⟨s, ⟨⟨i, i1, rfl⟩, s2⟩, s3, w⟩
    rw [jn_zero] at s3 w
    have si : isSy a (aS a i) := ⟨i, i1, rfl⟩
    rcases w with ⟨rfl, w⟩ | ⟨t, ⟨⟨j, j1, rfl⟩, t2⟩, t3, w⟩
    · exact ⟨s2, ⟨i, i, i, i1, i1, i1, Or.inl rfl⟩, w⟩
    have sj : isSy a (aS a j) := ⟨j, j1, rfl⟩
    have b2 : aB a (jn (aS a i) (aS a j)) = true := by
      rw [aB_jn (sy_63 hok sj) (jn_63 hok si sj).1, t2, s2]
      rfl
    rcases w with ⟨rfl, w⟩ | ⟨v, ⟨⟨k, k1, rfl⟩, v2⟩, v3, w⟩
    · exact ⟨b2, ⟨i, j, j, i1, j1, j1, Or.inr (Or.inl rfl)⟩, w⟩
    have sk : isSy a (aS a k) := ⟨k, k1, rfl⟩
    have b3 : aB a (jn (jn (aS a i) (aS a j)) (aS a k)) = true := by
      rw [aB_jn (sy_63 hok sk) (jn3_63 hok si sj sk).1, v2, b2]
      rfl
    rcases w with ⟨rfl, w⟩ | w
    · exact ⟨b3, ⟨i, j, k, i1, j1, k1, Or.inr (Or.inr rfl)⟩, w⟩
    · cases w
  · rintro ⟨hB, ⟨i, j, k, i1, j1, k1, h⟩, w⟩
    have si : isSy a (aS a i) := ⟨i, i1, rfl⟩
    have sj : isSy a (aS a j) := ⟨j, j1, rfl⟩
    have sk : isSy a (aS a k) := ⟨k, k1, rfl⟩
    have wl := wan_le hD1 w
    rcases h with rfl | rfl | rfl
    · refine ⟨aS a i, ⟨si, hB⟩, ?_, Or.inl ⟨?_, ?_⟩⟩
      · rw [jn_zero]
        exact wl
      · rw [jn_zero]
      · rw [jn_zero]
        exact w
    · have e2 := aSum_jn (a := a) (sy_63 hok sj) (jn_63 hok si sj).1
      rw [aB_jn (sy_63 hok sj) (jn_63 hok si sj).1, Bool.and_eq_true] at hB
      refine ⟨aS a i, ⟨si, hB.2⟩, ?_, Or.inr ⟨aS a j, ⟨sj, hB.1⟩, ?_, Or.inl ⟨?_, ?_⟩⟩⟩
      · rw [jn_zero]
        omega
      · rw [jn_zero]
        exact wl
      · rw [jn_zero]
      · rw [jn_zero]
        exact w
    · have e2 := aSum_jn (a := a) (sy_63 hok sj) (jn_63 hok si sj).1
      have e3 := aSum_jn (a := a) (sy_63 hok sk) (jn3_63 hok si sj sk).1
      rw [aB_jn (sy_63 hok sk) (jn3_63 hok si sj sk).1, Bool.and_eq_true, aB_jn (sy_63 hok sj) (jn_63 hok si sj).1, Bool.and_eq_true] at hB
      refine ⟨aS a i, ⟨si, hB.2.2⟩, ?_, Or.inr ⟨aS a j, ⟨sj, hB.2.1⟩, ?_, Or.inr ⟨aS a k, ⟨sk, hB.1⟩, ?_, Or.inl ⟨?_, ?_⟩⟩⟩⟩
      · rw [jn_zero]
        omega
      · rw [jn_zero]
        omega
      · rw [jn_zero]
        exact wl
      · rw [jn_zero]
      · rw [jn_zero]
        exact w
theorem ga_eq (N : Nat) (hN : 100000 ≤ N) {a : AW} {num : Nat → Int32} {syl : Nat → Int64} (hok : zOK a) (hn : ∀ i, i < 26 → num i = nI (aN a i)) (hs : ∀ i, i < aSC a → syl i = lN (aS a i)) (codes pc ps : Nat → Int64) (pm : Nat → Int32) {D : Nat} (dv : Bool) (hD1 : 1 ≤ D) (hD : D ≤ 400) : ∃ codes' k' pc' ps' pm' pk', f_X0_gather N codes pc ps pm num syl (nI (aSC a)) (nI D) (zBo dv) = some (codes', nI k', pc', ps', pm', pk', nI D, zBo dv) ∧ k' ≤ 1110 ∧ zSs codes' k' ∧ ∀ u, zIn codes' k' u ↔ ∃ y, u = lN y ∧ (aB a y = true ∧ aNm a y ∧ wan D dv (aSum a y)) := by
  obtain ⟨pc', ps', pm', k, q, f1, f2⟩ := fp_eq N hN hok hn hs pc ps pm
  obtain ⟨c1, s1, j1, j2, j3⟩ := jo_eq N hN hok f2 (dv := dv) hD 3 (by omega) 0 (by decide) (show aSum a 0 ≤ D from Nat.zero_le _) codes 0 (by decide)
  have hs1 : s1 ≤ 1110 := j2
  obtain ⟨c2, t1, t2, t3⟩ := so_eq N s1 hN hs1 c1
  obtain ⟨k', c3, d1, d2, d3, d4⟩ := dl_eq N s1 hN hs1 c2 t3
  refine ⟨c3, k', pc', ps', pm', nI k, ?_, by omega, d3, fun u => ?_⟩
  · unfold f_X0_gather
    have hb : zz_isB (zBo dv) = true := by
      cases dv <;> rfl
    have j1' : f_X0_join N 4 codes (0 : Int32) pc' ps' pm' (nI k) (nI D) (zBo dv) (0 : Int64) (0 : Int32) (3 : Int32) = some (c1, nI s1) := j1
    rw [zl_gd hb]
    simp only [f1, zz_b4, zz_b2, zz_b1, Option.bind_some, j1', t1, d1]
  · rw [d4 u, t2 u, j3 u]
    constructor
    · rintro (⟨i, i1, _⟩ | ⟨y, y1, y2⟩)
      · omega
      · exact ⟨y, y1, (rj_nm hok hD1 y).mp y2⟩
    · rintro ⟨y, y1, y2⟩
      exact Or.inr ⟨y, y1, (rj_nm hok hD1 y).mpr y2⟩
