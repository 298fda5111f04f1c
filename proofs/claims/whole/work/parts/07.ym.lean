/-! ===== old names: all ways, in order ===== -/
def dgO (n k v i : Nat) : Nat := v / n ^ (k - 1 - i) % n + 1
theorem dgO_blk {n k m lo v j : Nat} (hn : 0 < n) (h : lo % n ^ m = 0) (h1 : lo ≤ v) (h2 : v < lo + n ^ m) (hj : j + m < k) : dgO n k v j = dgO n k lo j := by
  have hp : 0 < n ^ m := Nat.pow_pos hn
  have e : v / n ^ m = lo / n ^ m := by
    have d1 := Nat.div_add_mod lo (n ^ m)
    rw [h, Nat.add_zero] at d1
    refine Nat.div_eq_of_lt_le ?_ ?_
    · rw [Nat.mul_comm, d1]
      exact h1
    · rw [Nat.succ_mul, Nat.mul_comm, d1]
      exact h2
  unfold dgO
  rw [show k - 1 - j = m + (k - 1 - j - m) by omega, Nat.pow_add, ← Nat.div_div_eq_div_mul, ← Nat.div_div_eq_div_mul, e]
theorem dgO_at {n k m lo i d : Nat} (hn : 0 < n) (h : lo % n ^ (m + 1) = 0) (hk : i + m + 1 = k) (hd : d < n) : dgO n k (lo + d * n ^ m) i = d + 1 := by
  have hp : 0 < n ^ m := Nat.pow_pos hn
  unfold dgO
  rw [show k - 1 - i = m by omega, Nat.add_mul_div_right _ _ hp]
  have e : lo / n ^ m % n = 0 := by
    have d1 := Nat.div_add_mod lo (n ^ (m + 1))
    rw [h, Nat.add_zero, Nat.pow_succ, Nat.mul_assoc] at d1
    have : lo / n ^ m = n * (lo / (n ^ m * n)) := by
      refine Nat.div_eq_of_eq_mul_right hp d1.symm
    rw [this, Nat.mul_mod_right]
  rw [Nat.add_mod, e, Nat.zero_add, Nat.mod_mod, Nat.mod_eq_of_lt hd]
theorem dgO_rng {n k v i : Nat} (hn : 0 < n) : 1 ≤ dgO n k v i ∧ dgO n k v i ≤ n := by
  unfold dgO
  have := Nat.mod_lt (v / n ^ (k - 1 - i)) hn
  omega
def pO (T : Nat → Nat → Nat) (n k v w i : Nat) : Nat := fb_sm (fun j => T w j * dgO n k v j) i
def rO (T : Nat → Nat → Nat) (k w i : Nat) : Nat := fb_sm (fun j => T w (i + j)) (k - i)
def sO (T : Nat → Nat → Nat) (D : Nat → Nat) (wc n k v : Nat) : Bool := (List.range wc).all (fun w => pO T n k v w k == D w)
theorem sO_iff {T : Nat → Nat → Nat} {D : Nat → Nat} {wc n k v : Nat} : sO T D wc n k v = true ↔ ∀ w, w < wc → pO T n k v w k = D w := by
  unfold sO
  rw [List.all_eq_true]
  constructor
  · intro h w hw
    exact beq_iff_eq.mp (h w (List.mem_range.mpr hw))
  · intro h w hw
    exact beq_iff_eq.mpr (h w (List.mem_range.mp hw))
theorem rO_s {T : Nat → Nat → Nat} {k w i : Nat} (h : i < k) : rO T k w i = T w i + rO T k w (i + 1) := by
  unfold rO
  rw [show k - i = 1 + (k - (i + 1)) by omega, fb_sm_split]
  have e1 : fb_sm (fun k => T w (i + k)) 1 = T w i := by
    rw [fb_sm_succ]
    exact Nat.zero_add _
  rw [e1]
  congr 1
  exact fb_sm_cong (fun j _ => by rw [show i + (1 + j) = i + 1 + j by omega])
theorem rO_k {T : Nat → Nat → Nat} {k w : Nat} : rO T k w k = 0 := by
  unfold rO
  rw [Nat.sub_self]
  rfl
/-- what the places from i on can hold -/
theorem pO_rest {T : Nat → Nat → Nat} {n k v w : Nat} (hn : 0 < n) : ∀ (m i : Nat), i + m = k → pO T n k v w i + rO T k w i ≤ pO T n k v w k ∧ pO T n k v w k ≤ pO T n k v w i + rO T k w i * n := by
  intro m
  induction m with
  | zero =>
    intro i hi
    have : i = k := by omega
    subst this
    rw [rO_k]
    omega
  | succ m ih =>
    intro i hi
    obtain ⟨h1, h2⟩ := ih (i + 1) (by omega)
    obtain ⟨d1, d2⟩ := dgO_rng (k := k) (v := v) (i := i) hn
    have e : pO T n k v w (i + 1) = pO T n k v w i + T w i * dgO n k v i := fb_sm_succ _ _
    have e2 := rO_s (T := T) (w := w) (show i < k by omega)
    have b1 : T w i * 1 ≤ T w i * dgO n k v i := Nat.mul_le_mul_left _ d1
    have b2 : T w i * dgO n k v i ≤ T w i * n := Nat.mul_le_mul_left _ d2
    have b3 : rO T k w i * n = T w i * n + rO T k w (i + 1) * n := by rw [e2, Nat.add_mul]
    omega
theorem pO_blk {T : Nat → Nat → Nat} {n k m lo v w i : Nat} (hn : 0 < n) (h : lo % n ^ m = 0) (h1 : lo ≤ v) (h2 : v < lo + n ^ m) (hi : i + m ≤ k) : pO T n k v w i = pO T n k lo w i := fb_sm_cong (fun j hj => by rw [dgO_blk hn h h1 h2 (by omega)])
def iW (T : Nat → Nat → Nat) (D : Nat → Nat) (wc n k lo : Nat) (ways : Int32) (first : Nat → Int32) : Prop := ways = nI (fb_ct (sO T D wc n k) lo) ∧ (0 < fb_ct (sO T D wc n k) lo → ∃ v, v < lo ∧ sO T D wc n k v = true ∧ (∀ u, u < v → sO T D wc n k u = false) ∧ ∀ i, i < k → first i = nI (dgO n k v i))
theorem iW_empty {T : Nat → Nat → Nat} {D : Nat → Nat} {wc n k : Nat} {ways : Int32} {first : Nat → Int32} : ∀ (e lo : Nat), iW T D wc n k lo ways first → (∀ v, lo ≤ v → v < lo + e → sO T D wc n k v = false) → iW T D wc n k (lo + e) ways first := by
  intro e
  induction e with
  | zero =>
    intro lo h _
    exact h
  | succ e ih =>
    intro lo h hv
    have h2 := ih lo h (fun v h1 h2 => hv v h1 (by omega))
    have es : fb_ct (sO T D wc n k) (lo + e + 1) = fb_ct (sO T D wc n k) (lo + e) := by
      rw [fb_ct_succ, hv (lo + e) (by omega) (by omega)]
      rfl
    unfold iW
    rw [show lo + (e + 1) = lo + e + 1 by omega, es]
    refine ⟨h2.1, fun q => ?_⟩
    obtain ⟨v, v1, v2⟩ := h2.2 q
    exact ⟨v, by omega, v2⟩
theorem gf_loop (N : Nat) {T : Nat → Nat → Nat} {wc k i n : Nat} {left : Nat → Int32} {xm ym : Nat → Nat → Int32} (hwc : wc ≤ 16) (hi : i < k) (hk : k ≤ 5) (hx : ∀ w, w < wc → xm w i = nI (T w i) ∧ ym w i = nI (rO T k w (i + 1)) ∧ T w i ≤ 9 ∧ rO T k w (i + 1) ≤ 9 ∧ -1000 ≤ (left w).toInt ∧ (left w).toInt ≤ 1000) (K : Int32 → Option Int32) : ∀ (d w f : Nat) (v2 : Int32), w + d = wc → d < f → -100001 ≤ v2.toInt → v2.toInt ≤ 100001 → (∀ g : Int, g ≤ v2.toInt ↔ (g ≤ n ∧ ∀ u, u < w → 0 < T u i → g * T u i ≤ (left u).toInt - rO T k u (i + 1))) → ∃ r, f_X1_greatestFor_L7 N K left (nI wc) xm ym (nI i) f v2 (nI w) = K r ∧ (∀ g : Int, g ≤ r.toInt ↔ (g ≤ n ∧ ∀ u, u < wc → 0 < T u i → g * T u i ≤ (left u).toInt - rO T k u (i + 1))) := by
  intro d
  induction d with
  | zero =>
    intro w f v2 hw hf _ _ h
    obtain ⟨f, rfl⟩ : ∃ g, f = g + 1 := ⟨f - 1, by omega⟩
    rw [f_X1_greatestFor_L7_s, if_pos (nI_le (by omega) (by omega))]
    rw [show w = wc by omega] at h
    exact ⟨v2, rfl, h⟩
  | succ d ih =>
    intro w f v2 hw hf b1 b2 h
    obtain ⟨f, rfl⟩ : ∃ g, f = g + 1 := ⟨f - 1, by omega⟩
    obtain ⟨x1, x2, x3, x4, x5, x6⟩ := hx w (by omega)
    rw [f_X1_greatestFor_L7_s, if_neg (nI_ge (by omega) (by omega)), zl_gd (zl_inN (show w < 16 by omega) (by decide)), zl_gd (zl_inN (show i < 5 by omega) (by decide)), zl_let, zl_cl (show w < 2 ^ 31 by omega), zl_cl (show i < 2 ^ 31 by omega), x1, x2]
    by_cases c : 0 < T w i
    · rw [if_neg (nI_nle c (by omega))]
      have el : (left w - nI (rO T k w (i + 1))).toInt = (left w).toInt - rO T k w (i + 1) := by
        have e := nI_toInt (n := rO T k w (i + 1)) (by omega)
        rw [fb_subI (by rw [e]; omega) (by rw [e]; omega), e]
      obtain ⟨r, r1, r2, r3, r4⟩ := fl_eq N (p := left w - nI (rO T k w (i + 1))) c (by omega) (by rw [el]; omega) (by rw [el]; omega)
      rw [zl_b1 r1, zl_let]
      dsimp only
      rw [zl_let, nI_1]
      have emin : (if r < v2 then r else v2).toInt = if r.toInt < v2.toInt then r.toInt else v2.toInt := by
        by_cases q : r < v2
        · rw [if_pos q, if_pos ((fa_lt _ _).mp q)]
        · rw [if_neg q, if_neg (fun w => q ((fa_lt _ _).mpr w))]
      refine ih (w + 1) f _ (by omega) (by omega) (by rw [emin]; split <;> omega) (by rw [emin]; split <;> omega) (fun g => ?_)
      rw [emin]
      have e1 : g ≤ (if r.toInt < v2.toInt then r.toInt else v2.toInt) ↔ (g ≤ r.toInt ∧ g ≤ v2.toInt) := by
        split <;> omega
      rw [e1, r4 g, h g, el]
      constructor
      · rintro ⟨q1, q2, q3⟩
        refine ⟨q2, fun u hu hT => ?_⟩
        by_cases e : u = w
        · rw [e]
          exact q1
        · exact q3 u (by omega) hT
      · rintro ⟨q1, q2⟩
        exact ⟨q2 w (by omega) c, q1, fun u hu hT => q2 u (by omega) hT⟩
    · rw [if_pos (show nI (T w i) ≤ 0 by rw [show T w i = 0 by omega]; decide)]
      dsimp only
      rw [zl_let, nI_1]
      refine ih (w + 1) f v2 (by omega) (by omega) b1 b2 (fun g => (h g).trans ⟨fun q => ⟨q.1, fun u hu hT => ?_⟩, fun q => ⟨q.1, fun u hu hT => q.2 u (by omega) hT⟩⟩)
      by_cases e : u = w
      · rw [e] at hT
        exact absurd hT c
      · exact q.2 u (by omega) hT
theorem lf_loop (N : Nat) {T : Nat → Nat → Nat} {wc k i n : Nat} {left : Nat → Int32} {xm ym : Nat → Nat → Int32} (hwc : wc ≤ 16) (hi : i < k) (hk : k ≤ 5) (hn : n ≤ 9) (hx : ∀ w, w < wc → xm w i = nI (T w i) ∧ ym w i = nI (rO T k w (i + 1)) ∧ T w i ≤ 9 ∧ rO T k w (i + 1) ≤ 9 ∧ -1000 ≤ (left w).toInt ∧ (left w).toInt ≤ 1000) (K : Int32 → Option Int32) : ∀ (d w f : Nat) (v2 : Int32), w + d = wc → d < f → -100001 ≤ v2.toInt → v2.toInt ≤ 100001 → (∀ g : Int, v2.toInt ≤ g ↔ (1 ≤ g ∧ ∀ u, u < w → 0 < T u i → (left u).toInt - (rO T k u (i + 1) * n : Nat) ≤ g * T u i)) → ∃ r, f_X1_leastFor_L4 N K left (nI wc) (nI n) xm ym (nI i) f v2 (nI w) = K r ∧ -100001 ≤ r.toInt ∧ r.toInt ≤ 100001 ∧ (∀ g : Int, r.toInt ≤ g ↔ (1 ≤ g ∧ ∀ u, u < wc → 0 < T u i → (left u).toInt - (rO T k u (i + 1) * n : Nat) ≤ g * T u i)) := by
  intro d
  induction d with
  | zero =>
    intro w f v2 hw hf b1 b2 h
    obtain ⟨f, rfl⟩ : ∃ g, f = g + 1 := ⟨f - 1, by omega⟩
    rw [f_X1_leastFor_L4_s, if_pos (nI_le (by omega) (by omega))]
    rw [show w = wc by omega] at h
    exact ⟨v2, rfl, b1, b2, h⟩
  | succ d ih =>
    intro w f v2 hw hf b1 b2 h
    obtain ⟨f, rfl⟩ : ∃ g, f = g + 1 := ⟨f - 1, by omega⟩
    obtain ⟨x1, x2, x3, x4, x5, x6⟩ := hx w (by omega)
    rw [f_X1_leastFor_L4_s, if_neg (nI_ge (by omega) (by omega)), zl_gd (zl_inN (show w < 16 by omega) (by decide)), zl_gd (zl_inN (show i < 5 by omega) (by decide)), zl_let, zl_cl (show w < 2 ^ 31 by omega), zl_cl (show i < 2 ^ 31 by omega), x1, x2, pk_mul, zl_let]
    by_cases c : 0 < T w i
    · rw [if_neg (nI_nle c (by omega))]
      have hm : rO T k w (i + 1) * n ≤ 9 * 9 := Nat.mul_le_mul x4 hn
      have el : (left w - nI (rO T k w (i + 1) * n)).toInt = (left w).toInt - (rO T k w (i + 1) * n : Nat) := by
        have e := nI_toInt (n := rO T k w (i + 1) * n) (by omega)
        rw [fb_subI (by rw [e]; omega) (by rw [e]; omega), e]
      have en : (-(left w - nI (rO T k w (i + 1) * n))).toInt = -((left w).toInt - (rO T k w (i + 1) * n : Nat)) := by
        rw [fb_negI (by rw [el]; omega), el]
      obtain ⟨r, r1, r2, r3, r4⟩ := fl_eq N (p := -(left w - nI (rO T k w (i + 1) * n))) c (by omega) (by rw [en]; omega) (by rw [en]; omega)
      have er : (-r).toInt = -r.toInt := fb_negI (by omega)
      rw [zl_b1 r1, zl_let]
      dsimp only
      rw [zl_let, nI_1]
      have emax : (if v2 < -r then -r else v2).toInt = if v2.toInt < -r.toInt then -r.toInt else v2.toInt := by
        by_cases q : v2 < -r
        · rw [if_pos q, if_pos (by rw [fa_lt, er] at q; exact q), er]
        · rw [if_neg q, if_neg (fun w => q (by rw [fa_lt, er]; exact w))]
      refine ih (w + 1) f _ (by omega) (by omega) (by rw [emax]; split <;> omega) (by rw [emax]; split <;> omega) (fun g => ?_)
      rw [emax]
      have e1 : (if v2.toInt < -r.toInt then -r.toInt else v2.toInt) ≤ g ↔ (-g ≤ r.toInt ∧ v2.toInt ≤ g) := by
        split <;> omega
      rw [e1, r4 (-g), h g, en, Int.neg_mul]
      constructor
      · rintro ⟨q1, q2, q3⟩
        refine ⟨q2, fun u hu hT => ?_⟩
        by_cases e : u = w
        · rw [e]
          omega
        · exact q3 u (by omega) hT
      · rintro ⟨q1, q2⟩
        refine ⟨?_, q1, fun u hu hT => q2 u (by omega) hT⟩
        have := q2 w (by omega) c
        omega
    · rw [if_pos (show nI (T w i) ≤ 0 by rw [show T w i = 0 by omega]; decide)]
      dsimp only
      rw [zl_let, nI_1]
      refine ih (w + 1) f v2 (by omega) (by omega) b1 b2 (fun g => (h g).trans ⟨fun q => ⟨q.1, fun u hu hT => ?_⟩, fun q => ⟨q.1, fun u hu hT => q.2 u (by omega) hT⟩⟩)
      by_cases e : u = w
      · rw [e] at hT
        exact absurd hT c
      · exact q.2 u (by omega) hT
theorem tk_loop (N : Nat) {wc i : Nat} {xm : Nat → Nat → Int32} (hwc : wc ≤ 16) (hi : i < 5) (g : Int32) (K : (Nat → Int32) → Option (Nat → Int32)) : ∀ (d w f : Nat) (left : Nat → Int32), w + d = wc → d < f → ∃ left', f_X1_take_L2 N K (nI wc) xm (nI i) g f (nI w) left = K left' ∧ ∀ u, left' u = if w ≤ u ∧ u < wc then left u - xm u i * g else left u := by
  intro d
  induction d with
  | zero =>
    intro w f left hw hf
    obtain ⟨f, rfl⟩ : ∃ g, f = g + 1 := ⟨f - 1, by omega⟩
    rw [f_X1_take_L2_s, if_pos (nI_le (by omega) (by omega))]
    exact ⟨left, rfl, fun u => by rw [if_neg (by omega)]⟩
  | succ d ih =>
    intro w f left hw hf
    obtain ⟨f, rfl⟩ : ∃ g, f = g + 1 := ⟨f - 1, by omega⟩
    rw [f_X1_take_L2_s, if_neg (nI_ge (by omega) (by omega)), zl_gd (zl_inN (show w < 16 by omega) (by decide)), zl_gd (zl_inN (show i < 5 by omega) (by decide)), zl_let, zl_let, nI_1, zl_cl (show w < 2 ^ 31 by omega), zl_cl (show i < 2 ^ 31 by omega)]
    obtain ⟨left', q1, q2⟩ := ih (w + 1) f (upd left w (left w - xm w i * g)) (by omega) (by omega)
    refine ⟨left', q1, fun u => ?_⟩
    rw [q2 u]
    by_cases e : u = w
    · rw [e, if_neg (by omega), pk_us, if_pos (by omega)]
    · rw [pk_un e]
      by_cases c : w ≤ u ∧ u < wc
      · rw [if_pos (by omega), if_pos c]
      · rw [if_neg (by omega), if_neg c]
