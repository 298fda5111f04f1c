/-! ===== which name, and those still free ===== -/
theorem wh_loop (N : Nat) (hN : 100000 ≤ N) {a : AW} {row : Nat → Int32} (hok : zOK a) (hn : ∀ i, i < 26 → row i = nI (aN a i)) {names : Nat → Int64} {l : List Nat} (hl : zLi names l) (hlen : l.length ≤ 1110) (hw : ∀ y ∈ l, isW 9 y) {t D : Nat} (ht : t < 2 ^ 31) (hD : D ≤ 400) (K : Option (Int64 × (Nat → Int64) × (Int32))) : ∀ (suf pre : List Nat) (f c : Nat), l = pre ++ suf → suf.length < f → c ≤ t → c ≤ pre.length → f_X7_which_L24 N K row (nI D) (nI t) names (nI l.length) f (nI c) (nI pre.length) = match (suf.filter (fun y => aSum a y == D))[t - c]? with | some y => some (lN y, names, nI l.length) | none => K := by
  intro suf
  induction suf with
  | nil =>
    intro pre f c e hf _ _
    obtain ⟨f', rfl⟩ : ∃ f', f = f' + 1 := ⟨f - 1, by omega⟩
    have e2 : l.length = pre.length := by rw [e, List.append_nil]
    rw [f_X7_which_L24_s, e2, if_pos (nI_le (Nat.le_refl _) (by omega))]
    rfl
  | cons y suf ih =>
    intro pre f c e hf hc hcp
    rw [List.length_cons] at hf
    obtain ⟨f', rfl⟩ : ∃ f', f = f' + 1 := ⟨f - 1, by omega⟩
    have e2 : l.length = pre.length + (suf.length + 1) := by rw [e, List.length_append, List.length_cons]
    have hy : isW 9 y := hw y (by rw [e]; exact List.mem_append_right _ List.mem_cons_self)
    have h63 := w_63 hy
    have hsl := aSum_le hok h63
    have ih2 := fun c (hc : c ≤ t) (hcp : c ≤ pre.length + 1) => ih (pre ++ [y]) f' c (by rw [e, List.append_assoc]; rfl) (by omega) hc (by rw [List.length_append, List.length_singleton]; exact hcp)
    rw [List.length_append, List.length_singleton] at ih2
    rw [f_X7_which_L24_s, if_neg (nI_ge (by omega) (by omega)), zl_gd (zl_inN (show pre.length < 1110 by omega) (by decide)), zl_cl (by omega), li_at hl e, zl_b1 (sum7 N hN hn h63 (isW_iff.mp hy).2.2), zl_let]
    by_cases c1 : aSum a y = D
    · rw [if_pos (show nI (aSum a y) = nI D by rw [c1]), List.filter_cons_of_pos (p := fun y => aSum a y == D) (beq_iff_eq.mpr c1)]
      by_cases c2 : c = t
      · rw [if_pos (show nI c = nI t by rw [c2]), c2, Nat.sub_self, List.getElem?_cons_zero]
      · rw [if_neg (show ¬ nI c = nI t from fun r => c2 ((nI_eq (by omega) (by omega)).mp r)), zl_let, nI_1]
        dsimp only
        rw [zl_let, nI_1, ih2 (c + 1) (by omega) (by omega), show t - c = (t - (c + 1)) + 1 by omega, List.getElem?_cons_succ]
    · rw [if_neg (show ¬ nI (aSum a y) = nI D from fun r => c1 ((nI_eq (by omega) (by omega)).mp r)), List.filter_cons_of_neg (p := fun y => aSum a y == D) (fun r => c1 (beq_iff_eq.mp r))]
      dsimp only
      rw [zl_let, nI_1, ih2 c hc (by omega)]
theorem pr_which (c : Nat → ClassId) (n_numbers : Nat → Int32) (n_syllables : Nat → Int64) (n_syllableCount : Int32) (n_days : Nat → Int32) (n_words : Nat → Int64) (n_parents : Nat → Int32) (n_otherParents : Nat → Int32) (n_kinds : Nat → Int32) (n_personCount : Int32) (n_hopeDays : Nat → Int32) (n_hopeTenths : Nat → Int32) (n_hopeCount : Int32) (n_degreesTold : Int32) (r_text : Nat → Int32) (r_length : Int32) (s_lane : Nat → Int32) (s_size : Nat → Int32) (s_items : Nat → Nat → Int32) (i_ir : Nat → Option Nat) (g0 : va_W) (g1 : va_W) (z_row : Nat → Int32) (z_words : Nat → Int64) (z_isKept : Nat → Int32) (z_text : Nat → Int32) (z_length : Int32) (z_lanes : Nat → Int32) (z_sizes : Nat → Int32) (z_items : Nat → Int32) (m_codes : Nat → Int64) (m_size : Int32) (m_partCodes : Nat → Int64) (m_partShifts : Nat → Int64) (m_partSums : Nat → Int32) (m_partCount : Int32) (m_wantedDay : Int32) (m_divisorsWanted : Int32) (z_names : Nat → Int64) (z_nameMany : Int32) (p1 : Int32) (p2 : Int32) (N : Nat) (hN : 100000 ≤ N) (hR : zRel c n_numbers n_syllables n_syllableCount n_days n_words n_parents n_otherParents n_kinds n_personCount n_hopeDays n_hopeTenths n_hopeCount n_degreesTold r_text r_length s_lane s_size s_items i_ir g0 g1 z_row z_words z_isKept z_text z_length z_lanes z_sizes z_items) : ∃ (r : Int64) (o_m_codes : Nat → Int64) (o_m_size : Int32) (o_m_partCodes : Nat → Int64) (o_m_partShifts : Nat → Int64) (o_m_partSums : Nat → Int32) (o_m_partCount : Int32) (o_m_wantedDay : Int32) (o_m_divisorsWanted : Int32) (e_names : Nat → Int64) (e_nameMany : Int32), f_X6_which N n_numbers n_syllables n_syllableCount m_codes m_size m_partCodes m_partShifts m_partSums m_partCount m_wantedDay m_divisorsWanted p1 p2 = some (r, o_m_codes, o_m_size, o_m_partCodes, o_m_partShifts, o_m_partSums, o_m_partCount, o_m_wantedDay, o_m_divisorsWanted) ∧ f_X7_which N z_row z_names z_nameMany p1 p2 = some (r, e_names, e_nameMany) ∧ zRel c n_numbers n_syllables n_syllableCount n_days n_words n_parents n_otherParents n_kinds n_personCount n_hopeDays n_hopeTenths n_hopeCount n_degreesTold r_text r_length s_lane s_size s_items i_ir g0 g1 z_row z_words z_isKept z_text z_length z_lanes z_sizes z_items := by
  obtain ⟨⟨a, hok, hw, hra⟩, _⟩ := id hR
  suffices hh : ∃ (r : Int64) (o_m_codes : Nat → Int64) (o_m_size : Int32) (o_m_partCodes : Nat → Int64) (o_m_partShifts : Nat → Int64) (o_m_partSums : Nat → Int32) (o_m_partCount : Int32) (o_m_wantedDay : Int32) (o_m_divisorsWanted : Int32) (e_names : Nat → Int64) (e_nameMany : Int32), f_X6_which N n_numbers n_syllables n_syllableCount m_codes m_size m_partCodes m_partShifts m_partSums m_partCount m_wantedDay m_divisorsWanted p1 p2 = some (r, o_m_codes, o_m_size, o_m_partCodes, o_m_partShifts, o_m_partSums, o_m_partCount, o_m_wantedDay, o_m_divisorsWanted) ∧ f_X7_which N z_row z_names z_nameMany p1 p2 = some (r, e_names, e_nameMany) by
    obtain ⟨x0, x1, x2, x3, x4, x5, x6, x7, x8, x9, x10, h1, h2⟩ := hh
    exact ⟨x0, x1, x2, x3, x4, x5, x6, x7, x8, x9, x10, h1, h2, hR⟩
  unfold f_X6_which f_X7_which
  rcases isDay_cases p1 with ⟨D, hD1, hD, rfl⟩ | h
  · rw [zl_bT (day6_t hD1 hD), zl_bT (day7_t hD1 hD)]
    by_cases c : 0 ≤ p2
    · obtain ⟨t, ht, rfl⟩ := nI_of (x := p2) (fun q => by
        rw [zl_0le] at c
        rw [zl_lt0] at q
        omega)
      obtain ⟨names', l, r1, r2, r3, r4, r5, r6, r7⟩ := nd_eq N hN hok hw.1 hw.2.2.1 hra z_names
      obtain ⟨codes', pc', ps', pm', pk', g1, g2⟩ := r7 m_codes m_partCodes m_partShifts m_partSums D hD1 hD
      have hle : (l.filter (fun y => aSum a y == D)).length ≤ 1110 := Nat.le_trans (List.length_filter_le _ _) r3
      have e7 := wh_loop N hN hok (zl_row0 hra) r2 r3 r4 (t := t) (D := D) ht hD (some ((-1 : Int64), names', nI l.length)) l [] N 0 rfl (by omega) (by omega) (by omega)
      rw [if_pos c, if_pos c, hw.2.1, zl_b2 r1, zl_let]
      rw [show f_X7_which_L24 N (some ((-1 : Int64), names', nI l.length)) z_row (nI D) (nI t) names' (nI l.length) N 0 0 = _ from e7]
      simp only [zz_b8, g1, Option.bind_some]
      rw [Nat.sub_zero]
      by_cases c2 : t < (l.filter (fun y => aSum a y == D)).length
      · rw [if_neg (nI_ge c2 (by omega)), zl_gd (zl_inN (show t < 1110 by omega) (by decide)), zl_cl (by omega), g2 t c2, List.getElem?_eq_getElem c2]
        refine ⟨_, _, _, _, _, _, _, _, _, names', nI l.length, rfl, ?_⟩
        rw [List.getD_eq_getElem?_getD, List.getElem?_eq_getElem c2]
        rfl
      · rw [if_pos (nI_le (by omega) (by omega)), List.getElem?_eq_none (by omega)]
        exact ⟨_, _, _, _, _, _, _, _, _, _, _, rfl, rfl⟩
    · rw [if_neg c, if_neg c]
      exact ⟨_, _, _, _, _, _, _, _, _, _, _, rfl, rfl⟩
  · rw [zl_bF (day6_f h), zl_bF (day7_f h)]
    exact ⟨_, _, _, _, _, _, _, _, _, _, _, rfl, rfl⟩
def fre (a : AW) (m : Int32) (y : Nat) : Bool := (List.range (aPC a)).all (fun j => !(bt m j && (aW a j == y)))
theorem fre_iff {a : AW} {m : Int32} {y : Nat} : fre a m y = true ↔ ∀ j, j < aPC a → ¬ (bt m j = true ∧ aW a j = y) := by
  unfold fre
  rw [List.all_eq_true]
  constructor
  · intro h j hj q
    have := h j (List.mem_range.mpr hj)
    rw [q.1, beq_iff_eq.mpr q.2] at this
    cases this
  · intro h j hj
    have := h j (List.mem_range.mp hj)
    rw [Bool.not_eq_true', Bool.and_eq_false_iff]
    by_cases c : bt m j = true
    · exact Or.inr (beq_eq_false_iff_ne.mpr (fun q => this ⟨c, q⟩))
    · exact Or.inl (by
        cases e : bt m j with
        | false => rfl
        | true => exact absurd e c)
theorem aW_63 {a : AW} (hok : zOK a) {j : Nat} (hj : j < aPC a) : aW a j < 2 ^ 63 := by
  rcases (hok.2.2.2.2.2.1 j hj).2.2.1 with c | c
  · rw [c]
    decide
  · exact w_63 c
theorem lc6_loop (N : Nat) {a : AW} {words : Nat → Int64} (hok : zOK a) (hw : ∀ p, p < aPC a → words p = lN (aW a p)) (m : Int32) {y : Nat} (hy : y < 2 ^ 63) : ∀ (d i f : Nat), i + d = aPC a → d < f → ∃ r, f_X5_leastCalled_L3 N (some (-1)) words (nI (aPC a)) (lN y) m f (nI i) = some r ∧ (r = -1 ↔ ∀ j, i ≤ j → j < aPC a → ¬ (bt m j = true ∧ aW a j = y)) := by
  have hpc : aPC a ≤ 16 := hok.2.2.2.2.1
  intro d
  induction d with
  | zero =>
    intro i f hi hf
    obtain ⟨f', rfl⟩ : ∃ f', f = f' + 1 := ⟨f - 1, by omega⟩
    rw [f_X5_leastCalled_L3_s, if_pos (nI_le (by omega) (by omega))]
    exact ⟨-1, rfl, fun _ j h1 h2 => by omega, fun _ => rfl⟩
  | succ d ih =>
    intro i f hi hf
    obtain ⟨f', rfl⟩ : ∃ f', f = f' + 1 := ⟨f - 1, by omega⟩
    obtain ⟨r, r1, r2⟩ := ih (i + 1) f' (by omega) (by omega)
    have hi2 : i < aPC a := by omega
    rw [f_X5_leastCalled_L3_s, if_neg (nI_ge (by omega) (by omega)), zl_let, zl_let, nI_1, b_bitv (show i < 32 by omega)]
    have rest : ¬ (bt m i = true ∧ aW a i = y) → ∃ r, f_X5_leastCalled_L3 N (some (-1)) words (nI (aPC a)) (lN y) m f' (nI (i + 1)) = some r ∧ (r = -1 ↔ ∀ j, i ≤ j → j < aPC a → ¬ (bt m j = true ∧ aW a j = y)) := fun hno => by
      refine ⟨r, r1, r2.trans ⟨fun h j h1 h2 => ?_, fun h j h1 h2 => h j (by omega) h2⟩⟩
      by_cases e : j = i
      · rw [e]
        exact hno
      · exact h j (by omega) h2
    cases c : bt m i with
    | false =>
      rw [if_pos (show (if false = true then (1 : Int32) else 0) = 0 from rfl)]
      exact rest (fun q => by rw [c] at q; cases q.1)
    | true =>
      rw [if_neg (show ¬ (if true = true then (1 : Int32) else 0) = 0 by decide), zl_gd (zl_inN (show i < 16 by omega) (by decide)), zl_cl (show i < 2 ^ 31 by omega), hw i hi2]
      by_cases c2 : aW a i = y
      · rw [if_pos (show lN (aW a i) = lN y by rw [c2])]
        exact ⟨nI i, rfl, fun q => absurd q (zl_nm1 (by omega)), fun q => absurd ⟨c, c2⟩ (q i (Nat.le_refl _) hi2)⟩
      · rw [if_neg (show ¬ lN (aW a i) = lN y from fun q => c2 ((pk_lEQ (aW_63 hok hi2) hy).mp q))]
        exact rest (fun q => c2 q.2)
theorem lc6_eq (N : Nat) (hN : 100000 ≤ N) {a : AW} {words : Nat → Int64} (hok : zOK a) (hw : ∀ p, p < aPC a → words p = lN (aW a p)) (m : Int32) {y : Nat} (hy : y < 2 ^ 63) : ∃ r, f_X5_leastCalled N words (nI (aPC a)) (lN y) m = some r ∧ (r = -1 ↔ fre a m y = true) := by
  have hpc : aPC a ≤ 16 := hok.2.2.2.2.1
  obtain ⟨r, r1, r2⟩ := lc6_loop N hok hw m hy (aPC a) 0 N (by omega) (by omega)
  unfold f_X5_leastCalled
  rw [zl_let]
  refine ⟨r, r1, r2.trans ?_⟩
  rw [fre_iff]
  exact ⟨fun h j hj => h j (by omega) hj, fun h j _ hj => h j hj⟩
theorem if_loop (N : Nat) {a : AW} {row : Nat → Int32} {w : Nat → Int64} (hok : zOK a) (hra : zRA a row w 0) (m : Int32) {y : Nat} (hy : y < 2 ^ 63) (K : Int32 → Option Int32) : ∀ (d i f : Nat) (z : Bool), i + d = aPC a → d < f → ∃ z' : Bool, f_X7_isFree_L6 N K row w (lN y) m f (zBo z) (nI i) = K (zBo z') ∧ (z' = true ↔ (z = true ∧ ∀ j, i ≤ j → j < aPC a → ¬ (bt m j = true ∧ aW a j = y))) := by
  have hpc : aPC a ≤ 16 := hok.2.2.2.2.1
  have h38 : row (38 : Int32).toNatClampNeg = nI (aPC a) := hra.2.2.2.2.1
  intro d
  induction d with
  | zero =>
    intro i f z hi hf
    obtain ⟨f', rfl⟩ : ∃ f', f = f' + 1 := ⟨f - 1, by omega⟩
    rw [f_X7_isFree_L6_s, h38, if_pos (nI_le (by omega) (by omega))]
    exact ⟨z, rfl, fun h => ⟨h, fun j h1 h2 => by omega⟩, fun h => h.1⟩
  | succ d ih =>
    intro i f z hi hf
    obtain ⟨f', rfl⟩ : ∃ f', f = f' + 1 := ⟨f - 1, by omega⟩
    have hi2 : i < aPC a := by omega
    obtain ⟨_, _, _, g3⟩ := zl_p55 hra hi2
    have step : ∀ z1 : Bool, (z1 = true ↔ (z = true ∧ ¬ (bt m i = true ∧ aW a i = y))) → ∃ z' : Bool, f_X7_isFree_L6 N K row w (lN y) m f' (zBo z1) (nI (i + 1)) = K (zBo z') ∧ (z' = true ↔ (z = true ∧ ∀ j, i ≤ j → j < aPC a → ¬ (bt m j = true ∧ aW a j = y))) := fun z1 h1 => by
      obtain ⟨z', q1, q2⟩ := ih (i + 1) f' z1 (by omega) (by omega)
      refine ⟨z', q1, q2.trans ?_⟩
      rw [h1]
      constructor
      · rintro ⟨⟨w1, w2⟩, w3⟩
        refine ⟨w1, fun j j1 j2 => ?_⟩
        by_cases e : j = i
        · rw [e]
          exact w2
        · exact w3 j (by omega) j2
      · rintro ⟨w1, w2⟩
        exact ⟨⟨w1, w2 i (Nat.le_refl _) hi2⟩, fun j j1 j2 => w2 j (by omega) j2⟩
    rw [f_X7_isFree_L6_s, h38, if_neg (nI_ge (by omega) (by omega)), zl_let, nI_1]
    cases z with
    | false =>
      rw [if_pos (show zBo false = 0 from rfl)]
      dsimp only
      rw [zl_let]
      exact step false ⟨fun q => by (cases q), fun q => q.1⟩
    | true =>
      rw [if_neg (show ¬ zBo true = 0 by decide), zl_b1 (has_eq (show i < 32 by omega))]
      cases c : bt m i with
      | false =>
        rw [if_pos (show (if false = true then (1 : Int32) else 0) = 0 from rfl)]
        dsimp only
        rw [zl_let]
        exact step true ⟨fun _ => ⟨rfl, fun q => by rw [c] at q; cases q.1⟩, fun _ => rfl⟩
      | true =>
        rw [if_neg (show ¬ (if true = true then (1 : Int32) else 0) = 0 by decide), zl_gd (zl_inN (show i < 48 by omega) (by decide)), zl_cl (show i < 2 ^ 31 by omega), g3]
        by_cases c2 : aW a i = y
        · rw [if_pos (show lN (aW a i) = lN y by rw [c2])]
          dsimp only
          rw [zl_let]
          exact step false ⟨fun q => by (cases q), fun q => absurd ⟨c, c2⟩ q.2⟩
        · rw [if_neg (show ¬ lN (aW a i) = lN y from fun q => c2 ((pk_lEQ (aW_63 hok hi2) hy).mp q))]
          dsimp only
          rw [zl_let]
          exact step true ⟨fun _ => ⟨rfl, fun q => c2 q.2⟩, fun _ => rfl⟩
theorem if_eq (N : Nat) (hN : 100000 ≤ N) {a : AW} {row : Nat → Int32} {w : Nat → Int64} (hok : zOK a) (hra : zRA a row w 0) (m : Int32) {y : Nat} (hy : y < 2 ^ 63) : f_X7_isFree N row w (lN y) m = some (zBo (fre a m y)) := by
  have hpc : aPC a ≤ 16 := hok.2.2.2.2.1
  obtain ⟨z', q1, q2⟩ := if_loop N hok hra m hy (fun (v4_13 : Int32) => zz_gd (zz_isB v4_13) ((some v4_13))) (aPC a) 0 N true (by omega) (by omega)
  have e : z' = fre a m y := by
    have h : z' = true ↔ fre a m y = true := q2.trans (by
      rw [fre_iff]
      exact ⟨fun h j hj => h.2 j (by omega) hj, fun h => ⟨rfl, fun j _ hj => h j hj⟩⟩)
    cases z' <;> cases h2 : fre a m y
    · rfl
    · exact absurd (h.mpr h2) (by decide)
    · exact absurd (h.mp rfl) (by rw [h2]; decide)
    · rfl
  unfold f_X7_isFree
  rw [zl_let, show f_X7_isFree_L6 N (fun (v4_13 : Int32) => zz_gd (zz_isB v4_13) ((some v4_13))) row w (lN y) m N 1 0 = _ from q1, e]
  cases fre a m y <;> rfl
theorem li_snoc {t : Nat → Int64} {kl : List Nat} {y : Nat} (h : zLi t kl) : zLi (vp_updL t kl.length (lN y)) (kl ++ [y]) := by
  intro i hi
  rw [List.length_append, List.length_singleton] at hi
  by_cases e : i = kl.length
  · subst e
    rw [pk_uLs, List.getD_eq_getElem?_getD]
    simp
  · rw [pk_uLn e, h i (by omega), List.getD_eq_getElem?_getD, List.getD_eq_getElem?_getD, List.getElem?_append_left (by omega)]
theorem dc_loop (N : Nat) (hN : 100000 ≤ N) {a : AW} {words : Nat → Int64} (hok : zOK a) (hw : ∀ p, p < aPC a → words p = lN (aW a p)) (m : Int32) {l : List Nat} (hlen : l.length ≤ 1110) (h63 : ∀ y ∈ l, y < 2 ^ 63) (K : (Int32) → (Nat → Int64) → Option ((Nat → Int64) × (Int32))) : ∀ (suf pre : List Nat) (f : Nat) (t : Nat → Int64), l = pre ++ suf → suf.length < f → zLi t (pre.filter (fre a m)) → (∀ j, pre.length ≤ j → j < l.length → t j = lN (l.getD j 0)) → ∃ t', f_X0_dropCalled_L5 N K (nI l.length) words (nI (aPC a)) m f (nI (pre.filter (fre a m)).length) (nI pre.length) t = K (nI (l.filter (fre a m)).length) t' ∧ zLi t' (l.filter (fre a m)) := by
  intro suf
  induction suf with
  | nil =>
    intro pre f t e hf h1 h2
    obtain ⟨f', rfl⟩ : ∃ f', f = f' + 1 := ⟨f - 1, by omega⟩
    rw [List.append_nil] at e
    subst e
    rw [f_X0_dropCalled_L5_s, if_pos (nI_le (Nat.le_refl _) (by omega))]
    exact ⟨t, rfl, h1⟩
  | cons y suf ih =>
    intro pre f t e hf h1 h2
    rw [List.length_cons] at hf
    obtain ⟨f', rfl⟩ : ∃ f', f = f' + 1 := ⟨f - 1, by omega⟩
    have e2 : l.length = pre.length + (suf.length + 1) := by rw [e, List.length_append, List.length_cons]
    have hy := h63 y (by rw [e]; exact List.mem_append_right _ List.mem_cons_self)
    have hk : (pre.filter (fre a m)).length ≤ pre.length := List.length_filter_le _ _
    have hty : t pre.length = lN y := by
      rw [h2 pre.length (Nat.le_refl _) (by omega), e]
      congr 1
      simp
    obtain ⟨r, r1, r2⟩ := lc6_eq N hN hok hw m hy
    have eapp : l = (pre ++ [y]) ++ suf := by rw [e, List.append_assoc]; rfl
    have elen : (pre ++ [y]).length = pre.length + 1 := by rw [List.length_append, List.length_singleton]
    rw [f_X0_dropCalled_L5_s, if_neg (nI_ge (by omega) (by omega)), zl_gd (zl_inN (show pre.length < 1110 by omega) (by decide)), zl_cl (show pre.length < 2 ^ 31 by omega), hty, zl_b1 r1, zl_let]
    by_cases c : r = -1
    · have hf1 := r2.mp c
      have ef : (pre ++ [y]).filter (fre a m) = pre.filter (fre a m) ++ [y] := by
        rw [List.filter_append, List.filter_cons_of_pos hf1]
        rfl
      have ih2 := ih (pre ++ [y]) f' (vp_updL t (pre.filter (fre a m)).length (lN y)) eapp (by omega) (by rw [ef]; exact li_snoc h1) (fun j hj hj2 => by
        rw [elen] at hj
        rw [pk_uLn (by omega)]
        exact h2 j (by omega) hj2)
      rw [ef, elen, List.length_append, List.length_singleton] at ih2
      rw [if_pos c, zl_gd (zl_inN (show (pre.filter (fre a m)).length < 1110 by omega) (by decide)), zl_let, zl_let, nI_1, zl_cl (show (pre.filter (fre a m)).length < 2 ^ 31 by omega)]
      dsimp only
      rw [zl_let, nI_1]
      exact ih2
    · have hf1 : ¬ fre a m y = true := fun q => c (r2.mpr q)
      have ef : (pre ++ [y]).filter (fre a m) = pre.filter (fre a m) := by
        rw [List.filter_append, List.filter_cons_of_neg hf1]
        exact List.append_nil _
      have ih2 := ih (pre ++ [y]) f' t eapp (by omega) (by rw [ef]; exact h1) (fun j hj hj2 => by
        rw [elen] at hj
        exact h2 j (by omega) hj2)
      rw [ef, elen] at ih2
      rw [if_neg c]
      dsimp only
      rw [zl_let, nI_1]
      exact ih2
theorem dc_eq (N : Nat) (hN : 100000 ≤ N) {a : AW} {words : Nat → Int64} (hok : zOK a) (hw : ∀ p, p < aPC a → words p = lN (aW a p)) (m : Int32) {l : List Nat} (hlen : l.length ≤ 1110) (h63 : ∀ y ∈ l, y < 2 ^ 63) {codes : Nat → Int64} (hl : zLi codes l) : ∃ t', f_X0_dropCalled N codes (nI l.length) words (nI (aPC a)) m = some (t', nI (l.filter (fre a m)).length) ∧ zLi t' (l.filter (fre a m)) := by
  unfold f_X0_dropCalled
  rw [zl_let]
  exact dc_loop N hN hok hw m hlen h63 (fun (v3_16 : Int32) (t_codes_17 : Nat → Int64) => (some (t_codes_17, v3_16))) l [] N codes rfl (by omega) (fun i hi => absurd hi (Nat.not_lt_zero _)) (fun j _ hj => hl j hj)
theorem fr7_loop (N : Nat) (hN : 100000 ≤ N) {a : AW} {row : Nat → Int32} {w : Nat → Int64} (hok : zOK a) (hra : zRA a row w 0) (m : Int32) (far : Nat → Int32) {names : Nat → Int64} {l : List Nat} (hl : zLi names l) (hlen : l.length ≤ 1110) (hw : ∀ y ∈ l, isW 9 y) {p : Nat} (hp : p < aPC a) (p2 : Int32) (K : (Int32) → Option (Int64 × (Nat → Int32) × (Nat → Int64) × (Int32))) : ∀ (suf pre : List Nat) (f c : Nat), l = pre ++ suf → suf.length < f → c ≤ pre.length → (p2 = -1 → f_X7_free_L37 N K row w (nI p) p2 names (nI l.length) m far f (nI c) (nI pre.length) = K (nI (c + (suf.filter (fun y => fre a m y && (aSum a y == aD a p))).length))) ∧ ∀ t, t < 2 ^ 31 → p2 = nI t → c ≤ t → f_X7_free_L37 N K row w (nI p) p2 names (nI l.length) m far f (nI c) (nI pre.length) = match (suf.filter (fun y => fre a m y && (aSum a y == aD a p)))[t - c]? with | some y => some (lN y, far, names, nI l.length) | none => K (nI (c + (suf.filter (fun y => fre a m y && (aSum a y == aD a p))).length)) := by
  have hpc : aPC a ≤ 16 := hok.2.2.2.2.1
  have hd := hok.2.2.2.2.2.1 p hp
  obtain ⟨g0, _, _, _⟩ := zl_p55 hra hp
  intro suf
  induction suf with
  | nil =>
    intro pre f c e hf _
    obtain ⟨f', rfl⟩ : ∃ f', f = f' + 1 := ⟨f - 1, by omega⟩
    have e2 : l.length = pre.length := by rw [e, List.append_nil]
    rw [f_X7_free_L37_s, e2, if_pos (nI_le (Nat.le_refl _) (by omega))]
    exact ⟨fun _ => rfl, fun _ _ _ _ => rfl⟩
  | cons y suf ih =>
    intro pre f c e hf hcp
    rw [List.length_cons] at hf
    obtain ⟨f', rfl⟩ : ∃ f', f = f' + 1 := ⟨f - 1, by omega⟩
    have e2 : l.length = pre.length + (suf.length + 1) := by rw [e, List.length_append, List.length_cons]
    have hy : isW 9 y := hw y (by rw [e]; exact List.mem_append_right _ List.mem_cons_self)
    have h63 := w_63 hy
    have hsl := aSum_le hok h63
    have ih2 := fun c (hcp : c ≤ pre.length + 1) => ih (pre ++ [y]) f' c (by rw [e, List.append_assoc]; rfl) (by omega) (by rw [List.length_append, List.length_singleton]; exact hcp)
    rw [List.length_append, List.length_singleton] at ih2
    rw [f_X7_free_L37_s, if_neg (nI_ge (by omega) (by omega)), zl_gd (zl_inN (show pre.length < 1110 by omega) (by decide)), zl_cl (show pre.length < 2 ^ 31 by omega), li_at hl e, zl_b1 (sum7 N hN (zl_row0 hra) h63 (isW_iff.mp hy).2.2), show (39 : Int32) = nI 39 from rfl, nI_add, zl_gd (zl_inN (show 39 + p < 300 by omega) (by decide)), zl_let, zl_cl (show 39 + p < 2 ^ 31 by omega), g0]
    have no : ¬ (fre a m y && (aSum a y == aD a p)) = true → (fun (v4_21 : Int32) => zz_let (nI pre.length + (1 : Int32)) (fun v5_22 => (f_X7_free_L37 N K row w (nI p) p2 names (nI l.length) m far f' v4_21 v5_22))) (nI c) = f_X7_free_L37 N K row w (nI p) p2 names (nI l.length) m far f' (nI c) (nI (pre.length + 1)) := fun _ => by
      dsimp only
      rw [zl_let, nI_1]
    by_cases c1 : aSum a y = aD a p
    · rw [if_pos (show nI (aSum a y) = nI (aD a p) by rw [c1]), zl_b1 (if_eq N hN hok hra m h63)]
      cases c2 : fre a m y with
      | false =>
        rw [if_pos (show zBo false = 0 from rfl), List.filter_cons_of_neg (p := fun y => fre a m y && (aSum a y == aD a p)) (by rw [c2]; exact fun q => by cases q), no (by rw [c2]; exact fun q => by cases q)]
        exact ih2 c (by omega)
      | true =>
        rw [if_neg (show ¬ zBo true = 0 by decide), List.filter_cons_of_pos (p := fun y => fre a m y && (aSum a y == aD a p)) (by rw [c2, beq_iff_eq.mpr c1]; rfl), zl_let, nI_1, List.length_cons]
        dsimp only
        rw [zl_let, nI_1]
        obtain ⟨i1, i2⟩ := ih2 (c + 1) (by omega)
        refine ⟨fun h => ?_, fun t ht h hc => ?_⟩
        · rw [if_neg (fun q => zl_nm1 (n := c) (by omega) (q.trans h)), i1 h]
          congr 2
          omega
        · by_cases c3 : c = t
          · rw [if_pos (show nI c = p2 by rw [h, c3]), c3, Nat.sub_self, List.getElem?_cons_zero]
          · rw [if_neg (fun q => c3 ((nI_eq (by omega) ht).mp (q.trans h))), i2 t ht h (by omega), show t - c = (t - (c + 1)) + 1 by omega, List.getElem?_cons_succ, show c + 1 + (suf.filter (fun y => fre a m y && (aSum a y == aD a p))).length = c + ((suf.filter (fun y => fre a m y && (aSum a y == aD a p))).length + 1) by omega]
    · have hno : ¬ (fre a m y && (aSum a y == aD a p)) = true := fun q => by
        rw [Bool.and_eq_true, beq_iff_eq] at q
        exact c1 q.2
      rw [if_neg (show ¬ nI (aSum a y) = nI (aD a p) from fun r => c1 ((nI_eq (by omega) (by omega)).mp r)), List.filter_cons_of_neg (p := fun y => fre a m y && (aSum a y == aD a p)) hno, no hno]
      exact ih2 c (by omega)
theorem pr_free (c : Nat → ClassId) (n_numbers : Nat → Int32) (n_syllables : Nat → Int64) (n_syllableCount : Int32) (n_days : Nat → Int32) (n_words : Nat → Int64) (n_parents : Nat → Int32) (n_otherParents : Nat → Int32) (n_kinds : Nat → Int32) (n_personCount : Int32) (n_hopeDays : Nat → Int32) (n_hopeTenths : Nat → Int32) (n_hopeCount : Int32) (n_degreesTold : Int32) (r_text : Nat → Int32) (r_length : Int32) (s_lane : Nat → Int32) (s_size : Nat → Int32) (s_items : Nat → Nat → Int32) (i_ir : Nat → Option Nat) (g0 : va_W) (g1 : va_W) (z_row : Nat → Int32) (z_words : Nat → Int64) (z_isKept : Nat → Int32) (z_text : Nat → Int32) (z_length : Int32) (z_lanes : Nat → Int32) (z_sizes : Nat → Int32) (z_items : Nat → Int32) (m_codes : Nat → Int64) (m_size : Int32) (m_partCodes : Nat → Int64) (m_partShifts : Nat → Int64) (m_partSums : Nat → Int32) (m_partCount : Int32) (m_wantedDay : Int32) (m_divisorsWanted : Int32) (z_far : Nat → Int32) (z_names : Nat → Int64) (z_nameMany : Int32) (p1 : Int32) (p2 : Int32) (N : Nat) (hN : 100000 ≤ N) (hR : zRel c n_numbers n_syllables n_syllableCount n_days n_words n_parents n_otherParents n_kinds n_personCount n_hopeDays n_hopeTenths n_hopeCount n_degreesTold r_text r_length s_lane s_size s_items i_ir g0 g1 z_row z_words z_isKept z_text z_length z_lanes z_sizes z_items) : ∃ (r : Int64) (o_m_codes : Nat → Int64) (o_m_size : Int32) (o_m_partCodes : Nat → Int64) (o_m_partShifts : Nat → Int64) (o_m_partSums : Nat → Int32) (o_m_partCount : Int32) (o_m_wantedDay : Int32) (o_m_divisorsWanted : Int32) (e_far : Nat → Int32) (e_names : Nat → Int64) (e_nameMany : Int32), f_X6_free N n_numbers n_syllables n_syllableCount n_days n_words n_parents n_otherParents n_kinds n_personCount n_degreesTold m_codes m_size m_partCodes m_partShifts m_partSums m_partCount m_wantedDay m_divisorsWanted p1 p2 = some (r, o_m_codes, o_m_size, o_m_partCodes, o_m_partShifts, o_m_partSums, o_m_partCount, o_m_wantedDay, o_m_divisorsWanted) ∧ f_X7_free N z_row z_words z_far z_names z_nameMany p1 p2 = some (r, e_far, e_names, e_nameMany) ∧ zRel c n_numbers n_syllables n_syllableCount n_days n_words n_parents n_otherParents n_kinds n_personCount n_hopeDays n_hopeTenths n_hopeCount n_degreesTold r_text r_length s_lane s_size s_items i_ir g0 g1 z_row z_words z_isKept z_text z_length z_lanes z_sizes z_items := by
  obtain ⟨⟨a, hok, hw, hra⟩, _⟩ := id hR
  have hpc : aPC a ≤ 16 := hok.2.2.2.2.1
  have h38 : z_row 38 = nI (aPC a) := hra.2.2.2.2.1
  suffices hh : ∃ (r : Int64) (o_m_codes : Nat → Int64) (o_m_size : Int32) (o_m_partCodes : Nat → Int64) (o_m_partShifts : Nat → Int64) (o_m_partSums : Nat → Int32) (o_m_partCount : Int32) (o_m_wantedDay : Int32) (o_m_divisorsWanted : Int32) (e_far : Nat → Int32) (e_names : Nat → Int64) (e_nameMany : Int32), f_X6_free N n_numbers n_syllables n_syllableCount n_days n_words n_parents n_otherParents n_kinds n_personCount n_degreesTold m_codes m_size m_partCodes m_partShifts m_partSums m_partCount m_wantedDay m_divisorsWanted p1 p2 = some (r, o_m_codes, o_m_size, o_m_partCodes, o_m_partShifts, o_m_partSums, o_m_partCount, o_m_wantedDay, o_m_divisorsWanted) ∧ f_X7_free N z_row z_words z_far z_names z_nameMany p1 p2 = some (r, e_far, e_names, e_nameMany) by
    obtain ⟨x0, x1, x2, x3, x4, x5, x6, x7, x8, x9, x10, x11, h1, h2⟩ := hh
    exact ⟨x0, x1, x2, x3, x4, x5, x6, x7, x8, x9, x10, x11, h1, h2, hR⟩
  unfold f_X6_free f_X7_free
  rw [hw.2.2.2.1, hw.2.1, hw.2.2.2.2.2.2.2]
  rcases zl_case p1 (aPC a) (by omega) with ⟨p, hp, rfl⟩ | h
  · rw [zl_bT (zl_isPerson_t hp hpc), zl_bT (zl_7isPerson_t h38 hpc hp)]
    by_cases c : (-1 : Int32) ≤ p2
    · have hd := hok.2.2.2.2.2.1 p hp
      obtain ⟨d0, _⟩ := hw.2.2.2.2.1 p hp
      have hwo : ∀ p, p < aPC a → n_words p = lN (aW a p) := fun q hq => (hw.2.2.2.2.1 q hq).2.1
      obtain ⟨names', l, r1, r2, r3, r4, r5, r6, r7⟩ := nd_eq N hN hok hw.1 hw.2.2.1 hra z_names
      obtain ⟨codes', pc', ps', pm', pk', g1, g2⟩ := r7 m_codes m_partCodes m_partShifts m_partSums (aD a p) hd.1 hd.2.1
      obtain ⟨m, far', e1, e2, _⟩ := near_eq N hN hok hra (zKin_of hw) hp z_far
      have hle : (l.filter (fun y => aSum a y == aD a p)).length ≤ 1110 := Nat.le_trans (List.length_filter_le _ _) r3
      obtain ⟨t', t1, t2⟩ := dc_eq N hN hok hwo m hle (fun y hy => w_63 (r4 y (List.mem_filter.mp hy).1)) g2
      rw [List.filter_filter] at t1 t2
      obtain ⟨b1, b2⟩ := fr7_loop N hN hok hra m far' r2 r3 r4 hp p2 (fun (v4_23 : Int32) => (if p2 = (-1 : Int32) then (some (v4_23.toInt64, far', names', nI l.length)) else (some ((-1 : Int64), far', names', nI l.length)))) l [] N 0 rfl (by omega) (by omega)
      have hle2 : (l.filter (fun y => fre a m y && (aSum a y == aD a p))).length ≤ 1110 := Nat.le_trans (List.length_filter_le _ _) r3
      rw [if_pos c, if_pos c, zl_gd (zl_inN (show p < 16 by omega) (by decide)), zl_cl (show p < 2 ^ 31 by omega), d0, zl_b2 r1, zl_b2 e2, zl_let]
      simp only [zz_b8, g1, Option.bind_some]
      rw [zl_b1 e1, zl_b2 t1]
      by_cases c2 : p2 = -1
      · rw [if_pos c2]
        rw [show f_X7_free_L37 N (fun (v4_23 : Int32) => (if p2 = (-1 : Int32) then (some (v4_23.toInt64, far', names', nI l.length)) else (some ((-1 : Int64), far', names', nI l.length)))) z_row z_words (nI p) p2 names' (nI l.length) m far' N 0 0 = _ from b1 c2]
        rw [if_pos c2, Nat.zero_add]
        exact ⟨_, _, _, _, _, _, _, _, _, _, _, _, rfl, rfl⟩
      · obtain ⟨t, ht, e⟩ := nI_of (x := p2) (fun q => by
          rw [fa_le] at c
          rw [zl_lt0] at q
          have h1 : (-1 : Int32).toInt = -1 := rfl
          exact c2 ((fa_eq _ _).mpr (by omega)))
        rw [if_neg c2]
        rw [show f_X7_free_L37 N (fun (v4_23 : Int32) => (if p2 = (-1 : Int32) then (some (v4_23.toInt64, far', names', nI l.length)) else (some ((-1 : Int64), far', names', nI l.length)))) z_row z_words (nI p) p2 names' (nI l.length) m far' N 0 0 = _ from b2 t ht e (by omega)]
        rw [Nat.sub_zero, if_neg c2, e]
        by_cases c3 : t < (l.filter (fun y => fre a m y && (aSum a y == aD a p))).length
        · rw [if_neg (nI_ge c3 (by omega)), zl_gd (zl_inN (show t < 1110 by omega) (by decide)), zl_cl (show t < 2 ^ 31 by omega), t2 t c3, List.getElem?_eq_getElem c3]
          refine ⟨_, _, _, _, _, _, _, _, _, far', names', nI l.length, rfl, ?_⟩
          rw [List.getD_eq_getElem?_getD, List.getElem?_eq_getElem c3]
          rfl
        · rw [if_pos (nI_le (by omega) (by omega)), List.getElem?_eq_none (by omega)]
          exact ⟨_, _, _, _, _, _, _, _, _, _, _, _, rfl, rfl⟩
    · rw [if_neg c, if_neg c]
      exact ⟨_, _, _, _, _, _, _, _, _, _, _, _, rfl, rfl⟩
  · rw [zl_bF (zl_isPerson_f h hpc), zl_bF (zl_7isPerson_f h38 hpc h)]
    exact ⟨_, _, _, _, _, _, _, _, _, _, _, _, rfl, rfl⟩
