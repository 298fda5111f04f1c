/-! ===== rows of codes as lists ===== -/
def zLi (f : Nat → Int64) (l : List Nat) : Prop := ∀ i, i < l.length → f i = lN (l.getD i 0)
theorem li_at {f : Nat → Int64} {l pre suf : List Nat} {x : Nat} (h : zLi f l) (e : l = pre ++ x :: suf) : f pre.length = lN x := by
  have h1 := h pre.length (by rw [e, List.length_append, List.length_cons]; omega)
  rw [h1, e]
  congr 1
  simp
theorem li_uniq : ∀ (l l' : List Nat), l.Pairwise (· < ·) → l'.Pairwise (· < ·) → (∀ y, y ∈ l ↔ y ∈ l') → l = l' := by
  intro l
  induction l with
  | nil =>
    intro l' _ _ h
    cases l' with
    | nil => rfl
    | cons x l' => exact absurd ((h x).mpr List.mem_cons_self) (by intro q; cases q)
  | cons x l ih =>
    intro l' h1 h2 h
    cases l' with
    | nil => exact absurd ((h x).mp List.mem_cons_self) (by intro q; cases q)
    | cons x' l' =>
      rw [List.pairwise_cons] at h1 h2
      have e : x = x' := by
        rcases List.mem_cons.mp ((h x).mp List.mem_cons_self) with q | q
        · exact q
        · rcases List.mem_cons.mp ((h x').mpr List.mem_cons_self) with r | r
          · exact r.symm
          · have a1 := h2.1 x q
            have a2 := h1.1 x' r
            omega
      subst e
      rw [ih l' h1.2 h2.2 (fun y => ?_)]
      constructor
      · intro hy
        rcases List.mem_cons.mp ((h y).mp (List.mem_cons_of_mem _ hy)) with q | q
        · have := h1.1 y hy
          omega
        · exact q
      · intro hy
        rcases List.mem_cons.mp ((h y).mpr (List.mem_cons_of_mem _ hy)) with q | q
        · have := h2.1 y hy
          omega
        · exact q
theorem li_of {f : Nat → Int64} {n : Nat} {T : Nat → Prop} (hs : zSs f n) (hT : ∀ y, T y → y < 2 ^ 63) (h : ∀ u, zIn f n u ↔ ∃ y, u = lN y ∧ T y) : ∃ l : List Nat, l.length = n ∧ zLi f l ∧ l.Pairwise (· < ·) ∧ ∀ y, y ∈ l ↔ T y := by
  have at_ : ∀ i, i < n → T (f i).toInt.toNat ∧ f i = lN (f i).toInt.toNat := fun i hi => by
    obtain ⟨y, y1, y2⟩ := (h (f i)).mp ⟨i, hi, rfl⟩
    have e : (f i).toInt.toNat = y := by
      rw [y1, pk_lT (hT y y2)]
      rfl
    rw [e]
    exact ⟨y2, y1⟩
  refine ⟨(List.range n).map (fun i => (f i).toInt.toNat), ?_, fun i hi => ?_, ?_, fun y => ?_⟩
  · rw [List.length_map, List.length_range]
  · rw [List.length_map, List.length_range] at hi
    rw [List.getD_eq_getElem?_getD, List.getElem?_map, List.getElem?_range hi]
    exact (at_ i hi).2
  · rw [List.pairwise_map]
    refine List.Pairwise.imp_of_mem ?_ List.pairwise_lt_range
    intro i j hi hj hij
    have hi := List.mem_range.mp hi
    have hj := List.mem_range.mp hj
    have h1 := hs i j hij hj
    obtain ⟨a1, a2⟩ := at_ i hi
    obtain ⟨b1, b2⟩ := at_ j hj
    have a3 := hT _ a1
    have b3 := hT _ b1
    rw [a2, b2, pk_lT a3, pk_lT b3] at h1
    omega
  · rw [List.mem_map]
    constructor
    · rintro ⟨i, i1, rfl⟩
      exact (at_ i (List.mem_range.mp i1)).1
    · intro hy
      obtain ⟨i, i1, i2⟩ := (h (lN y)).mpr ⟨y, rfl, hy⟩
      refine ⟨i, List.mem_range.mpr i1, ?_⟩
      rw [i2, pk_lT (hT y hy)]
      rfl
theorem nm_w {a : AW} (hok : zOK a) {y : Nat} (h : aNm a y) : isW 9 y := by
  obtain ⟨i, j, k, i1, j1, k1, h⟩ := h
  have si : isSy a (aS a i) := ⟨i, i1, rfl⟩
  have sj : isSy a (aS a j) := ⟨j, j1, rfl⟩
  have sk : isSy a (aS a k) := ⟨k, k1, rfl⟩
  rw [isW_iff]
  rcases h with rfl | rfl | rfl
  · have h1 := sy_lt hok si
    exact ⟨h1.1, by rw [p27]; omega, sy_D hok si⟩
  · have h1 := jn_63 hok si sj
    refine ⟨?_, Nat.lt_of_lt_of_le h1.2 (by decide), by rw [zDg_jn (sy_63 hok sj) h1.1, sy_D hok sj, sy_D hok si]; rfl⟩
    have := (sy_lt hok sj).1
    unfold jn
    omega
  · have h2 := jn_63 hok si sj
    have h1 := jn3_63 hok si sj sk
    refine ⟨?_, h1.2, by rw [zDg_jn (sy_63 hok sk) h1.1, sy_D hok sk, zDg_jn (sy_63 hok sj) h2.1, sy_D hok sj, sy_D hok si]; rfl⟩
    have := (sy_lt hok sk).1
    unfold jn
    omega
theorem w_63 {y : Nat} (h : isW 9 y) : y < 2 ^ 63 := by
  have := h.2.1
  rw [p27] at this
  omega
/-- the names of a world, and those for a day, in order -/
theorem nd_eq (N : Nat) (hN : 100000 ≤ N) {a : AW} {row : Nat → Int32} {w : Nat → Int64} {num : Nat → Int32} {syl : Nat → Int64} (hok : zOK a) (hn : ∀ i, i < 26 → num i = nI (aN a i)) (hs : ∀ i, i < aSC a → syl i = lN (aS a i)) (hra : zRA a row w 0) (names : Nat → Int64) : ∃ (names' : Nat → Int64) (l : List Nat), f_X7_layNames N row names = some (names', nI l.length) ∧ zLi names' l ∧ l.length ≤ 1110 ∧ (∀ y ∈ l, isW 9 y) ∧ l.Pairwise (· < ·) ∧ (∀ y, y ∈ l ↔ (aB a y = true ∧ aNm a y)) ∧ ∀ (codes pc ps : Nat → Int64) (pm : Nat → Int32) (D : Nat), 1 ≤ D → D ≤ 400 → ∃ codes' pc' ps' pm' pk', f_X0_gather N codes pc ps pm num syl (nI (aSC a)) (nI D) 0 = some (codes', nI (l.filter (fun y => aSum a y == D)).length, pc', ps', pm', pk', nI D, 0) ∧ zLi codes' (l.filter (fun y => aSum a y == D)) := by
  obtain ⟨names', n', r1, r2, r3, r4⟩ := ns_eq N hN hok hra names
  obtain ⟨l, l1, l2, l3, l4⟩ := li_of r3 (fun y hy => w_63 (nm_w hok hy.2)) r4
  subst l1
  refine ⟨names', l, r1, l2, r2, fun y hy => nm_w hok ((l4 y).mp hy).2, l3, l4, fun codes pc ps pm D hD1 hD => ?_⟩
  obtain ⟨c', k', pc', ps', pm', pk', g1, g2, g3, g4⟩ := ga_eq N hN hok hn hs codes pc ps pm (D := D) false hD1 hD
  obtain ⟨l', e1, e2, e3, e4⟩ := li_of g3 (fun y hy => w_63 (nm_w hok hy.2.1)) g4
  have el : l' = l.filter (fun y => aSum a y == D) := by
    refine li_uniq _ _ e3 (List.Pairwise.filter _ l3) (fun y => ?_)
    rw [e4 y, List.mem_filter, l4 y, beq_iff_eq]
    constructor
    · rintro ⟨q1, q2, q3 | q3⟩
      · exact ⟨⟨q1, q2⟩, q3⟩
      · cases q3.1
    · rintro ⟨⟨q1, q2⟩, q3⟩
      exact ⟨q1, q2, Or.inl q3⟩
  rw [← el, e1]
  exact ⟨c', pc', ps', pm', pk', g1, e2⟩
theorem isDay_cases (p : Int32) : (∃ D : Nat, 1 ≤ D ∧ D ≤ 400 ∧ p = nI D) ∨ ¬ (1 ≤ p.toInt ∧ p.toInt ≤ 400) := by
  rcases zl_case p 401 (by decide) with ⟨j, hj, rfl⟩ | h
  · by_cases c : 1 ≤ j
    · exact Or.inl ⟨j, c, by omega, rfl⟩
    · refine Or.inr (fun q => ?_)
      rw [nI_toInt (by omega)] at q
      omega
  · refine Or.inr (fun q => h ⟨by omega, by omega⟩)
theorem day6_t {N D : Nat} (h1 : 1 ≤ D) (h2 : D ≤ 400) : f_X6_isDay N (nI D) = some 1 := by
  rw [zl_isDay, if_pos (by rw [nI_toInt (by omega)]; omega)]
theorem day6_f {N : Nat} {p : Int32} (h : ¬ (1 ≤ p.toInt ∧ p.toInt ≤ 400)) : f_X6_isDay N p = some 0 := by
  rw [zl_isDay, if_neg h]
theorem day7_t {N D : Nat} (h1 : 1 ≤ D) (h2 : D ≤ 400) : f_X7_isDay N (nI D) = some 1 := by
  rw [zl_7isDay, if_pos (by rw [nI_toInt (by omega)]; omega)]
theorem day7_f {N : Nat} {p : Int32} (h : ¬ (1 ≤ p.toInt ∧ p.toInt ≤ 400)) : f_X7_isDay N p = some 0 := by
  rw [zl_7isDay, if_neg h]
theorem lo6_w (N : Nat) (hN : 100000 ≤ N) {y : Nat} (h : isW 9 y) : f_X6_lettersOf N (lN y) = some (nI (zL y).length) ∧ (zL y).length ≤ 9 := by
  rcases code_cases N hN (lN y) with ⟨n, h1, e, h2, h3, h4, h5⟩ | ⟨_, _, h3⟩
  · have : y = n := (pk_lEQ (w_63 h) (w_63 h1)).mp e
    rw [this] at h2 ⊢
    exact ⟨h2, h4⟩
  · exact absurd rfl (h3 y h)
theorem nc6_loop (N : Nat) (hN : 100000 ≤ N) {codes : Nat → Int64} {l : List Nat} (hl : zLi codes l) (hlen : l.length ≤ 1110) (hw : ∀ y ∈ l, isW 9 y) {q : Nat} (hq : q ≤ 9) (K : (Int32) → Option (Int32 × (Nat → Int64) × (Int32) × (Nat → Int64) × (Nat → Int64) × (Nat → Int32) × (Int32) × (Int32) × (Int32))) : ∀ (suf pre : List Nat) (f s : Nat), l = pre ++ suf → suf.length < f → f_X6_names_L50 N K (nI q) codes (nI l.length) f (nI s) (nI pre.length) = K (nI (s + suf.countP (fun y => (zL y).length == q))) := by
  intro suf
  induction suf with
  | nil =>
    intro pre f s e hf
    obtain ⟨f', rfl⟩ : ∃ f', f = f' + 1 := ⟨f - 1, by omega⟩
    have e2 : l.length = pre.length := by rw [e, List.append_nil]
    rw [f_X6_names_L50_s, e2, if_pos (nI_le (Nat.le_refl _) (by omega))]
    rfl
  | cons y suf ih =>
    intro pre f s e hf
    rw [List.length_cons] at hf
    obtain ⟨f', rfl⟩ : ∃ f', f = f' + 1 := ⟨f - 1, by omega⟩
    have e2 : l.length = pre.length + (suf.length + 1) := by rw [e, List.length_append, List.length_cons]
    have hy : isW 9 y := hw y (by rw [e]; exact List.mem_append_right _ List.mem_cons_self)
    obtain ⟨a1, a2⟩ := lo6_w N hN hy
    have ih2 := fun s => ih (pre ++ [y]) f' s (by rw [e, List.append_assoc]; rfl) (by omega)
    rw [List.length_append, List.length_singleton] at ih2
    rw [f_X6_names_L50_s, if_neg (nI_ge (by omega) (by omega)), zl_gd (zl_inN (show pre.length < 1110 by omega) (by decide)), zl_cl (by omega), li_at hl e, zl_b1 a1, zl_let, List.countP_cons]
    by_cases c : (zL y).length = q
    · rw [if_pos (show nI (zL y).length = nI q by rw [c]), zl_let, nI_1]
      dsimp only
      rw [zl_let, nI_1, ih2 (s + 1), if_pos (beq_iff_eq.mpr c)]
      congr 2
      omega
    · rw [if_neg (show ¬ nI (zL y).length = nI q from fun r => c ((nI_eq (by omega) (by omega)).mp r))]
      dsimp only
      rw [zl_let, nI_1, ih2 s, if_neg (fun r => c (beq_iff_eq.mp r))]
      rfl
theorem nc7_loop (N : Nat) (hN : 100000 ≤ N) {a : AW} {row : Nat → Int32} (hok : zOK a) (hn : ∀ i, i < 26 → row i = nI (aN a i)) {names : Nat → Int64} {l : List Nat} (hl : zLi names l) (hlen : l.length ≤ 1110) (hw : ∀ y ∈ l, isW 9 y) {q D : Nat} (hq : q ≤ 9) (hD : D ≤ 400) (P : Nat → Bool) (hP : ∀ y, P y = true ↔ (aSum a y = D ∧ (q = 0 ∨ (zL y).length = q))) (K : (Int32) → Option (Int32 × (Nat → Int64) × (Int32))) : ∀ (suf pre : List Nat) (f s : Nat), l = pre ++ suf → suf.length < f → f_X7_names_L31 N K row (nI D) (nI q) names (nI l.length) f (nI s) (nI pre.length) = K (nI (s + suf.countP P)) := by
  intro suf
  induction suf with
  | nil =>
    intro pre f s e hf
    obtain ⟨f', rfl⟩ : ∃ f', f = f' + 1 := ⟨f - 1, by omega⟩
    have e2 : l.length = pre.length := by rw [e, List.append_nil]
    rw [f_X7_names_L31_s, e2, if_pos (nI_le (Nat.le_refl _) (by omega))]
    rfl
  | cons y suf ih =>
    intro pre f s e hf
    rw [List.length_cons] at hf
    obtain ⟨f', rfl⟩ : ∃ f', f = f' + 1 := ⟨f - 1, by omega⟩
    have e2 : l.length = pre.length + (suf.length + 1) := by rw [e, List.length_append, List.length_cons]
    have hy : isW 9 y := hw y (by rw [e]; exact List.mem_append_right _ List.mem_cons_self)
    have h63 := w_63 hy
    have hsl := aSum_le hok h63
    have hll := zL_14 h63
    have ih2 := fun s => ih (pre ++ [y]) f' s (by rw [e, List.append_assoc]; rfl) (by omega)
    rw [List.length_append, List.length_singleton] at ih2
    rw [f_X7_names_L31_s, if_neg (nI_ge (by omega) (by omega)), zl_gd (zl_inN (show pre.length < 1110 by omega) (by decide)), zl_cl (by omega), li_at hl e, zl_b1 (sum7 N hN hn h63 (isW_iff.mp hy).2.2), zl_let, List.countP_cons]
    have yes : ∀ x : Nat, zz_let (nI s + nI x) (fun v3_19 => zz_let (nI pre.length + (1 : Int32)) (fun v4_20 => (f_X7_names_L31 N K row (nI D) (nI q) names (nI l.length) f' v3_19 v4_20))) = K (nI (s + x + suf.countP P)) := fun x => by
      rw [zl_let, zl_let, nI_1, nI_add, ih2]
    by_cases c : aSum a y = D
    · rw [if_pos (show nI (aSum a y) = nI D by rw [c])]
      by_cases c2 : q = 0
      · rw [if_pos (show nI q = 0 by rw [c2]; rfl), if_pos ((hP y).mpr ⟨c, Or.inl c2⟩)]
        refine (yes 1).trans ?_
        congr 2
        omega
      · rw [if_neg (nI_ne0 (by omega) (by omega)), zl_b1 (lo7_eq N hN h63)]
        by_cases c3 : (zL y).length = q
        · rw [if_pos (show nI (zL y).length = nI q by rw [c3]), if_pos ((hP y).mpr ⟨c, Or.inr c3⟩)]
          refine (yes 1).trans ?_
          congr 2
          omega
        · rw [if_neg (show ¬ nI (zL y).length = nI q from fun r => c3 ((nI_eq (by omega) (by omega)).mp r)), if_neg (fun r => by
            rcases ((hP y).mp r).2 with r | r
            · exact c2 r
            · exact c3 r)]
          exact yes 0
    · rw [if_neg (show ¬ nI (aSum a y) = nI D from fun r => c ((nI_eq (by omega) (by omega)).mp r)), if_neg (fun r => c ((hP y).mp r).1)]
      exact yes 0
theorem pr_names (c : Nat → ClassId) (n_numbers : Nat → Int32) (n_syllables : Nat → Int64) (n_syllableCount : Int32) (n_days : Nat → Int32) (n_words : Nat → Int64) (n_parents : Nat → Int32) (n_otherParents : Nat → Int32) (n_kinds : Nat → Int32) (n_personCount : Int32) (n_hopeDays : Nat → Int32) (n_hopeTenths : Nat → Int32) (n_hopeCount : Int32) (n_degreesTold : Int32) (r_text : Nat → Int32) (r_length : Int32) (s_lane : Nat → Int32) (s_size : Nat → Int32) (s_items : Nat → Nat → Int32) (i_ir : Nat → Option Nat) (g0 : va_W) (g1 : va_W) (z_row : Nat → Int32) (z_words : Nat → Int64) (z_isKept : Nat → Int32) (z_text : Nat → Int32) (z_length : Int32) (z_lanes : Nat → Int32) (z_sizes : Nat → Int32) (z_items : Nat → Int32) (m_codes : Nat → Int64) (m_size : Int32) (m_partCodes : Nat → Int64) (m_partShifts : Nat → Int64) (m_partSums : Nat → Int32) (m_partCount : Int32) (m_wantedDay : Int32) (m_divisorsWanted : Int32) (z_names : Nat → Int64) (z_nameMany : Int32) (p1 : Int32) (p2 : Int32) (N : Nat) (hN : 100000 ≤ N) (hR : zRel c n_numbers n_syllables n_syllableCount n_days n_words n_parents n_otherParents n_kinds n_personCount n_hopeDays n_hopeTenths n_hopeCount n_degreesTold r_text r_length s_lane s_size s_items i_ir g0 g1 z_row z_words z_isKept z_text z_length z_lanes z_sizes z_items) : ∃ (r : Int32) (o_m_codes : Nat → Int64) (o_m_size : Int32) (o_m_partCodes : Nat → Int64) (o_m_partShifts : Nat → Int64) (o_m_partSums : Nat → Int32) (o_m_partCount : Int32) (o_m_wantedDay : Int32) (o_m_divisorsWanted : Int32) (e_names : Nat → Int64) (e_nameMany : Int32), f_X6_names N n_numbers n_syllables n_syllableCount m_codes m_size m_partCodes m_partShifts m_partSums m_partCount m_wantedDay m_divisorsWanted p1 p2 = some (r, o_m_codes, o_m_size, o_m_partCodes, o_m_partShifts, o_m_partSums, o_m_partCount, o_m_wantedDay, o_m_divisorsWanted) ∧ f_X7_names N z_row z_names z_nameMany p1 p2 = some (r, e_names, e_nameMany) ∧ zRel c n_numbers n_syllables n_syllableCount n_days n_words n_parents n_otherParents n_kinds n_personCount n_hopeDays n_hopeTenths n_hopeCount n_degreesTold r_text r_length s_lane s_size s_items i_ir g0 g1 z_row z_words z_isKept z_text z_length z_lanes z_sizes z_items := by
  obtain ⟨⟨a, hok, hw, hra⟩, _⟩ := id hR
  suffices hh : ∃ (r : Int32) (o_m_codes : Nat → Int64) (o_m_size : Int32) (o_m_partCodes : Nat → Int64) (o_m_partShifts : Nat → Int64) (o_m_partSums : Nat → Int32) (o_m_partCount : Int32) (o_m_wantedDay : Int32) (o_m_divisorsWanted : Int32) (e_names : Nat → Int64) (e_nameMany : Int32), f_X6_names N n_numbers n_syllables n_syllableCount m_codes m_size m_partCodes m_partShifts m_partSums m_partCount m_wantedDay m_divisorsWanted p1 p2 = some (r, o_m_codes, o_m_size, o_m_partCodes, o_m_partShifts, o_m_partSums, o_m_partCount, o_m_wantedDay, o_m_divisorsWanted) ∧ f_X7_names N z_row z_names z_nameMany p1 p2 = some (r, e_names, e_nameMany) by
    obtain ⟨x0, x1, x2, x3, x4, x5, x6, x7, x8, x9, x10, h1, h2⟩ := hh
    exact ⟨x0, x1, x2, x3, x4, x5, x6, x7, x8, x9, x10, h1, h2, hR⟩
  unfold f_X6_names f_X7_names
  rcases isDay_cases p1 with ⟨D, hD1, hD, rfl⟩ | h
  · rw [zl_bT (day6_t hD1 hD), zl_bT (day7_t hD1 hD)]
    rcases zl_case p2 10 (by decide) with ⟨q, hq, rfl⟩ | h'
    · obtain ⟨names', l, r1, r2, r3, r4, r5, r6, r7⟩ := nd_eq N hN hok hw.1 hw.2.2.1 hra z_names
      obtain ⟨codes', pc', ps', pm', pk', g1, g2⟩ := r7 m_codes m_partCodes m_partShifts m_partSums D hD1 hD
      have ht2 : (nI q).toInt64.toInt = q := by rw [zl_wide, nI_toInt (by omega)]
      have hP : ∀ y, ((aSum a y == D) && ((q == 0) || ((zL y).length == q))) = true ↔ (aSum a y = D ∧ (q = 0 ∨ (zL y).length = q)) := fun y => by
        rw [Bool.and_eq_true, Bool.or_eq_true, beq_iff_eq, beq_iff_eq, beq_iff_eq]
      have e7 := nc7_loop N hN hok (zl_row0 hra) r2 r3 r4 (q := q) (D := D) (by omega) hD (fun y => (aSum a y == D) && ((q == 0) || ((zL y).length == q))) hP (fun (v3_21 : Int32) => (some (v3_21, names', nI l.length))) l [] N 0 rfl (by omega)
      have hle : (l.filter (fun y => aSum a y == D)).length ≤ 1110 := Nat.le_trans (List.length_filter_le _ _) r3
      rw [if_neg (nI_pos (by omega)), if_pos (show nI q ≤ (9 : Int32) from nI_le (b := 9) (by omega) (by decide)), hw.2.1, zl_bT (zl_in7t (by rw [ht2]; exact ⟨by show (0 : Int) ≤ q; omega, by show (q : Int) ≤ 9; omega⟩)), zl_b2 r1, zl_let]
      rw [show f_X7_names_L31 N (fun v3_21 => some (v3_21, names', nI l.length)) z_row (nI D) (nI q) names' (nI l.length) N 0 0 = _ from e7]
      simp only [zz_b8, g1, Option.bind_some]
      by_cases c : q = 0
      · rw [if_pos (show nI q = 0 by rw [c]; rfl)]
        refine ⟨_, _, _, _, _, _, _, _, _, names', nI l.length, rfl, ?_⟩
        congr 3
        rw [Nat.zero_add, ← List.countP_eq_length_filter]
        refine List.countP_congr (fun y _ => ?_)
        rw [hP y, beq_iff_eq]
        exact ⟨fun r => r.1, fun r => ⟨r, Or.inl c⟩⟩
      · have e6 := nc6_loop N hN g2 hle (fun y hy => r4 y (List.mem_filter.mp hy).1) (q := q) (by omega) (fun (v3_25 : Int32) => (some (v3_25, codes', nI (l.filter (fun y => aSum a y == D)).length, pc', ps', pm', pk', nI D, (0 : Int32)))) (l.filter (fun y => aSum a y == D)) [] N 0 rfl (by omega)
        rw [if_neg (nI_ne0 (by omega) (by omega)), zl_let]
        rw [show f_X6_names_L50 N (fun v3_25 => some (v3_25, codes', nI (l.filter (fun y => aSum a y == D)).length, pc', ps', pm', pk', nI D, (0 : Int32))) (nI q) codes' (nI (l.filter (fun y => aSum a y == D)).length) N 0 0 = _ from e6]
        refine ⟨_, _, _, _, _, _, _, _, _, names', nI l.length, rfl, ?_⟩
        congr 3
        rw [Nat.zero_add, Nat.zero_add, List.countP_filter]
        refine List.countP_congr (fun y _ => ?_)
        rw [hP y, Bool.and_eq_true, beq_iff_eq, beq_iff_eq]
        constructor
        · rintro ⟨r1, r2 | r2⟩
          · exact absurd r2 c
          · exact ⟨r2, r1⟩
        · rintro ⟨r1, r2⟩
          exact ⟨r2, Or.inr r1⟩
    · rw [zl_bF (zl_in7f (by
          rw [zl_wide]
          intro q
          have q1 : (0 : Int) ≤ p2.toInt := q.1
          have q2 : p2.toInt ≤ 9 := q.2
          exact h' ⟨q1, by omega⟩))]
      by_cases c : p2 < 0
      · rw [if_pos c]
        exact ⟨_, _, _, _, _, _, _, _, _, _, _, rfl, rfl⟩
      · rw [if_neg c, if_neg (fun q => by
            rw [zl_lt0] at c
            rw [fa_le] at q
            exact h' ⟨by omega, by
              have : (9 : Int32).toInt = 9 := rfl
              omega⟩)]
        exact ⟨_, _, _, _, _, _, _, _, _, _, _, rfl, rfl⟩
  · rw [zl_bF (day6_f h), zl_bF (day7_f h)]
    exact ⟨_, _, _, _, _, _, _, _, _, _, _, rfl, rfl⟩
