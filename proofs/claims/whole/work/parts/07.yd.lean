/-! ===== nicknames: left of a word; the row ===== -/
theorem iss_nil (L : List Nat) : ([] : List Nat).isSublist L = true := by
  cases L <;> rfl
theorem lo_left (N : Nat) (K : Int64 → Option Int32) : ∀ (L : List Nat) (n i f y : Nat), zL n = L → n < 2 ^ 63 → zDg L = true → i + L.length ≤ 9 → L.length < f → y < 2 ^ 63 → zDg (zL y) = true → ∃ y', f_X6_isLeftOf_L9 N K f (lN y) (lN n) (nI i) = K (lN y') ∧ y' < 2 ^ 63 ∧ (y' = 0 ↔ (zL y).isSublist L = true) := by
  intro L
  induction L with
  | nil =>
    intro n i f y hz hn _ hi hf hy hyD
    obtain ⟨f', rfl⟩ : ∃ f', f = f' + 1 := ⟨f - 1, by omega⟩
    have c : n = 0 := by
      by_cases c : n = 0
      · exact c
      · rw [zL_s c hn] at hz
        cases hz
    have fin : y = 0 ↔ (zL y).isSublist [] = true := by
      constructor
      · intro e
        rw [e]
        rfl
      · intro e
        by_cases c : y = 0
        · exact c
        · rw [zL_s c hy] at e
          cases e
    rw [f_X6_isLeftOf_L9_s]
    by_cases c9 : (9 : Int32) ≤ nI i
    · rw [if_pos c9]
      exact ⟨y, rfl, hy, fin⟩
    · rw [if_neg c9, if_pos ((cd_pos hn).mpr c)]
      exact ⟨y, rfl, hy, fin⟩
  | cons x xs ih =>
    intro n i f y hz hn hD hi hf hy hyD
    rw [List.length_cons] at hi hf
    obtain ⟨f', rfl⟩ : ∃ f', f = f' + 1 := ⟨f - 1, by omega⟩
    have c : n ≠ 0 := fun e => by
      rw [e] at hz
      cases hz
    rw [zL_s c hn] at hz
    have e1 : n % 27 = x := (List.cons.inj hz).1
    have e2 : zL (n / 27) = xs := (List.cons.inj hz).2
    have hD2 := zDg_iff.mp hD
    have hx : x ≠ 0 := hD2 x List.mem_cons_self
    have hxs : zDg xs = true := zDg_iff.mpr (fun z hz => hD2 z (List.mem_cons_of_mem _ hz))
    rw [f_X6_isLeftOf_L9_s, if_neg (show ¬ (9 : Int32) ≤ nI i from nI_ge (b := 9) (by omega) (by omega)), if_neg (fun q => c ((cd_pos hn).mp q)), zl_let]
    have go : ∀ y1, y1 < 2 ^ 63 → zDg (zL y1) = true → (zL y1).isSublist xs = (zL y).isSublist (x :: xs) → ∃ y', zz_let (lN n / (27 : Int64)) (fun v6_14 => zz_let (nI i + (1 : Int32)) (fun v8_15 => (f_X6_isLeftOf_L9 N K f' (lN y1) v6_14 v8_15))) = K (lN y') ∧ y' < 2 ^ 63 ∧ (y' = 0 ↔ (zL y).isSublist (x :: xs) = true) := fun y1 h1 h2 h3 => by
      rw [zl_let, zl_let, cd_div hn, nI_1, ← h3]
      exact ih (n / 27) (i + 1) f' y1 e2 (by omega) hxs (by omega) (by omega) h1 h2
    by_cases c0 : y = 0
    · rw [if_pos ((cd_pos hy).mpr c0)]
      refine go y hy hyD ?_
      rw [c0, zL_0, iss_nil, iss_nil]
    · have hyD2 := hyD
      rw [zDg_s c0 hy, Bool.and_eq_true, Bool.not_eq_true', beq_eq_false_iff_ne] at hyD2
      rw [if_neg (fun q => c0 ((cd_pos hy).mp q)), zl_b1 (cd_last hy hyD2.1), zl_b1 (cd_last hn (by rw [e1]; exact hx)), e1]
      by_cases c2 : y % 27 = x
      · rw [if_pos (show nI (y % 27 - 1) = nI (x - 1) by rw [c2]), zl_let, cd_div hy]
        refine go (y / 27) (by omega) hyD2.2 ?_
        rw [zL_s c0 hy, List.isSublist, if_pos (beq_iff_eq.mpr c2)]
      · rw [if_neg (show ¬ nI (y % 27 - 1) = nI (x - 1) from fun q => c2 (by
          have := (nI_eq (by omega) (by omega)).mp q
          omega))]
        refine go y hy hyD ?_
        rw [zL_s c0 hy, List.isSublist, if_neg (fun q => c2 (beq_iff_eq.mp q))]
theorem il_eq (N : Nat) (hN : 100000 ≤ N) {y W : Nat} (hy : isW 9 y) (hW : isW 9 W) : f_X6_isLeftOf N (lN y) (lN W) = some (zBo ((zL y).isSublist (zL W))) := by
  have hl := zL_lt (isW_iff.mp hW).2.1 (w_63 hW)
  obtain ⟨y', h1, h2, h3⟩ := lo_left N (fun (v4_16 : Int64) => (if v4_16 = (0 : Int64) then (some (1 : Int32)) else (some (0 : Int32)))) (zL W) W 0 N y rfl (w_63 hW) (isW_iff.mp hW).2.2 (by omega) (by omega) (w_63 hy) (isW_iff.mp hy).2.2
  unfold f_X6_isLeftOf
  rw [zl_let, show f_X6_isLeftOf_L9 N _ N (lN y) (lN W) 0 = _ from h1]
  cases c : (zL y).isSublist (zL W) with
  | true =>
    rw [if_pos ((cd_0 h2).mpr (h3.mpr c))]
    rfl
  | false =>
    rw [if_neg (fun q => by
      rw [h3.mp ((cd_0 h2).mp q)] at c
      cases c)]
    rfl
def nkP (W y : Nat) : Bool := !(y == W) && (zL y).isSublist (zL W)
theorem dn_loop (N : Nat) (hN : 100000 ≤ N) {W : Nat} (hW : isW 9 W) {l : List Nat} (hlen : l.length ≤ 1110) (hw : ∀ y ∈ l, isW 9 y) (K : (Int32) → (Nat → Int64) → Option ((Nat → Int64) × (Int32))) : ∀ (suf pre : List Nat) (f : Nat) (t : Nat → Int64), l = pre ++ suf → suf.length < f → zLi t (pre.filter (nkP W)) → (∀ j, pre.length ≤ j → j < l.length → t j = lN (l.getD j 0)) → ∃ t', f_X0_dropNoNicknames_L5 N K (nI l.length) (lN W) f (nI (pre.filter (nkP W)).length) (nI pre.length) t = K (nI (l.filter (nkP W)).length) t' ∧ zLi t' (l.filter (nkP W)) := by
  intro suf
  induction suf with
  | nil =>
    intro pre f t e hf h1 h2
    obtain ⟨f', rfl⟩ : ∃ f', f = f' + 1 := ⟨f - 1, by omega⟩
    rw [List.append_nil] at e
    subst e
    rw [f_X0_dropNoNicknames_L5_s, if_pos (nI_le (Nat.le_refl _) (by omega))]
    exact ⟨t, rfl, h1⟩
  | cons y suf ih =>
    intro pre f t e hf h1 h2
    rw [List.length_cons] at hf
    obtain ⟨f', rfl⟩ : ∃ f', f = f' + 1 := ⟨f - 1, by omega⟩
    have e2 : l.length = pre.length + (suf.length + 1) := by rw [e, List.length_append, List.length_cons]
    have hyW := hw y (by rw [e]; exact List.mem_append_right _ List.mem_cons_self)
    have hy := w_63 hyW
    have hk : (pre.filter (nkP W)).length ≤ pre.length := List.length_filter_le _ _
    have hty : t pre.length = lN y := by
      rw [h2 pre.length (Nat.le_refl _) (by omega), e]
      congr 1
      simp
    have eapp : l = (pre ++ [y]) ++ suf := by rw [e, List.append_assoc]; rfl
    have elen : (pre ++ [y]).length = pre.length + 1 := by rw [List.length_append, List.length_singleton]
    have no : ¬ nkP W y = true → ∃ t', f_X0_dropNoNicknames_L5 N K (nI l.length) (lN W) f' (nI (pre.filter (nkP W)).length) (nI (pre.length + 1)) t = K (nI (l.filter (nkP W)).length) t' ∧ zLi t' (l.filter (nkP W)) := fun hf1 => by
      have ef : (pre ++ [y]).filter (nkP W) = pre.filter (nkP W) := by
        rw [List.filter_append, List.filter_cons_of_neg hf1]
        exact List.append_nil _
      have ih2 := ih (pre ++ [y]) f' t eapp (by omega) (by rw [ef]; exact h1) (fun j hj hj2 => by
        rw [elen] at hj
        exact h2 j (by omega) hj2)
      rw [ef, elen] at ih2
      exact ih2
    rw [f_X0_dropNoNicknames_L5_s, if_neg (nI_ge (by omega) (by omega)), zl_gd (zl_inN (show pre.length < 1110 by omega) (by decide)), zl_let, zl_cl (show pre.length < 2 ^ 31 by omega), hty]
    by_cases c : y = W
    · rw [if_pos (show lN y = lN W by rw [c])]
      dsimp only
      rw [zl_let, nI_1]
      refine no (fun q => ?_)
      unfold nkP at q
      rw [Bool.and_eq_true, beq_iff_eq.mpr c] at q
      cases q.1
    · rw [if_neg (show ¬ lN y = lN W from fun q => c ((pk_lEQ hy (w_63 hW)).mp q)), zl_b1 (il_eq N hN hyW hW)]
      cases c2 : (zL y).isSublist (zL W) with
      | false =>
        rw [if_pos (show zBo false = 0 from rfl)]
        dsimp only
        rw [zl_let, nI_1]
        refine no (fun q => ?_)
        unfold nkP at q
        rw [Bool.and_eq_true, c2] at q
        cases q.2
      | true =>
        have hf1 : nkP W y = true := by
          unfold nkP
          rw [beq_eq_false_iff_ne.mpr c, c2]
          rfl
        have ef : (pre ++ [y]).filter (nkP W) = pre.filter (nkP W) ++ [y] := by
          rw [List.filter_append, List.filter_cons_of_pos hf1]
          rfl
        have ih2 := ih (pre ++ [y]) f' (vp_updL t (pre.filter (nkP W)).length (lN y)) eapp (by omega) (by rw [ef]; exact li_snoc h1) (fun j hj hj2 => by
          rw [elen] at hj
          rw [pk_uLn (by omega)]
          exact h2 j (by omega) hj2)
        rw [ef, elen, List.length_append, List.length_singleton] at ih2
        rw [if_neg (show ¬ zBo true = 0 by decide), zl_gd (zl_inN (show (pre.filter (nkP W)).length < 1110 by omega) (by decide)), zl_let, zl_let, nI_1, zl_cl (show (pre.filter (nkP W)).length < 2 ^ 31 by omega)]
        dsimp only
        rw [zl_let, nI_1]
        exact ih2
theorem lt_nodup {l : List Nat} (h : l.Pairwise (· < ·)) : l.Nodup := h.imp (fun q => Nat.ne_of_lt q)
theorem pr_nicknames (c : Nat → ClassId) (n_numbers : Nat → Int32) (n_syllables : Nat → Int64) (n_syllableCount : Int32) (n_days : Nat → Int32) (n_words : Nat → Int64) (n_parents : Nat → Int32) (n_otherParents : Nat → Int32) (n_kinds : Nat → Int32) (n_personCount : Int32) (n_hopeDays : Nat → Int32) (n_hopeTenths : Nat → Int32) (n_hopeCount : Int32) (n_degreesTold : Int32) (r_text : Nat → Int32) (r_length : Int32) (s_lane : Nat → Int32) (s_size : Nat → Int32) (s_items : Nat → Nat → Int32) (i_ir : Nat → Option Nat) (g0 : va_W) (g1 : va_W) (z_row : Nat → Int32) (z_words : Nat → Int64) (z_isKept : Nat → Int32) (z_text : Nat → Int32) (z_length : Int32) (z_lanes : Nat → Int32) (z_sizes : Nat → Int32) (z_items : Nat → Int32) (m_codes : Nat → Int64) (m_size : Int32) (m_partCodes : Nat → Int64) (m_partShifts : Nat → Int64) (m_partSums : Nat → Int32) (m_partCount : Int32) (m_wantedDay : Int32) (m_divisorsWanted : Int32) (z_found : Nat → Int64) (p1 : Int32) (p2 : Int32) (N : Nat) (hN : 100000 ≤ N) (hR : zRel c n_numbers n_syllables n_syllableCount n_days n_words n_parents n_otherParents n_kinds n_personCount n_hopeDays n_hopeTenths n_hopeCount n_degreesTold r_text r_length s_lane s_size s_items i_ir g0 g1 z_row z_words z_isKept z_text z_length z_lanes z_sizes z_items) : ∃ (r : Int64) (o_m_codes : Nat → Int64) (o_m_size : Int32) (o_m_partCodes : Nat → Int64) (o_m_partShifts : Nat → Int64) (o_m_partSums : Nat → Int32) (o_m_partCount : Int32) (o_m_wantedDay : Int32) (o_m_divisorsWanted : Int32) (e_found : Nat → Int64), f_X6_nicknames N n_numbers n_syllables n_syllableCount n_days n_words n_personCount m_codes m_size m_partCodes m_partShifts m_partSums m_partCount m_wantedDay m_divisorsWanted p1 p2 = some (r, o_m_codes, o_m_size, o_m_partCodes, o_m_partShifts, o_m_partSums, o_m_partCount, o_m_wantedDay, o_m_divisorsWanted) ∧ f_X7_nicknames N z_row z_words z_found p1 p2 = some (r, e_found) ∧ zRel c n_numbers n_syllables n_syllableCount n_days n_words n_parents n_otherParents n_kinds n_personCount n_hopeDays n_hopeTenths n_hopeCount n_degreesTold r_text r_length s_lane s_size s_items i_ir g0 g1 z_row z_words z_isKept z_text z_length z_lanes z_sizes z_items := by
  obtain ⟨⟨a, hok, hw, hra⟩, _⟩ := id hR
  have hpc : aPC a ≤ 16 := hok.2.2.2.2.1
  have h38 : z_row 38 = nI (aPC a) := hra.2.2.2.2.1
  suffices hh : ∃ (r : Int64) (o_m_codes : Nat → Int64) (o_m_size : Int32) (o_m_partCodes : Nat → Int64) (o_m_partShifts : Nat → Int64) (o_m_partSums : Nat → Int32) (o_m_partCount : Int32) (o_m_wantedDay : Int32) (o_m_divisorsWanted : Int32) (e_found : Nat → Int64), f_X6_nicknames N n_numbers n_syllables n_syllableCount n_days n_words n_personCount m_codes m_size m_partCodes m_partShifts m_partSums m_partCount m_wantedDay m_divisorsWanted p1 p2 = some (r, o_m_codes, o_m_size, o_m_partCodes, o_m_partShifts, o_m_partSums, o_m_partCount, o_m_wantedDay, o_m_divisorsWanted) ∧ f_X7_nicknames N z_row z_words z_found p1 p2 = some (r, e_found) by
    obtain ⟨x0, x1, x2, x3, x4, x5, x6, x7, x8, x9, h1, h2⟩ := hh
    exact ⟨x0, x1, x2, x3, x4, x5, x6, x7, x8, x9, h1, h2, hR⟩
  unfold f_X6_nicknames f_X7_nicknames
  rw [hw.2.2.2.1, hw.2.1]
  rcases zl_case p1 (aPC a) (by omega) with ⟨p, hp, rfl⟩ | h
  · rw [zl_bT (zl_isPerson_t hp hpc), zl_bT (zl_7isPerson_t h38 hpc hp)]
    by_cases c3 : p2 = 0 ∨ p2 = 1
    · have hd := hok.2.2.2.2.2.1 p hp
      obtain ⟨d0, d1, _⟩ := hw.2.2.2.2.1 p hp
      obtain ⟨_, _, _, g3⟩ := zl_p55 hra hp
      rw [zl_bT (zo_t c3), zl_bT (in01_t c3), zl_gd (zl_inN (show p < 16 by omega) (by decide)), zl_gd (zl_inN (show p < 48 by omega) (by decide)), zl_cl (show p < 2 ^ 31 by omega), d0, d1, g3]
      rcases hd.2.2.1 with c | c
      · rw [c, if_pos (show lN 0 = (0 : Int64) from rfl), if_pos (show lN 0 = (0 : Int64) from rfl)]
        exact ⟨_, _, _, _, _, _, _, _, _, _, rfl, rfl⟩
      · have h63 := w_63 c
        have hne : ¬ lN (aW a p) = (0 : Int64) := fun q => c.1 ((cd_0 h63).mp q)
        have hr : (zL (aW a p)).length ≤ 9 := zL_lt (isW_iff.mp c).2.1 h63
        have hr1 : 0 < (zL (aW a p)).length := zL_ge (f := 0) (by rw [Nat.pow_zero]; have := c.1; omega) h63
        have hp2 : 2 ^ 1 ≤ 2 ^ (zL (aW a p)).length := Nat.pow_le_pow_right (by decide) hr1
        have hp9 : 2 ^ (zL (aW a p)).length ≤ 2 ^ 9 := Nat.pow_le_pow_right (by decide) hr
        have e9 : (2 : Nat) ^ 9 = 512 := rfl
        obtain ⟨c', k', pc', ps', pm', pk', q1, q2, q3, q4⟩ := ga_eq N hN hok hw.1 hw.2.2.1 m_codes m_partCodes m_partShifts m_partSums (D := aD a p) true hd.1 hd.2.1
        obtain ⟨l, l1, l2, l3, l4⟩ := li_of q3 (fun y hy => w_63 (nm_w hok hy.2.1)) q4
        subst l1
        have hlw : ∀ y ∈ l, isW 9 y := fun y hy => nm_w hok ((l4 y).mp hy).2.1
        obtain ⟨t', t1, t2⟩ := dn_loop N hN c q2 hlw (fun (v3_17 : Int32) (t_codes_18 : Nat → Int64) => (some (t_codes_18, v3_17))) l [] N c' rfl (by omega) (fun i hi => absurd hi (Nat.not_lt_zero _)) (fun j _ hj => l2 j hj)
        have t1' : f_X0_dropNoNicknames N c' (nI l.length) (lN (aW a p)) = some (t', nI (l.filter (nkP (aW a p))).length) := by
          unfold f_X0_dropNoNicknames
          rw [zl_let]
          exact t1
        obtain ⟨fl, v5, found, f1, f2, f3, f4, f5⟩ := nk62 N hN hok hra hp c (fun (v4_61 : Int32) (v5_62 : Int64) (t_found_63 : Nat → Int64) => (if p2 = 0 then (some (v4_61.toInt64, t_found_63)) else (some (v5_62, t_found_63)))) (2 ^ (zL (aW a p)).length - 1 - 1) 1 N [] (-1) z_found (by omega) (by omega) (by omega) (fun i hi => absurd hi (Nat.not_lt_zero _)) (by rw [List.length_nil]; omega) List.nodup_nil (fun y => by
          constructor
          · intro q
            cases q
          · rintro ⟨m, m1, m2, _⟩
            omega) (Or.inl ⟨rfl, rfl⟩)
        have hmem : ∀ y, y ∈ fl ↔ y ∈ l.filter (nkP (aW a p)) := fun y => by
          rw [f4 y, List.mem_filter, l4 y]
          constructor
          · rintro ⟨m, m1, m2, m3, m4⟩
            obtain ⟨yW, yz, yl⟩ := sub_w c (show 0 < m by omega) m2 m3
            refine ⟨⟨m4.1, m4.2.1, Or.inr ⟨rfl, aSum_pos yW.1 (w_63 yW) m4.1, m4.2.2⟩⟩, ?_⟩
            unfold nkP
            rw [Bool.and_eq_true, Bool.not_eq_true', beq_eq_false_iff_ne, List.isSublist_iff_sublist, yz]
            refine ⟨fun e => ?_, pkm_sub _ _⟩
            rw [e] at yl
            omega
          · rintro ⟨⟨b1, b2, b3⟩, b4⟩
            have yW := nm_w hok b2
            have y63 := w_63 yW
            unfold nkP at b4
            rw [Bool.and_eq_true, Bool.not_eq_true', beq_eq_false_iff_ne, List.isSublist_iff_sublist] at b4
            obtain ⟨m, m1, m2⟩ := pkm_all b4.2
            have e : y = cdl (pkm m (zL (aW a p))) := by
              rw [m2]
              exact (cdl_zL _ y (Nat.le_refl _) y63).symm
            refine ⟨m, ?_, ?_, e, b1, b2, ?_⟩
            · by_cases e0 : m = 0
              · rw [e0, pkm_0] at e
                exact absurd e yW.1
              · omega
            · by_cases e0 : m = 2 ^ (zL (aW a p)).length - 1
              · rw [e0, pkm_full, cdl_zL _ _ (Nat.le_refl _) h63] at e
                exact absurd e b4.1
              · omega
            · rcases b3 with b3 | b3
              · rw [b3]
                exact Nat.mod_self _
              · exact b3.2.2
        have hso : (l.filter (nkP (aW a p))).Pairwise (· < ·) := List.Pairwise.filter _ l3
        have hlen : fl.length = (l.filter (nkP (aW a p))).length := ((List.perm_ext_iff_of_nodup f3 (lt_nodup hso)).mpr hmem).length_eq
        have hl2 : (l.filter (nkP (aW a p))).length ≤ 1110 := Nat.le_trans (List.length_filter_le _ _) q2
        rw [if_neg hne, if_neg hne, zl_b1 (lo7_eq N hN h63), zl_let]
        rw [show f_X7_nicknames_L62 N _ z_row z_words (nI p) (nI (zL (aW a p)).length) N 0 (-1) 1 z_found = _ from f1]
        have q1' : f_X0_gather N m_codes m_partCodes m_partShifts m_partSums n_numbers n_syllables (nI (aSC a)) (nI (aD a p)) 1 = some (c', nI l.length, pc', ps', pm', pk', nI (aD a p), 1) := q1
        simp only [zz_b8, q1', Option.bind_some]
        rw [zl_b2 t1']
        by_cases c4 : p2 = 0
        · rw [if_pos c4, if_pos c4, hlen]
          exact ⟨_, _, _, _, _, _, _, _, _, _, rfl, rfl⟩
        · rw [if_neg c4, if_neg c4]
          rcases f5 with ⟨m1, m2⟩ | ⟨x, x1, x2, x3⟩
          · rw [m1, List.length_nil] at hlen
            rw [← hlen, if_pos (show nI 0 ≤ 0 by decide), m2]
            exact ⟨_, _, _, _, _, _, _, _, _, _, rfl, rfl⟩
          · have x1' := (hmem x).mp x1
            cases hL : l.filter (nkP (aW a p)) with
            | nil =>
              rw [hL] at x1'
              cases x1'
            | cons z zs =>
              rw [hL] at x1' t2 hso hl2
              have ez : x = z := by
                have h1 := x3 z ((hmem z).mpr (by rw [hL]; exact List.mem_cons_self))
                rcases List.mem_cons.mp x1' with e | e
                · exact e
                · have := (List.pairwise_cons.mp hso).1 x e
                  omega
              rw [List.length_cons] at hl2 ⊢
              rw [if_neg (nI_nle (by omega) (by omega)), x2, ez]
              have t20 : t' (0 : Int32).toNatClampNeg = lN z := t2 0 (by rw [List.length_cons]; omega)
              rw [t20]
              exact ⟨_, _, _, _, _, _, _, _, _, _, rfl, rfl⟩
    · rw [zl_bF (zo_f c3), zl_bF (in01_f c3)]
      exact ⟨_, _, _, _, _, _, _, _, _, _, rfl, rfl⟩
  · rw [zl_bF (zl_isPerson_f h hpc), zl_bF (zl_7isPerson_f h38 hpc h)]
    exact ⟨_, _, _, _, _, _, _, _, _, _, rfl, rfl⟩
