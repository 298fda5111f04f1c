/-! ===== pure rows: copy ===== -/
theorem cf_loop (N j1 j3 a b m : Nat) (h1 : j1 < 3) (h3 : j3 < 3) (ha : a + m ≤ 20) (hb : b + m ≤ 20) (hd : j1 ≠ j3 ∨ (j1 = j3 ∧ b ≤ a)) (f0 : Nat → Int32) (k : (Nat → Int32) → Option (Int32 × (Nat → Int32))) : ∀ (d v f : Nat) (its : Nat → Int32), v + d = m → d < f → (∀ x, its x = va_cpy f0 f0 (20 * j1 + a) (20 * j3 + b) v x) → ∃ its', f_X7_copy_L113 N k (nI j1) (nI a) (nI j3) (nI b) (nI m) f (nI v) its = k its' ∧ ∀ x, its' x = va_cpy f0 f0 (20 * j1 + a) (20 * j3 + b) m x := by
  intro d
  induction d with
  | zero =>
    intro v f its hv hf hi
    obtain ⟨f', rfl⟩ : ∃ f', f = f' + 1 := ⟨f - 1, by omega⟩
    refine ⟨its, ?_, by rw [show m = v by omega]; exact hi⟩
    rw [f_X7_copy_L113_s, if_pos (nI_le (by omega) (by omega))]
  | succ d ih =>
    intro v f its hv hf hi
    obtain ⟨f', rfl⟩ : ∃ f', f = f' + 1 := ⟨f - 1, by omega⟩
    obtain ⟨its', e1, e2⟩ := ih (v + 1) f' (upd its (20 * j3 + b + v) (its (20 * j1 + a + v))) (by omega) (by omega) (fun x => by
      by_cases e : x = 20 * j3 + b + v
      · subst e
        rw [pk_us, hi, pk_cpy_out (by omega), pk_cpy_in (by omega) (by omega)]
        congr 1
        omega
      · rw [pk_un e, hi]
        by_cases q : 20 * j3 + b ≤ x ∧ x < 20 * j3 + b + v
        · rw [pk_cpy_in q.1 q.2, pk_cpy_in q.1 (by omega)]
        · rw [pk_cpy_out (by omega), pk_cpy_out (by omega)])
    refine ⟨its', ?_, e2⟩
    rw [f_X7_copy_L113_s, if_neg (nI_ge (by omega) (by omega)), zl_let]
    have key : zz_gd (zz_in ((((20 : Int32) * nI j1) + nI a) + nI v) 60) (zz_gd (zz_in ((((20 : Int32) * nI j3) + nI b) + nI v) 60) (zz_let (upd its ((((20 : Int32) * nI j3) + nI b) + nI v).toNatClampNeg (its ((((20 : Int32) * nI j1) + nI a) + nI v).toNatClampNeg)) (fun t_items_25 => zz_let (nI v + (1 : Int32)) (fun v6_26 => (f_X7_copy_L113 N k (nI j1) (nI a) (nI j3) (nI b) (nI m) f' v6_26 t_items_25))))) = k its' := by
      rw [zl_20, zl_20, nI_add, nI_add, nI_add, nI_add, zl_gd (zl_inN (by omega) (by decide)), zl_gd (zl_inN (by omega) (by decide)), zl_let, zl_let, zl_cl (by omega), zl_cl (by omega), nI_1]
      exact e1
    rcases hd with q | ⟨q, q2⟩
    · rw [if_neg (show ¬ nI j1 = nI j3 by rw [nI_eq (by omega) (by omega)]; exact q)]
      exact key
    · rw [if_pos (show nI j1 = nI j3 by rw [q]), if_pos (nI_le q2 (by omega))]
      exact key
theorem cb_loop (N j1 a b m : Nat) (h1 : j1 < 3) (ha : a + m ≤ 20) (hb : b + m ≤ 20) (hd : a < b) (f0 : Nat → Int32) (k : (Nat → Int32) → Option (Int32 × (Nat → Int32))) : ∀ (d v f : Nat) (its : Nat → Int32), v + d = m → d < f → (∀ x, its x = va_cpy f0 f0 (20 * j1 + a + (m - v)) (20 * j1 + b + (m - v)) v x) → ∃ its', f_X7_copy_L113 N k (nI j1) (nI a) (nI j1) (nI b) (nI m) f (nI v) its = k its' ∧ ∀ x, its' x = va_cpy f0 f0 (20 * j1 + a) (20 * j1 + b) m x := by
  intro d
  induction d with
  | zero =>
    intro v f its hv hf hi
    obtain ⟨f', rfl⟩ : ∃ f', f = f' + 1 := ⟨f - 1, by omega⟩
    refine ⟨its, ?_, fun x => ?_⟩
    · rw [f_X7_copy_L113_s, if_pos (nI_le (by omega) (by omega))]
    · rw [hi, show m - v = 0 by omega, show v = m by omega]
      rfl
  | succ d ih =>
    intro v f its hv hf hi
    obtain ⟨f', rfl⟩ : ∃ f', f = f' + 1 := ⟨f - 1, by omega⟩
    obtain ⟨its', e1, e2⟩ := ih (v + 1) f' (upd its (20 * j1 + b + (m - 1 - v)) (its (20 * j1 + a + (m - 1 - v)))) (by omega) (by omega) (fun x => by
      by_cases e : x = 20 * j1 + b + (m - 1 - v)
      · subst e
        rw [pk_us, hi, pk_cpy_out (by omega), pk_cpy_in (by omega) (by omega)]
        congr 1
        omega
      · rw [pk_un e, hi]
        by_cases q : 20 * j1 + b + (m - v) ≤ x ∧ x < 20 * j1 + b + (m - v) + v
        · rw [pk_cpy_in q.1 q.2, pk_cpy_in (by omega) (by omega)]
          congr 1
          omega
        · rw [pk_cpy_out (by omega), pk_cpy_out (by omega)])
    refine ⟨its', ?_, e2⟩
    rw [f_X7_copy_L113_s, if_neg (nI_ge (by omega) (by omega)), zl_let, if_pos rfl, if_neg (nI_ge hd (by omega)), show (1 : Int32) = nI 1 from rfl, pk_sub (by omega), pk_sub (by omega)]
    show zz_gd (zz_in ((((20 : Int32) * nI j1) + nI a) + nI (m - 1 - v)) 60) (zz_gd (zz_in ((((20 : Int32) * nI j1) + nI b) + nI (m - 1 - v)) 60) (zz_let (upd its ((((20 : Int32) * nI j1) + nI b) + nI (m - 1 - v)).toNatClampNeg (its ((((20 : Int32) * nI j1) + nI a) + nI (m - 1 - v)).toNatClampNeg)) (fun t_items_25 => zz_let (nI v + nI 1) (fun v6_26 => (f_X7_copy_L113 N k (nI j1) (nI a) (nI j1) (nI b) (nI m) f' v6_26 t_items_25))))) = k its'
    rw [zl_20, nI_add, nI_add, nI_add, nI_add, zl_gd (zl_inN (by omega) (by decide)), zl_gd (zl_inN (by omega) (by decide)), zl_let, zl_let, zl_cl (by omega), zl_cl (by omega), nI_add]
    exact e1
theorem zl_wadd (p q : Int32) : (p.toInt64 + q.toInt64).toInt = p.toInt + q.toInt := by
  have h1 := fb_rng p
  have h2 := fb_rng q
  rw [fb_addL, zl_wide, zl_wide] <;> rw [zl_wide, zl_wide] <;> omega
theorem pr_copy (c : Nat → ClassId) (n_numbers : Nat → Int32) (n_syllables : Nat → Int64) (n_syllableCount : Int32) (n_days : Nat → Int32) (n_words : Nat → Int64) (n_parents : Nat → Int32) (n_otherParents : Nat → Int32) (n_kinds : Nat → Int32) (n_personCount : Int32) (n_hopeDays : Nat → Int32) (n_hopeTenths : Nat → Int32) (n_hopeCount : Int32) (n_degreesTold : Int32) (r_text : Nat → Int32) (r_length : Int32) (s_lane : Nat → Int32) (s_size : Nat → Int32) (s_items : Nat → Nat → Int32) (i_ir : Nat → Option Nat) (g0 : va_W) (g1 : va_W) (z_row : Nat → Int32) (z_words : Nat → Int64) (z_isKept : Nat → Int32) (z_text : Nat → Int32) (z_length : Int32) (z_lanes : Nat → Int32) (z_sizes : Nat → Int32) (z_items : Nat → Int32) (p1 : Int32) (p2 : Int32) (p3 : Int32) (p4 : Int32) (p5 : Int32) (N : Nat) (hN : 100000 ≤ N) (hR : zRel c n_numbers n_syllables n_syllableCount n_days n_words n_parents n_otherParents n_kinds n_personCount n_hopeDays n_hopeTenths n_hopeCount n_degreesTold r_text r_length s_lane s_size s_items i_ir g0 g1 z_row z_words z_isKept z_text z_length z_lanes z_sizes z_items) : ∃ (r : Int32) (o_s_items : Nat → Nat → Int32) (e_items : Nat → Int32), f_X6_copy N s_lane s_size s_items p1 p2 p3 p4 p5 = some (r, o_s_items) ∧ f_X7_copy N z_lanes z_sizes z_items p1 p2 p3 p4 p5 = some (r, e_items) ∧ zRel c n_numbers n_syllables n_syllableCount n_days n_words n_parents n_otherParents n_kinds n_personCount n_hopeDays n_hopeTenths n_hopeCount n_degreesTold r_text r_length s_lane s_size o_s_items i_ir g0 g1 z_row z_words z_isKept z_text z_length z_lanes z_sizes e_items := by
  obtain ⟨h1, h2, h3, h4⟩ := id hR
  rcases zl_case p1 3 (by decide) with ⟨j, hj, rfl⟩ | h
  · have hb : 0 ≤ (nI j).toInt ∧ (nI j).toInt < 3 := by rw [nI_toInt (by omega)]; omega
    rcases zl_case p3 3 (by decide) with ⟨t, ht, rfl⟩ | h
    · have hb3 : 0 ≤ (nI t).toInt ∧ (nI t).toInt < 3 := by rw [nI_toInt (by omega)]; omega
      rcases h3 j hj with ⟨q1, q2⟩ | ⟨ln, n, q1, q2, q3, q4, q5, q6, q7⟩
      · refine ⟨-11, s_items, z_items, ?_, ?_, hR⟩
        · unfold f_X6_copy
          rw [zl_bT (zl_isSheet_t hb), zl_bT (zl_isSheet_t hb3), zl_gd (zl_inN hj (by decide)), zl_gd (zl_inN ht (by decide)), zl_cl (by omega), zl_bT (zl_miss_t q1)]
        · unfold f_X7_copy
          rw [zl_bT (zl_7isSheet_t hb), zl_bT (zl_7isSheet_t hb3), zl_gd (zl_inN hj (by decide)), zl_cl (by omega), if_pos q2]
      · have nm : ¬ z_lanes j = -1 := by rw [q4]; exact zl_nm1 (by omega)
        rcases h3 t ht with ⟨r1, r2⟩ | ⟨ln', n', r1, r2, r3, r4, r5, r6, r7⟩
        · refine ⟨-11, s_items, z_items, ?_, ?_, hR⟩
          · unfold f_X6_copy
            rw [zl_bT (zl_isSheet_t hb), zl_bT (zl_isSheet_t hb3), zl_gd (zl_inN hj (by decide)), zl_gd (zl_inN ht (by decide)), zl_cl (by omega), zl_cl (by omega), zl_bF (zl_miss_f q5 q2), zl_bT (zl_miss_t r1)]
          · unfold f_X7_copy
            rw [zl_bT (zl_7isSheet_t hb), zl_bT (zl_7isSheet_t hb3), zl_gd (zl_inN hj (by decide)), zl_cl (by omega), if_neg nm, zl_gd (zl_inN ht (by decide)), zl_cl (by omega), if_pos r2]
        · have nm3 : ¬ z_lanes t = -1 := by rw [r4]; exact zl_nm1 (by omega)
          by_cases el : ln = ln'
          · have el6 : s_lane j = s_lane t := by rw [q3, r3, el]
            have el7 : z_lanes j = z_lanes t := by rw [q4, r4, el]
            have s1 : (z_sizes j).toInt64.toInt = n := by rw [zl_wide, q6, nI_toInt (by omega)]
            have s3 : (z_sizes t).toInt64.toInt = n' := by rw [zl_wide, r6, nI_toInt (by omega)]
            have c6 : ∀ X, f_X4_hasPlaces N s_size j p2 p5 = some (if 0 ≤ p2.toInt ∧ 0 ≤ p5.toInt ∧ p2.toInt + p5.toInt ≤ n then 1 else 0) → f_X4_hasPlaces N s_size t p4 p5 = some (if 0 ≤ p4.toInt ∧ 0 ≤ p5.toInt ∧ p4.toInt + p5.toInt ≤ n' then 1 else 0) → (if (0 ≤ p2.toInt ∧ 0 ≤ p5.toInt ∧ p2.toInt + p5.toInt ≤ n) ∧ (0 ≤ p4.toInt ∧ 0 ≤ p5.toInt ∧ p4.toInt + p5.toInt ≤ n') then zz_gd (zz_cp p2 p4 p5 20 20) (some ((1 : Int32), zz_up2 s_items t (va_cpy (s_items j) (s_items t) p2.toNatClampNeg p4.toNatClampNeg p5.toNatClampNeg))) else some ((-13 : Int32), s_items)) = X → f_X6_copy N s_lane s_size s_items (nI j) p2 (nI t) p4 p5 = X := by
              intro X e1 e2 hX
              unfold f_X6_copy
              rw [zl_bT (zl_isSheet_t hb), zl_bT (zl_isSheet_t hb3), zl_gd (zl_inN hj (by decide)), zl_gd (zl_inN ht (by decide)), zl_cl (by omega), zl_cl (by omega), zl_bF (zl_miss_f q5 q2), zl_bF (zl_miss_f r5 r2), if_pos el6]
              by_cases w1 : 0 ≤ p2.toInt ∧ 0 ≤ p5.toInt ∧ p2.toInt + p5.toInt ≤ n
              · rw [if_pos w1] at e1
                rw [zl_bT e1]
                by_cases w2 : 0 ≤ p4.toInt ∧ 0 ≤ p5.toInt ∧ p4.toInt + p5.toInt ≤ n'
                · rw [if_pos w2] at e2
                  rw [zl_bT e2]
                  rw [if_pos ⟨w1, w2⟩] at hX
                  exact hX
                · rw [if_neg w2] at e2
                  rw [zl_bF e2]
                  rw [if_neg (fun q => w2 q.2)] at hX
                  exact hX
              · rw [if_neg w1] at e1
                rw [zl_bF e1]
                rw [if_neg (fun q => w1 q.1)] at hX
                exact hX
            replace c6 := fun X => c6 X (zl_places q5 q2 p2 p5) (zl_places r5 r2 p4 p5)
            by_cases w : (0 ≤ p2.toInt ∧ 0 ≤ p5.toInt ∧ p2.toInt + p5.toInt ≤ n) ∧ (0 ≤ p4.toInt ∧ 0 ≤ p5.toInt ∧ p4.toInt + p5.toInt ≤ n')
            · rw [if_pos w] at c6
              obtain ⟨a, ha, rfl⟩ : ∃ a : Nat, a < 21 ∧ p2 = nI a := by
                rcases zl_case p2 21 (by decide) with q | q
                · exact q
                · omega
              obtain ⟨b, hb', rfl⟩ : ∃ a : Nat, a < 21 ∧ p4 = nI a := by
                rcases zl_case p4 21 (by decide) with q | q
                · exact q
                · omega
              obtain ⟨m, hm, rfl⟩ : ∃ a : Nat, a < 21 ∧ p5 = nI a := by
                rcases zl_case p5 21 (by decide) with q | q
                · exact q
                · omega
              rw [nI_toInt (by omega), nI_toInt (by omega), nI_toInt (by omega)] at w
              obtain ⟨i7, e7, g7⟩ : ∃ i7, f_X7_copy_L113 N (fun it => some (1, it)) (nI j) (nI a) (nI t) (nI b) (nI m) N (nI 0) z_items = some (1, i7) ∧ ∀ x, i7 x = va_cpy z_items z_items (20 * j + a) (20 * t + b) m x := by
                by_cases hd : j ≠ t ∨ (j = t ∧ b ≤ a)
                · exact cf_loop N j t a b m hj ht (by omega) (by omega) hd z_items (fun it => some (1, it)) m 0 N z_items (by omega) (by omega) (fun x => by rw [pk_cpy_out (by omega)])
                · have hjt : j = t := by omega
                  subst hjt
                  exact cb_loop N j a b m hj (by omega) (by omega) (by omega) z_items (fun it => some (1, it)) m 0 N z_items (by omega) (by omega) (fun x => by rw [pk_cpy_out (by omega)])
              refine ⟨1, zz_up2 s_items t (va_cpy (s_items j) (s_items t) a b m), i7, c6 _ ?_, ?_, h1, h2, ?_, h4⟩
              · rw [zl_cl (by omega), zl_cl (by omega), zl_cl (by omega), zl_gd]
                unfold zz_cp
                rw [nI_toInt (by omega), nI_toInt (by omega), nI_toInt (by omega)]
                exact decide_eq_true (by omega)
              · unfold f_X7_copy
                rw [zl_bT (zl_7isSheet_t hb), zl_bT (zl_7isSheet_t hb3), zl_gd (zl_inN hj (by decide)), zl_cl (by omega), if_neg nm, zl_gd (zl_inN ht (by decide)), zl_cl (by omega), if_neg nm3, if_pos el7, if_neg (nI_pos (by omega)), if_neg (nI_pos (by omega)), if_neg (nI_pos (by omega)), if_neg (by rw [fa_lt64, s1, zl_wadd, nI_toInt (by omega), nI_toInt (by omega)]; omega), if_pos (by rw [fa_le64, s3, zl_wadd, nI_toInt (by omega), nI_toInt (by omega)]; omega), zl_let]
                exact e7
              · refine zSh_put h3 (fun s y hs hy _ => by rw [g7, pk_cpy_out (by omega)]) (fun m' em hm' y hy => ?_)
                have : m' = n' := (nI_eq (by omega) (by omega)).mp (em.symm.trans r5)
                subst this
                rw [g7]
                by_cases q : b ≤ y ∧ y < b + m
                · rw [pk_cpy_in q.1 q.2, pk_cpy_in (by omega) (by omega), q7 _ (by omega)]
                  congr 1
                  omega
                · rw [pk_cpy_out (by omega), pk_cpy_out (by omega)]
                  exact r7 y hy
            · rw [if_neg w] at c6
              refine ⟨-13, s_items, z_items, c6 _ rfl, ?_, hR⟩
              unfold f_X7_copy
              rw [zl_bT (zl_7isSheet_t hb), zl_bT (zl_7isSheet_t hb3), zl_gd (zl_inN hj (by decide)), zl_cl (by omega), if_neg nm, zl_gd (zl_inN ht (by decide)), zl_cl (by omega), if_neg nm3, if_pos el7]
              by_cases v1 : p5 < 0
              · rw [if_pos v1]
              rw [if_neg v1]
              by_cases v2 : p2 < 0
              · rw [if_pos v2]
              rw [if_neg v2]
              by_cases v3 : p4 < 0
              · rw [if_pos v3]
              rw [if_neg v3]
              by_cases v4 : (z_sizes j).toInt64 < p2.toInt64 + p5.toInt64
              · rw [if_pos v4]
              rw [if_neg v4, if_neg]
              rw [zl_lt0] at v1 v2 v3
              rw [fa_lt64, s1, zl_wadd] at v4
              rw [fa_le64, s3, zl_wadd]
              omega
          · refine ⟨-12, s_items, z_items, ?_, ?_, hR⟩
            · unfold f_X6_copy
              rw [zl_bT (zl_isSheet_t hb), zl_bT (zl_isSheet_t hb3), zl_gd (zl_inN hj (by decide)), zl_gd (zl_inN ht (by decide)), zl_cl (by omega), zl_cl (by omega), zl_bF (zl_miss_f q5 q2), zl_bF (zl_miss_f r5 r2), if_neg (show ¬ s_lane j = s_lane t by rw [q3, r3, nI_eq (by omega) (by omega)]; exact el)]
            · unfold f_X7_copy
              rw [zl_bT (zl_7isSheet_t hb), zl_bT (zl_7isSheet_t hb3), zl_gd (zl_inN hj (by decide)), zl_cl (by omega), if_neg nm, zl_gd (zl_inN ht (by decide)), zl_cl (by omega), if_neg nm3, if_neg (show ¬ z_lanes j = z_lanes t by rw [q4, r4, nI_eq (by omega) (by omega)]; exact el)]
    · refine ⟨-2, s_items, z_items, ?_, ?_, hR⟩
      · unfold f_X6_copy
        rw [zl_bT (zl_isSheet_t hb), zl_bF (zl_isSheet_f h)]
      · unfold f_X7_copy
        rw [zl_bT (zl_7isSheet_t hb), zl_bF (zl_7isSheet_f h)]
  · refine ⟨-2, s_items, z_items, ?_, ?_, hR⟩
    · unfold f_X6_copy
      rw [zl_bF (zl_isSheet_f h)]
    · unfold f_X7_copy
      rw [zl_bF (zl_7isSheet_f h)]
