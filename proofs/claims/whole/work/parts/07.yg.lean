/-! ===== the least syllable that mends ===== -/
theorem hn_loop (N s : Nat) (hs : 1 ≤ s) (hs2 : s ≤ 2000) {few : Nat → Int32} {F : Nat → Nat} {Q : Nat → Prop} (h1 : zFe few F) (h2 : zFq F Q) : ∀ (n t r f : Nat), t + n = 4 → n < f → r ≤ 400 → t ≤ 3 → ∃ z : Bool, f_X2_hasNameWith_L5 N (some 0) few (nI s) f (nI r) (nI t) = some (zBo z) ∧ (z = true ↔ rk (qS Q s) (3 - t) r) := by
  intro n
  induction n with
  | zero =>
    intro t r f ht hf hr ht3
    omega
  | succ n ih =>
    intro t r f ht hf hr ht3
    obtain ⟨f, rfl⟩ : ∃ g, f = g + 1 := ⟨f - 1, by omega⟩
    obtain ⟨e1, e2⟩ := h1 r hr
    have e3 := h2 r hr (3 - t) (by omega)
    rw [f_X2_hasNameWith_L5_s, if_neg (show ¬ (3 : Int32) < nI t from nI_nlt (a := 3) (by omega) (by decide)), if_neg (nI_pos (by omega)), zl_gd (zl_inN (show r < 401 by omega) (by decide)), zl_cl (show r < 2 ^ 31 by omega), e1, show (3 : Int32) = nI 3 from rfl, pk_sub (show t ≤ 3 by omega)]
    by_cases c : 3 - t < F r
    · rw [if_pos (nI_lt c (by omega)), zl_let, zl_let, nI_1]
      have hno : ¬ rk Q (3 - t) r := fun q => by
        have := e3.mpr q
        omega
      by_cases c2 : s ≤ r
      · by_cases c3 : t = 3
        · subst c3
          obtain ⟨f, rfl⟩ : ∃ g, f = g + 1 := ⟨f - 1, by omega⟩
          rw [f_X2_hasNameWith_L5_s, if_pos (show (3 : Int32) < nI (3 + 1) by decide)]
          refine ⟨false, rfl, fun q => by (cases q), fun q => ?_⟩
          exact absurd q hno
        · rw [pk_sub c2]
          obtain ⟨z, z1, z2⟩ := ih (t + 1) (r - s) f (by omega) (by omega) (by omega) (by omega)
          refine ⟨z, z1, z2.trans ?_⟩
          rw [rk_step c2]
          constructor
          · intro q
            exact Or.inr ⟨3 - (t + 1), by omega, q⟩
          · rintro (q | ⟨t', t1, q⟩)
            · exact absurd q hno
            · rw [show 3 - (t + 1) = t' by omega]
              exact q
      · obtain ⟨f, rfl⟩ : ∃ g, f = g + 1 := ⟨f - 1, by omega⟩
        refine ⟨false, ?_, fun q => by (cases q), fun q => ?_⟩
        · rw [f_X2_hasNameWith_L5_s]
          by_cases c4 : (3 : Int32) < nI (t + 1)
          · rw [if_pos c4]
            rfl
          · rw [if_neg c4, if_pos (show nI r - nI s < 0 by
              rw [zl_lt0, pk_sub_toInt (by omega) (by omega)]
              omega)]
            rfl
        · exact absurd ((rk_small (by omega)).mp q) hno
    · rw [if_neg (nI_nlt (by omega) (by omega))]
      exact ⟨true, rfl, fun _ => rk_mono (fun x q => Or.inl q) (e3.mp (by omega)), fun _ => rfl⟩
theorem ma_loop (N s : Nat) (hN : 100000 ≤ N) (hs : 1 ≤ s) (hs2 : s ≤ 2000) {few : Nat → Int32} {F : Nat → Nat} {Q : Nat → Prop} (h1 : zFe few F) (h2 : zFq F Q) {t : Nat} (ht : t ≤ 400) : ∀ (n d f : Nat), d + n = t + 1 → n < f → ∃ z : Bool, f_X2_mendsAll_L3 N (some 1) few (nI s) (nI t) f (nI d) = some (zBo z) ∧ (z = true ↔ ∀ x, d ≤ x → x ≤ t → rk (qS Q s) 3 x) := by
  intro n
  induction n with
  | zero =>
    intro d f hd hf
    obtain ⟨f, rfl⟩ : ∃ g, f = g + 1 := ⟨f - 1, by omega⟩
    rw [f_X2_mendsAll_L3_s, if_pos (nI_lt (by omega) (by omega))]
    exact ⟨true, rfl, fun _ x h1 h2 => by omega, fun _ => rfl⟩
  | succ n ih =>
    intro d f hd hf
    obtain ⟨f, rfl⟩ : ∃ g, f = g + 1 := ⟨f - 1, by omega⟩
    obtain ⟨z, z1, z2⟩ := hn_loop N s hs hs2 h1 h2 4 0 d N (by omega) (by omega) (by omega) (by omega)
    have z1' : f_X2_hasNameWith N few (nI s) (nI d) = some (zBo z) := by
      unfold f_X2_hasNameWith
      rw [zl_let]
      exact z1
    rw [f_X2_mendsAll_L3_s, if_neg (nI_nlt (by omega) (by omega)), zl_b1 z1']
    cases z with
    | false =>
      rw [if_pos (show zBo false = 0 from rfl)]
      exact ⟨false, rfl, fun q => by (cases q), fun q => z2.mpr (q d (Nat.le_refl _) (by omega))⟩
    | true =>
      rw [if_neg (show ¬ zBo true = 0 by decide), zl_let, nI_1]
      obtain ⟨y, y1, y2⟩ := ih (d + 1) f (by omega) (by omega)
      refine ⟨y, y1, y2.trans ⟨fun q x h1 h2 => ?_, fun q x h1 h2 => q x (by omega) h2⟩⟩
      by_cases e : x = d
      · rw [e]
        exact z2.mp rfl
      · exact q x (by omega) h2
theorem ma_eq (N s : Nat) (hN : 100000 ≤ N) (hs : 1 ≤ s) (hs2 : s ≤ 2000) {few : Nat → Int32} {F : Nat → Nat} {Q : Nat → Prop} (h1 : zFe few F) (h2 : zFq F Q) {b t : Nat} (hbt : b ≤ t) (ht : t ≤ 400) : ∃ z : Bool, f_X2_mendsAll N few (nI s) (nI b) (nI t) = some (zBo z) ∧ (z = true ↔ ∀ x, b ≤ x → x ≤ t → rk (qS Q s) 3 x) := by
  unfold f_X2_mendsAll
  rw [zl_let]
  exact ma_loop N s hN hs hs2 h1 h2 ht (t + 1 - b) b N (by omega) (by omega)
theorem is_loop (N : Nat) {a : AW} {row : Nat → Int32} {w : Nat → Int64} (hok : zOK a) (hra : zRA a row w 0) {v : Nat} (hv : v < 2 ^ 63) (K : Int32 → Option Int32) : ∀ (d i f : Nat) (z : Bool), i + d = aSC a → d < f → ∃ z' : Bool, f_X7_isSyl_L5 N K row (lN v) f (zBo z) (nI i) = K (zBo z') ∧ (z' = true ↔ (z = true ∨ ∃ j, i ≤ j ∧ j < aSC a ∧ aS a j = v)) := by
  have hsc : aSC a ≤ 10 := hok.2.1
  have h26 : row (26 : Int32).toNatClampNeg = nI (aSC a) := hra.2.1
  intro d
  induction d with
  | zero =>
    intro i f z hi hf
    obtain ⟨f, rfl⟩ : ∃ g, f = g + 1 := ⟨f - 1, by omega⟩
    rw [f_X7_isSyl_L5_s, h26, if_pos (nI_le (by omega) (by omega))]
    refine ⟨z, rfl, Or.inl, ?_⟩
    rintro (q | ⟨j, j1, j2, _⟩)
    · exact q
    · omega
  | succ d ih =>
    intro i f z hi hf
    obtain ⟨f, rfl⟩ : ∃ g, f = g + 1 := ⟨f - 1, by omega⟩
    have hi3 : i < aSC a := by omega
    have step : ∀ z1 : Bool, (z1 = true ↔ (z = true ∨ aS a i = v)) → ∃ z' : Bool, f_X7_isSyl_L5 N K row (lN v) f (zBo z1) (nI (i + 1)) = K (zBo z') ∧ (z' = true ↔ (z = true ∨ ∃ j, i ≤ j ∧ j < aSC a ∧ aS a j = v)) := fun z1 h1 => by
      obtain ⟨z', q1, q2⟩ := ih (i + 1) f z1 (by omega) (by omega)
      refine ⟨z', q1, q2.trans ?_⟩
      rw [h1]
      constructor
      · rintro ((q | q) | ⟨j, j1, j2⟩)
        · exact Or.inl q
        · exact Or.inr ⟨i, Nat.le_refl _, hi3, q⟩
        · exact Or.inr ⟨j, by omega, j2⟩
      · rintro (q | ⟨j, j1, j2, j3⟩)
        · exact Or.inl (Or.inl q)
        · by_cases e : j = i
          · rw [e] at j3
            exact Or.inl (Or.inr j3)
          · exact Or.inr ⟨j, by omega, j2, j3⟩
    rw [f_X7_isSyl_L5_s, h26, if_neg (nI_ge (by omega) (by omega)), zl_let]
    cases z with
    | true =>
      rw [if_neg (show ¬ zBo true = 0 by decide)]
      dsimp only
      rw [zl_let, nI_1]
      exact step true ⟨fun _ => Or.inl rfl, fun _ => rfl⟩
    | false =>
      rw [if_pos (show zBo false = 0 from rfl), show (27 : Int32) = nI 27 from rfl, nI_add, zl_gd (zl_inN (show 27 + i < 300 by omega) (by decide)), zl_cl (show 27 + i < 2 ^ 31 by omega), zl_row27 hok hra hi3]
      have h63 := sy_63 hok (y := aS a i) ⟨i, hi3, rfl⟩
      by_cases c : aS a i = v
      · rw [if_pos (show lN (aS a i) = lN v by rw [c])]
        dsimp only
        rw [zl_let, nI_1]
        exact step true ⟨fun _ => Or.inr c, fun _ => rfl⟩
      · rw [if_neg (show ¬ lN (aS a i) = lN v from fun q => c ((pk_lEQ h63 hv).mp q))]
        dsimp only
        rw [zl_let, nI_1]
        refine step false ⟨fun q => by (cases q), ?_⟩
        rintro (q | q)
        · exact q
        · exact absurd q c
theorem is_eq (N : Nat) (hN : 100000 ≤ N) {a : AW} {row : Nat → Int32} {w : Nat → Int64} (hok : zOK a) (hra : zRA a row w 0) {v : Nat} (hv : v < 2 ^ 63) : ∃ z : Bool, f_X7_isSyl N row (lN v) = some (zBo z) ∧ (z = true ↔ isSy a v) := by
  have hsc : aSC a ≤ 10 := hok.2.1
  obtain ⟨z', q1, q2⟩ := is_loop N hok hra hv (fun (v3_11 : Int32) => zz_gd (zz_isB v3_11) ((some v3_11))) (aSC a) 0 N false (by omega) (by omega)
  refine ⟨z', ?_, q2.trans ⟨?_, ?_⟩⟩
  · unfold f_X7_isSyl
    rw [zl_let, show f_X7_isSyl_L5 N _ row (lN v) N 0 0 = _ from q1]
    cases z' <;> rfl
  · rintro (q | ⟨j, _, j2, j3⟩)
    · cases q
    · exact ⟨j, j2, j3⟩
  · rintro ⟨j, j2, j3⟩
    exact Or.inr ⟨j, by omega, j2, j3⟩
theorem tr_loop (N : Nat) (K : (Nat → Int32) → Option (Int64 × (Nat → Int32))) : ∀ (n d f : Nat) (tr : Nat → Int32), d + n = 199 → n < f → (∀ x, x < d → tr x = 0) → ∃ tr', f_X2_mendingSyllable_L3 N K f (nI d) tr = K tr' ∧ ∀ x, x ≤ 198 → tr' x = 0 := by
  intro n
  induction n with
  | zero =>
    intro d f nm hd hf h
    obtain ⟨f', rfl⟩ : ∃ f', f = f' + 1 := ⟨f - 1, by omega⟩
    rw [f_X2_mendingSyllable_L3_s, if_pos (show (198 : Int32) < nI d from nI_lt (a := 198) (by omega) (by omega))]
    exact ⟨nm, rfl, fun x h1 => h x (by omega)⟩
  | succ n ih =>
    intro d f nm hd hf h
    obtain ⟨f', rfl⟩ : ∃ f', f = f' + 1 := ⟨f - 1, by omega⟩
    rw [f_X2_mendingSyllable_L3_s, if_neg (show ¬ (198 : Int32) < nI d from nI_nlt (a := 198) (by omega) (by decide)), zl_gd (zl_inN (show d < 199 by omega) (by decide)), zl_let, zl_let, nI_1, zl_cl (show d < 2 ^ 31 by omega)]
    refine ih (d + 1) f' (upd nm d 0) (by omega) (by omega) (fun x h1 => ?_)
    by_cases e : x = d
    · rw [e, pk_us]
    · rw [pk_un e]
      exact h x (by omega)
theorem md_loop (N : Nat) (hN : 100000 ≤ N) {a : AW} {row num : Nat → Int32} {w : Nat → Int64} (hok : zOK a) (hra : zRA a row w 0) (hn : ∀ i, i < 26 → num i = nI (aN a i)) {few : Nat → Int32} {F : Nat → Nat} (h1 : zFe few F) (h2 : zFq F (qW a (aSC a))) {S : Nat → Nat} {M : Nat} (hM : M ≤ aSC a) (hQ : ∀ x, qW a (aSC a) x ↔ ∃ k, k < M ∧ S k = x) {b t : Nat} (hb : 1 ≤ b) (hbt : b ≤ t) (ht : t ≤ 400) (hmiss : ∃ x, b ≤ x ∧ x ≤ t ∧ ¬ rk (qW a (aSC a)) 3 x) : ∀ (n v f f' : Nat) (tr sums : Nat → Int32) (many : Int32) (nm : Nat → Int32), v + n = 729 → 1 ≤ v → n < f → n < f' → (∀ s, s ≤ 198 → ¬ tr s = 0 → ¬ ∀ x, b ≤ x → x ≤ t → rk (qS (qW a (aSC a)) s) 3 x) → (∀ k, k < M → sums k = nI (S k) ∧ S k ≤ 2000) → ∃ (r : Int64) (tr' sums' : Nat → Int32) (many' : Int32) (nm' : Nat → Int32), f_X2_mendingSyllable_L28 N (fun (t_tried_24 : Nat → Int32) => (some ((-1 : Int64), t_tried_24))) few num (nI b) (nI t) f (lN v) tr = some (r, tr') ∧ f_X7_mend_L53 N (fun (t_sums_33 : Nat → Int32) (t_sumMany_34 : Int32) (t_named_35 : Nat → Int32) => (some ((-1 : Int64), t_sums_33, t_sumMany_34, t_named_35))) row (nI b) (nI t) (nI M) f' (lN v) sums many nm = some (r, sums', many', nm') := by
  have hsc : aSC a ≤ 10 := hok.2.1
  intro n
  induction n with
  | zero =>
    intro v f f' tr sums many nm hv hv1 hf hf' htr hS
    obtain ⟨f, rfl⟩ : ∃ g, f = g + 1 := ⟨f - 1, by omega⟩
    obtain ⟨f', rfl⟩ : ∃ g, f' = g + 1 := ⟨f' - 1, by omega⟩
    have ev : v = 729 := by omega
    subst ev
    rw [f_X2_mendingSyllable_L28_s, f_X7_mend_L53_s, if_pos (show (728 : Int64) < lN 729 by decide), if_pos (show (729 : Int64) ≤ lN 729 by decide)]
    exact ⟨_, _, _, _, _, rfl, rfl⟩
  | succ n ih =>
    intro v f f' tr sums many nm hv hv1 hf hf' htr hS
    obtain ⟨f, rfl⟩ : ∃ g, f = g + 1 := ⟨f - 1, by omega⟩
    obtain ⟨f', rfl⟩ : ∃ g, f' = g + 1 := ⟨f' - 1, by omega⟩
    have v63 : v < 2 ^ 63 := by omega
    rw [f_X2_mendingSyllable_L28_s, f_X7_mend_L53_s, if_neg (show ¬ (728 : Int64) < lN v from fun q => by
      have := (pk_lLT (a := 728) (by decide) v63).mp q
      omega), if_neg (show ¬ (729 : Int64) ≤ lN v from fun q => by
      have := (pk_lLE (a := 729) (by decide) v63).mp q
      omega)]
    have next := fun (tr : Nat → Int32) (sums : Nat → Int32) (many : Int32) (nm : Nat → Int32) h h' => ih (v + 1) f f' tr sums many nm (by omega) (by omega) (by omega) (by omega) h h'
    rcases code_cases N hN (lN v) with ⟨m, hW, e, _, _, _, c7⟩ | ⟨_, c7, hno⟩
    · have em : v = m := (pk_lEQ v63 (w_63 hW)).mp e
      subst em
      obtain ⟨w0, w9, wD⟩ := isW_iff.mp hW
      have e6 := si_eq N hN hok hn w9 wD
      have hlen : (zL v).length ≤ 2 := zL_lt (f := 2) (by show v < 729; omega) v63
      have hs198 : aSum a v ≤ 198 := by
        have h1 := aV_le hok (zL v) (zL_low v)
        show aV a (zL v) ≤ 198
        omega
      rw [zl_b1 c7, zl_let, if_neg (show ¬ (1 : Int32) = 0 by decide), zl_b1 (ba_eq N hN hok (zl_row0 hra) v63 wD)]
      cases cB : aB a v with
      | false =>
        rw [cB] at e6
        rw [zl_b1 (show f_X5_sumInNames N num (lN v) = some 0 from e6), zl_let, if_pos (show (0 : Int32) ≤ 0 by decide), if_pos (show (if false = true then (1 : Int32) else 0) = 0 from rfl)]
        dsimp only
        rw [zl_let, zl_let, lN_1]
        exact next tr sums many nm htr hS
      | true =>
        rw [cB, if_pos rfl] at e6
        have hpos := aSum_pos w0 v63 cB
        obtain ⟨z, z1, z2⟩ := is_eq N hN hok hra v63
        obtain ⟨y, y1, y2⟩ := ma_eq N (aSum a v) hN hpos (by omega) h1 h2 hbt ht
        rw [zl_b1 e6, zl_let, if_neg (nI_nle hpos (by omega)), if_neg (show ¬ (198 : Int32) < nI (aSum a v) from nI_nlt (a := 198) hs198 (by decide)), zl_gd (zl_inN (show aSum a v < 199 by omega) (by decide)), zl_cl (show aSum a v < 2 ^ 31 by omega), zl_let, zl_b1 y1, if_neg (show ¬ (if true = true then (1 : Int32) else 0) = 0 by decide), zl_b1 z1]
        have htr' : y = false → ∀ s, s ≤ 198 → ¬ upd tr (aSum a v) 1 s = 0 → ¬ ∀ x, b ≤ x → x ≤ t → rk (qS (qW a (aSC a)) s) 3 x := fun hy s hs hne => by
          by_cases e : s = aSum a v
          · rw [e]
            intro q
            have := y2.mpr q
            rw [hy] at this
            cases this
          · rw [pk_un e] at hne
            exact htr s hs hne
        -- X6's next world, given that this one doesn't mend
        have six : y = false → ∃ tr1, (if tr (aSum a v) = 0 then (if zBo y = 0 then f_X2_mendingSyllable_L28 N (fun (t_tried_24 : Nat → Int32) => (some ((-1 : Int64), t_tried_24))) few num (nI b) (nI t) f (lN (v + 1)) (upd tr (aSum a v) 1) else some (lN v, upd tr (aSum a v) 1)) else f_X2_mendingSyllable_L28 N (fun (t_tried_24 : Nat → Int32) => (some ((-1 : Int64), t_tried_24))) few num (nI b) (nI t) f (lN (v + 1)) tr) = f_X2_mendingSyllable_L28 N (fun (t_tried_24 : Nat → Int32) => (some ((-1 : Int64), t_tried_24))) few num (nI b) (nI t) f (lN (v + 1)) tr1 ∧ ∀ s, s ≤ 198 → ¬ tr1 s = 0 → ¬ ∀ x, b ≤ x → x ≤ t → rk (qS (qW a (aSC a)) s) 3 x := fun hy => by
          by_cases c : tr (aSum a v) = 0
          · rw [if_pos c, hy, if_pos (show zBo false = 0 from rfl)]
            exact ⟨_, rfl, htr' hy⟩
          · rw [if_neg c]
            exact ⟨tr, rfl, htr⟩
        cases z with
        | true =>
          obtain ⟨j, j1, j2⟩ := z2.mp rfl
          have hy : y = false := by
            cases hy : y with
            | false => rfl
            | true =>
              obtain ⟨x, x1, x2, x3⟩ := hmiss
              refine absurd ((rk_congr (fun u => ?_)).mp (y2.mp hy x x1 x2)) x3
              constructor
              · rintro (q | q)
                · exact q
                · exact ⟨j, j1, by rw [j2]; exact cB, by rw [j2]; exact q.symm⟩
              · exact Or.inl
          obtain ⟨tr1, t1, t2⟩ := six hy
          obtain ⟨r, a1, a2, a3, a4, a5, a6⟩ := next tr1 sums many nm t2 hS
          rw [if_neg (show ¬ zBo true = 0 by decide)]
          refine ⟨r, a1, a2, a3, a4, ?_, ?_⟩
          · rw [← a5, ← t1]
            simp only [zl_let, lN_1]
          · rw [← a6]
            simp only [zl_let, lN_1]
        | false =>
          obtain ⟨nm1, l1, l2⟩ := lnd_eq N hN (sums := upd sums M (nI (aSum a v))) (S := nup S M (aSum a v)) (M := M + 1) (Q := qS (qW a (aSC a)) (aSum a v)) (by omega) (fun k hk => by
            by_cases e : k = M
            · rw [e, pk_us, nup_s]
              exact ⟨rfl, by omega⟩
            · rw [pk_un e, nup_n e]
              exact hS k (by omega)) (fun x => by
            constructor
            · rintro (q | q)
              · obtain ⟨k, k1, k2⟩ := (hQ x).mp q
                exact ⟨k, by omega, by rw [nup_n (by omega)]; exact k2⟩
              · exact ⟨M, by omega, by rw [nup_s]; exact q.symm⟩
            · rintro ⟨k, k1, k2⟩
              by_cases e : k = M
              · rw [e, nup_s] at k2
                exact Or.inr k2.symm
              · rw [nup_n e] at k2
                exact Or.inl ((hQ x).mpr ⟨k, by omega, k2⟩)) nm
          obtain ⟨r7, b1, b2⟩ := bare1 N hN (nm := nm1) hb hbt ht
          have hS' : ∀ k, k < M → upd sums M (nI (aSum a v)) k = nI (S k) ∧ S k ≤ 2000 := fun k hk => by
            rw [pk_un (by omega)]
            exact hS k hk
          have hr7 : r7 = -1 ↔ y = true := by
            rw [b2, y2]
            constructor
            · intro q x x1 x2
              exact Classical.byContradiction (fun hc => q x x1 x2 ((l2 x (by omega) (by omega)).mpr hc))
            · intro q x x1 x2 hz
              exact (l2 x (by omega) (by omega)).mp hz (q x x1 x2)
          rw [if_pos (show zBo false = 0 from rfl), zl_b1 (sum7 N hN (zl_row0 hra) v63 wD), zl_gd (zl_inN (show M < 11 by omega) (by decide)), zl_let, zl_let, nI_1, zl_cl (show M < 2 ^ 31 by omega), zl_b1 l1, zl_b1 b1]
          cases hy : y with
          | true =>
            rw [if_pos (hr7.mpr hy)]
            have c : tr (aSum a v) = 0 := Classical.byContradiction (fun hc => htr _ hs198 hc (y2.mp hy))
            rw [if_pos c, if_neg (show ¬ zBo true = 0 by decide)]
            exact ⟨_, _, _, _, _, rfl, rfl⟩
          | false =>
            obtain ⟨tr1, t1, t2⟩ := six hy
            rw [if_neg (show ¬ r7 = -1 from fun q => by
              rw [hr7.mp q] at hy
              cases hy)]
            obtain ⟨r, a1, a2, a3, a4, a5, a6⟩ := next tr1 _ (nI (M + 1)) nm1 t2 hS'
            refine ⟨r, a1, a2, a3, a4, ?_, ?_⟩
            · rw [← a5, ← t1, hy]
              simp only [zl_let, lN_1]
            · rw [← a6]
              simp only [zl_let, lN_1]
    · have hz : v % 27 = 0 := by
        by_cases c : v % 27 = 0
        · exact c
        · refine absurd rfl (hno v (isW_iff.mpr ⟨by omega, by rw [p27]; omega, ?_⟩))
          rw [zDg_s (by omega) v63, beq_eq_false_iff_ne.mpr c]
          by_cases c2 : v / 27 = 0
          · rw [c2]
            rfl
          · rw [zDg_s c2 (by omega), show v / 27 / 27 = 0 by omega, beq_eq_false_iff_ne.mpr (show v / 27 % 27 ≠ 0 by omega)]
            rfl
      have e6 : f_X5_sumInNames N num (lN v) = some 0 := by
        unfold f_X5_sumInNames
        obtain ⟨g, e⟩ : ∃ g, N = g + 1 := ⟨N - 1, by omega⟩
        rw [zl_let]
        have : ∀ k, f_X5_sumInNames_L5 N k num (g + 1) (lN v) 0 = some 0 := fun k => by
          rw [f_X5_sumInNames_L5_s, if_neg (show ¬ (9 : Int32) ≤ 0 by decide), if_neg (fun q => by
            have := (cd_pos v63).mp q
            omega)]
          have el : f_X6_lastLetter N (lN v) = some (-1) := by
            unfold f_X6_lastLetter
            rw [cd_rem v63, hz]
            rfl
          rw [zl_b1 el, zl_bF (zl_isLetter_f (by decide))]
        have h := this (zz_b1 (f_X5_sumOf N num (lN v)) (fun r_13 => (some r_13)))
        rw [← e] at h
        exact h
      rw [zl_b1 e6, zl_let, if_pos (show (0 : Int32) ≤ 0 by decide), zl_b1 c7, zl_let, if_pos rfl]
      dsimp only
      rw [zl_let, zl_let, lN_1]
      exact next tr sums many nm htr hS
theorem pr_mend (c : Nat → ClassId) (n_numbers : Nat → Int32) (n_syllables : Nat → Int64) (n_syllableCount : Int32) (n_days : Nat → Int32) (n_words : Nat → Int64) (n_parents : Nat → Int32) (n_otherParents : Nat → Int32) (n_kinds : Nat → Int32) (n_personCount : Int32) (n_hopeDays : Nat → Int32) (n_hopeTenths : Nat → Int32) (n_hopeCount : Int32) (n_degreesTold : Int32) (r_text : Nat → Int32) (r_length : Int32) (s_lane : Nat → Int32) (s_size : Nat → Int32) (s_items : Nat → Nat → Int32) (i_ir : Nat → Option Nat) (g0 : va_W) (g1 : va_W) (z_row : Nat → Int32) (z_words : Nat → Int64) (z_isKept : Nat → Int32) (z_text : Nat → Int32) (z_length : Int32) (z_lanes : Nat → Int32) (z_sizes : Nat → Int32) (z_items : Nat → Int32) (h_fewest : Nat → Int32) (h_tried : Nat → Int32) (z_sums : Nat → Int32) (z_sumMany : Int32) (z_named : Nat → Int32) (p1 : Int32) (p2 : Int32) (N : Nat) (hN : 100000 ≤ N) (hR : zRel c n_numbers n_syllables n_syllableCount n_days n_words n_parents n_otherParents n_kinds n_personCount n_hopeDays n_hopeTenths n_hopeCount n_degreesTold r_text r_length s_lane s_size s_items i_ir g0 g1 z_row z_words z_isKept z_text z_length z_lanes z_sizes z_items) (hq_h : h_fewest 0 = 0) : ∃ (r : Int64) (o_h_fewest : Nat → Int32) (o_h_tried : Nat → Int32) (e_sums : Nat → Int32) (e_sumMany : Int32) (e_named : Nat → Int32), f_X6_mend N n_numbers n_syllables n_syllableCount h_fewest h_tried p1 p2 = some (r, o_h_fewest, o_h_tried) ∧ f_X7_mend N z_row z_sums z_sumMany z_named p1 p2 = some (r, e_sums, e_sumMany, e_named) ∧ zRel c n_numbers n_syllables n_syllableCount n_days n_words n_parents n_otherParents n_kinds n_personCount n_hopeDays n_hopeTenths n_hopeCount n_degreesTold r_text r_length s_lane s_size s_items i_ir g0 g1 z_row z_words z_isKept z_text z_length z_lanes z_sizes z_items ∧ o_h_fewest 0 = 0 := by
  obtain ⟨⟨a, hok, hw, hra⟩, _⟩ := id hR
  have hsc : aSC a ≤ 10 := hok.2.1
  have h26 : z_row (26 : Int32).toNatClampNeg = nI (aSC a) := hra.2.1
  suffices hh : ∃ (r : Int64) (o_h_fewest : Nat → Int32) (o_h_tried : Nat → Int32) (e_sums : Nat → Int32) (e_sumMany : Int32) (e_named : Nat → Int32), f_X6_mend N n_numbers n_syllables n_syllableCount h_fewest h_tried p1 p2 = some (r, o_h_fewest, o_h_tried) ∧ f_X7_mend N z_row z_sums z_sumMany z_named p1 p2 = some (r, e_sums, e_sumMany, e_named) ∧ o_h_fewest 0 = 0 by
    obtain ⟨x0, x1, x2, x3, x4, x5, h1, h2, h3⟩ := hh
    exact ⟨x0, x1, x2, x3, x4, x5, h1, h2, hR, h3⟩
  unfold f_X6_mend f_X7_mend
  rw [hw.2.1]
  rcases ad_cases p1 p2 with ⟨b, t, b1, bt_, t2, rfl, rfl, hd⟩ | hd
  · obtain ⟨few, F, m1, m2, m3⟩ := me_eq N hN hok hw.1 hw.2.2.1 hq_h
    obtain ⟨sums', M, S, nm', l1, l2, l3, l4, l5⟩ := ls_eq N hN hok hra z_sums z_named
    have key : ∀ d, 1 ≤ d → d ≤ 400 → (few d ≤ (3 : Int32) ↔ ¬ nm' d = 0) := fun d h1 h2 => few_nm m2 m3 l5 h1 h2
    obtain ⟨r, e1, e2, e3⟩ := fw_both N hN b1 bt_ t2 key
    rw [zl_bT (hd N).1, zl_bT (hd N).2, zl_b1 m1, zl_b3 l1, zl_b1 e1, zl_b1 e2]
    by_cases c : r = -1
    · rw [if_pos c, if_pos c]
      exact ⟨_, _, _, _, _, _, rfl, rfl, fe0 m2 m3⟩
    · have hmiss : ∃ x, b ≤ x ∧ x ≤ t ∧ ¬ rk (qW a (aSC a)) 3 x := by
        refine Classical.byContradiction (fun hc => c (e3.mpr (fun x x1 x2 hz => ?_)))
        exact hc ⟨x, x1, x2, (l5 x (by omega) (by omega)).mp hz⟩
      rw [if_neg c, if_neg c, h26]
      by_cases c2 : aSC a = 10
      · rw [if_neg (show ¬ nI (aSC a) < (10 : Int32) from nI_nlt (b := 10) (by omega) (by omega)), if_pos (show nI (aSC a) = (10 : Int32) by rw [c2]; rfl)]
        exact ⟨_, _, _, _, _, _, rfl, rfl, fe0 m2 m3⟩
      · rw [if_pos (show nI (aSC a) < (10 : Int32) from nI_lt (b := 10) (by omega) (by decide)), if_neg (show ¬ nI (aSC a) = (10 : Int32) from fun q => c2 ((nI_eq (b := 10) (by omega) (by decide)).mp q)), zl_let]
        obtain ⟨tr, t1, t3⟩ := tr_loop N (fun (t_tried_8 : Nat → Int32) => zz_let (fun (t_tried_24 : Nat → Int32) => (some ((-1 : Int64), t_tried_24))) (fun k_9 => f_X2_mendingSyllable_L28 N k_9 few n_numbers (nI b) (nI t) N (1 : Int64) t_tried_8)) 199 0 N h_tried (by omega) (by omega) (fun x hx => by omega)
        obtain ⟨r', tr', s', many', n', q1, q2⟩ := md_loop N hN hok hra hw.1 m2 m3 l2 l4 b1 bt_ t2 hmiss 728 1 N N tr sums' (nI M) nm' (by omega) (by omega) (by omega) (by omega) (fun s hs hne => absurd (t3 s hs) hne) l3
        have q1' : f_X2_mendingSyllable N few h_tried n_numbers (nI b) (nI t) = some (r', tr') := by
          unfold f_X2_mendingSyllable
          rw [zl_let, show f_X2_mendingSyllable_L3 N _ N 0 h_tried = _ from t1, zl_let]
          exact q1
        rw [zl_b2 q1', show f_X7_mend_L53 N _ z_row (nI b) (nI t) (nI M) N 1 sums' (nI M) nm' = _ from q2]
        exact ⟨_, _, _, _, _, _, rfl, rfl, fe0 m2 m3⟩
  · rw [zl_bF (hd N).1, zl_bF (hd N).2]
    exact ⟨_, _, _, _, _, _, rfl, rfl, hq_h⟩
