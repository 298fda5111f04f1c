/-! ===== rows of codes: put in order, each once ===== -/
def zIn (f : Nat → Int64) (s : Nat) (v : Int64) : Prop := ∃ i, i < s ∧ f i = v
def zSo (f : Nat → Int64) (s : Nat) : Prop := ∀ i j, i < j → j < s → (f i).toInt ≤ (f j).toInt
def zSs (f : Nat → Int64) (s : Nat) : Prop := ∀ i j, i < j → j < s → (f i).toInt < (f j).toInt
/-- a hole moves: the same things stand there -/
theorem in_swap {t : Nat → Int64} {s to k : Nat} {v : Int64} (h1 : to < s) (h2 : k < s) (h3 : k ≠ to) (u : Int64) : zIn (vp_updL (vp_updL t to (t k)) k v) s u ↔ zIn (vp_updL t to v) s u := by
  constructor
  · rintro ⟨i, hi, e⟩
    by_cases c1 : i = k
    · subst c1
      rw [pk_uLs] at e
      exact ⟨to, h1, by rw [pk_uLs, e]⟩
    · rw [pk_uLn c1] at e
      by_cases c2 : i = to
      · subst c2
        rw [pk_uLs] at e
        exact ⟨k, h2, by rw [pk_uLn h3, e]⟩
      · rw [pk_uLn c2] at e
        exact ⟨i, hi, by rw [pk_uLn c2, e]⟩
  · rintro ⟨i, hi, e⟩
    by_cases c2 : i = to
    · subst c2
      rw [pk_uLs] at e
      exact ⟨k, h2, by rw [pk_uLs, e]⟩
    · rw [pk_uLn c2] at e
      by_cases c1 : i = k
      · subst c1
        exact ⟨to, h1, by rw [pk_uLn (fun q => h3 q.symm), pk_uLs, e]⟩
      · exact ⟨i, hi, by rw [pk_uLn c1, pk_uLn c2, e]⟩
def zHo (t : Nat → Int64) (to i : Nat) (v : Int64) : Prop := (∀ a b, a < b → b ≤ i → a ≠ to → b ≠ to → (t a).toInt ≤ (t b).toInt) ∧ ∀ b, to < b → b ≤ i → v.toInt ≤ (t b).toInt
theorem so45 (N s h i : Nat) (hs : s ≤ 1110) (hh : 1 ≤ h) (hh2 : h ≤ 701) (hi : i < s) (v : Int64) (K : Int32 → (Nat → Int64) → Option (Nat → Int64)) : ∀ (f to : Nat) (t : Nat → Int64), to < f → to ≤ i → (h = 1 → zHo t to i v) → ∃ to' t', f_X0_sort_L45 N K (nI h) v f (nI to) t = K (nI to') t' ∧ to' ≤ i ∧ (∀ u, zIn (vp_updL t' to' v) s u ↔ zIn (vp_updL t to v) s u) ∧ (∀ k, i < k → t' k = t k) ∧ (h = 1 → zHo t' to' i v ∧ (to' = 0 ∨ (t' (to' - 1)).toInt ≤ v.toInt)) := by
  intro f
  induction f with
  | zero =>
    intro to t hf
    omega
  | succ f ih =>
    intro to t hf hto hho
    rw [f_X0_sort_L45_s]
    by_cases c : to < h
    · rw [if_pos (nI_lt c (by omega))]
      exact ⟨to, t, rfl, hto, fun u => Iff.rfl, fun k _ => rfl, fun e => ⟨hho e, Or.inl (by omega)⟩⟩
    · rw [if_neg (nI_nlt (by omega) (by omega)), pk_sub (by omega), zl_gd (zl_inN (show to - h < 1110 by omega) (by decide)), zl_cl (show to - h < 2 ^ 31 by omega)]
      by_cases c2 : t (to - h) ≤ v
      · rw [if_pos c2]
        refine ⟨to, t, rfl, hto, fun u => Iff.rfl, fun k _ => rfl, fun e => ⟨hho e, Or.inr ?_⟩⟩
        rw [fa_le64, e] at c2
        exact c2
      · rw [if_neg c2, zl_gd (zl_inN (show to < 1110 by omega) (by decide)), zl_let, zl_let, zl_cl (show to < 2 ^ 31 by omega)]
        obtain ⟨to', t', q1, q2, q3, q5, q4⟩ := ih (to - h) (vp_updL t to (t (to - h))) (by omega) (by omega) (fun e => by
          obtain ⟨g1, g2⟩ := hho e
          subst e
          refine ⟨fun a b hab hb ha hb2 => ?_, fun b hb hb2 => ?_⟩
          · by_cases e1 : b = to
            · subst e1
              rw [pk_uLs, pk_uLn (by omega)]
              exact g1 a (b - 1) (by omega) (by omega) (by omega) (by omega)
            · rw [pk_uLn e1]
              by_cases e2 : a = to
              · subst e2
                rw [pk_uLs]
                exact g1 (a - 1) b (by omega) hb (by omega) e1
              · rw [pk_uLn e2]
                exact g1 a b hab hb e2 e1
          · by_cases e1 : b = to
            · subst e1
              rw [pk_uLs]
              rw [fa_le64] at c2
              omega
            · rw [pk_uLn e1]
              exact g2 b (by omega) hb2)
        refine ⟨to', t', q1, by omega, fun u => (q3 u).trans (in_swap (by omega) (by omega) (by omega) u), fun k hk => ?_, q4⟩
        rw [q5 k hk, pk_uLn (by omega)]
theorem so23 (N s h : Nat) (hN : 100000 ≤ N) (hs : s ≤ 1110) (hh : 1 ≤ h) (hh2 : h ≤ 701) (K : (Nat → Int64) → Option (Nat → Int64)) : ∀ (d i f : Nat) (t : Nat → Int64), i + d = s ∨ (d = 0 ∧ s ≤ i) → i < 2 ^ 20 → d < f → (h = 1 → zSo t i) → ∃ t', f_X0_sort_L23 N K (nI s) (nI h) f (nI i) t = K t' ∧ (∀ u, zIn t' s u ↔ zIn t s u) ∧ (h = 1 → zSo t' s) := by
  intro d
  induction d with
  | zero =>
    intro i f t hi hi2 hf hso
    obtain ⟨f', rfl⟩ : ∃ f', f = f' + 1 := ⟨f - 1, by omega⟩
    rw [f_X0_sort_L23_s, if_pos (nI_le (by omega) (by omega))]
    exact ⟨t, rfl, fun u => Iff.rfl, fun e a b hab hb => hso e a b hab (by omega)⟩
  | succ d ih =>
    intro i f t hi hi2 hf hso
    obtain ⟨f', rfl⟩ : ∃ f', f = f' + 1 := ⟨f - 1, by omega⟩
    have hi3 : i < s := by omega
    rw [f_X0_sort_L23_s, if_neg (nI_ge hi3 (by omega)), zl_gd (zl_inN (show i < 1110 by omega) (by decide)), zl_let, zl_let, zl_cl (show i < 2 ^ 31 by omega)]
    obtain ⟨to, t1, q1, q2, q3, q5, q4⟩ := so45 N s h i hs hh hh2 hi3 (t i) (fun (v8_22 : Int32) (t_codes_23 : Nat → Int64) => zz_gd (zz_in v8_22 1110) (zz_let (vp_updL t_codes_23 v8_22.toNatClampNeg (t i)) (fun t_codes_25 => zz_let (nI i + (1 : Int32)) (fun v5_26 => (f_X0_sort_L23 N K (nI s) (nI h) f' v5_26 t_codes_25))))) N i t (by omega) (by omega) (fun e => ⟨fun a b hab hb ha hb2 => hso e a b hab (by omega), fun b hb hb2 => by omega⟩)
    rw [q1, zl_gd (zl_inN (show to < 1110 by omega) (by decide)), zl_let, zl_let, nI_1, zl_cl (show to < 2 ^ 31 by omega)]
    obtain ⟨t', r1, r2, r3⟩ := ih (i + 1) f' (vp_updL t1 to (t i)) (by omega) (by omega) (by omega) (fun e a b hab hb => by
      obtain ⟨⟨g1, g2⟩, g3⟩ := q4 e
      by_cases e1 : b = to
      · subst e1
        rw [pk_uLs, pk_uLn (by omega)]
        rcases g3 with g3 | g3
        · omega
        · by_cases e2 : a = b - 1
          · rw [e2]
            exact g3
          · have := g1 a (b - 1) (by omega) (by omega) (by omega) (by omega)
            omega
      · rw [pk_uLn e1]
        by_cases e2 : a = to
        · subst e2
          rw [pk_uLs]
          exact g2 b hab (by omega)
        · rw [pk_uLn e2]
          exact g1 a b hab (by omega) e2 e1)
    refine ⟨t', r1, fun u => (r2 u).trans ((q3 u).trans ?_), r3⟩
    have : vp_updL t i (t i) = t := by
      funext k
      by_cases e : k = i
      · rw [e, pk_uLs]
      · rw [pk_uLn e]
    rw [this]
theorem gap_at : ∀ i, i < 8 → ∃ h : Nat, 1 ≤ h ∧ h ≤ 701 ∧ zGap.getD i 0 = nI h ∧ (i = 7 → h = 1) := by
  intro i hi
  match i, hi with
  | 0, _ => exact ⟨701, by omega, by omega, rfl, fun e => by omega⟩
  | 1, _ => exact ⟨301, by omega, by omega, rfl, fun e => by omega⟩
  | 2, _ => exact ⟨132, by omega, by omega, rfl, fun e => by omega⟩
  | 3, _ => exact ⟨57, by omega, by omega, rfl, fun e => by omega⟩
  | 4, _ => exact ⟨23, by omega, by omega, rfl, fun e => by omega⟩
  | 5, _ => exact ⟨10, by omega, by omega, rfl, fun e => by omega⟩
  | 6, _ => exact ⟨4, by omega, by omega, rfl, fun e => by omega⟩
  | 7, _ => exact ⟨1, by omega, by omega, rfl, fun e => rfl⟩
theorem so9 (N s : Nat) (hN : 100000 ≤ N) (hs : s ≤ 1110) (K : (Nat → Int64) → Option (Nat → Int64)) : ∀ (d i f : Nat) (t : Nat → Int64), i + d = 8 → d < f → (i = 8 → zSo t s) → ∃ t', f_X0_sort_L9 N K (nI s) f (nI i) t = K t' ∧ (∀ u, zIn t' s u ↔ zIn t s u) ∧ zSo t' s := by
  intro d
  induction d with
  | zero =>
    intro i f t hi hf hso
    obtain ⟨f', rfl⟩ : ∃ f', f = f' + 1 := ⟨f - 1, by omega⟩
    have hi : i = 8 := by omega
    subst hi
    rw [f_X0_sort_L9_s, if_pos (show (8 : Int32) ≤ nI 8 by decide)]
    exact ⟨t, rfl, fun u => Iff.rfl, hso rfl⟩
  | succ d ih =>
    intro i f t hi hf hso
    obtain ⟨f', rfl⟩ : ∃ f', f = f' + 1 := ⟨f - 1, by omega⟩
    obtain ⟨h, h1, h2, h3, h4⟩ := gap_at i (by omega)
    rw [f_X0_sort_L9_s, if_neg (show ¬ (8 : Int32) ≤ nI i from nI_ge (b := 8) (by omega) (by omega)), zl_gd (zl_inN (show i < 8 by omega) (by decide)), zl_let, zl_let, zl_cl (show i < 2 ^ 31 by omega), h3]
    obtain ⟨t1, q1, q2, q3⟩ := so23 N s h hN hs h1 h2 (fun (t_codes_27 : Nat → Int64) => zz_let (nI i + (1 : Int32)) (fun v3_28 => (f_X0_sort_L9 N K (nI s) f' v3_28 t_codes_27))) (s - h) h N t (by omega) (by omega) (by omega) (fun e a b hab hb => by omega)
    rw [q1, zl_let, nI_1]
    obtain ⟨t', r1, r2, r3⟩ := ih (i + 1) f' t1 (by omega) (by omega) (fun e => q3 (h4 (by omega)))
    exact ⟨t', r1, fun u => (r2 u).trans (q2 u), r3⟩
theorem so_eq (N s : Nat) (hN : 100000 ≤ N) (hs : s ≤ 1110) (t : Nat → Int64) : ∃ t', f_X0_sort N t (nI s) = some t' ∧ (∀ u, zIn t' s u ↔ zIn t s u) ∧ zSo t' s := by
  unfold f_X0_sort
  rw [zl_let]
  exact so9 N s hN hs (fun t => some t) 8 0 N t (by omega) (by omega) (fun e => by omega)
theorem dl_loop (N s : Nat) (hs : s ≤ 1110) (g : Nat → Int64) (hg : zSo g s) (K : Int32 → (Nat → Int64) → Option ((Nat → Int64) × Int32)) : ∀ (d i f k : Nat) (t : Nat → Int64), i + d = s → d < f → k ≤ i → (∀ j, i ≤ j → j < s → t j = g j) → zSs t k → (∀ u, zIn t k u ↔ zIn g i u) → (0 < i → 0 < k ∧ t (k - 1) = g (i - 1)) → ∃ k' t', f_X0_dropLike_L4 N K (nI s) f (nI k) (nI i) t = K (nI k') t' ∧ k' ≤ s ∧ zSs t' k' ∧ (∀ u, zIn t' k' u ↔ zIn g s u) := by
  intro d
  induction d with
  | zero =>
    intro i f k t hi hf hk h1 h2 h3 h4
    obtain ⟨f', rfl⟩ : ∃ f', f = f' + 1 := ⟨f - 1, by omega⟩
    have hi : i = s := by omega
    subst hi
    rw [f_X0_dropLike_L4_s, if_pos (nI_le (Nat.le_refl _) (by omega))]
    exact ⟨k, t, rfl, hk, h2, h3⟩
  | succ d ih =>
    intro i f k t hi hf hk h1 h2 h3 h4
    obtain ⟨f', rfl⟩ : ∃ f', f = f' + 1 := ⟨f - 1, by omega⟩
    have hi3 : i < s := by omega
    have hti : t i = g i := h1 i (Nat.le_refl _) hi3
    have snoc : ∀ u, zIn g (i + 1) u ↔ (zIn g i u ∨ g i = u) := fun u => by
      constructor
      · rintro ⟨j, hj, e⟩
        by_cases c : j = i
        · rw [c] at e
          exact Or.inr e
        · exact Or.inl ⟨j, by omega, e⟩
      · rintro (⟨j, hj, e⟩ | e)
        · exact ⟨j, by omega, e⟩
        · exact ⟨i, by omega, e⟩
    have put : (0 < k → (t (k - 1)).toInt < (g i).toInt) → ∃ k' t', f_X0_dropLike_L4 N K (nI s) f' (nI (k + 1)) (nI (i + 1)) (vp_updL t k (g i)) = K (nI k') t' ∧ k' ≤ s ∧ zSs t' k' ∧ (∀ u, zIn t' k' u ↔ zIn g s u) := fun hlt => by
      refine ih (i + 1) f' (k + 1) _ (by omega) (by omega) (by omega) (fun j hj hj2 => ?_) (fun a b hab hb => ?_) (fun u => ?_) (fun _ => ⟨by omega, ?_⟩)
      · rw [pk_uLn (by omega)]
        exact h1 j (by omega) hj2
      · by_cases e : b = k
        · subst e
          rw [pk_uLs, pk_uLn (by omega)]
          have h5 := hlt (by omega)
          by_cases e2 : a = b - 1
          · rw [e2]
            exact h5
          · have := h2 a (b - 1) (by omega) (by omega)
            omega
        · rw [pk_uLn e, pk_uLn (by omega)]
          exact h2 a b hab (by omega)
      · rw [snoc u, ← h3 u]
        constructor
        · rintro ⟨j, hj, e⟩
          by_cases c : j = k
          · rw [c, pk_uLs] at e
            exact Or.inr e
          · rw [pk_uLn c] at e
            exact Or.inl ⟨j, by omega, e⟩
        · rintro (⟨j, hj, e⟩ | e)
          · exact ⟨j, by omega, by rw [pk_uLn (by omega)]; exact e⟩
          · exact ⟨k, by omega, by rw [pk_uLs]; exact e⟩
      · rw [Nat.add_sub_cancel, Nat.add_sub_cancel, pk_uLs]
    rw [f_X0_dropLike_L4_s, if_neg (nI_ge hi3 (by omega)), zl_let, nI_1, zl_gd (zl_inN (show i < 1110 by omega) (by decide)), zl_gd (zl_inN (show k < 1110 by omega) (by decide)), zl_let, zl_let, nI_1, zl_cl (show k < 2 ^ 31 by omega), zl_cl (show i < 2 ^ 31 by omega), hti]
    by_cases c : k = 0
    · rw [if_pos (show nI k = 0 by rw [c]; rfl)]
      dsimp only
      rw [zl_let]
      exact put (fun q => by omega)
    · obtain ⟨h5, h6⟩ := h4 (by omega)
      rw [if_neg (nI_ne0 (by omega) (by omega)), show (1 : Int32) = nI 1 from rfl, pk_sub (show 1 ≤ k by omega), zl_gd (zl_inN (show k - 1 < 1110 by omega) (by decide)), zl_cl (show k - 1 < 2 ^ 31 by omega), zl_gd (zl_inN (show i < 1110 by omega) (by decide)), h6]
      by_cases c2 : g (i - 1) = g i
      · rw [if_pos c2]
        dsimp only
        rw [zl_let]
        refine ih (i + 1) f' k t (by omega) (by omega) (by omega) (fun j hj hj2 => h1 j (by omega) hj2) h2 (fun u => ?_) (fun _ => ⟨h5, ?_⟩)
        · rw [snoc u, h3 u]
          constructor
          · exact Or.inl
          · rintro (q | q)
            · exact q
            · exact ⟨i - 1, by omega, by rw [c2]; exact q⟩
        · rw [h6, Nat.add_sub_cancel, c2]
      · rw [if_neg c2]
        first | rw [zl_gd (zl_inN (show k < 1110 by omega) (by decide)), zl_let, zl_let] | skip
        dsimp only
        first | rw [zl_let] | skip
        refine put (fun _ => ?_)
        have h7 := hg (i - 1) i (by omega) hi3
        have h8 : (g (i - 1)).toInt ≠ (g i).toInt := fun e => c2 ((fa_eq64 _ _).mpr e)
        rw [h6]
        omega
theorem dl_eq (N s : Nat) (hN : 100000 ≤ N) (hs : s ≤ 1110) (g : Nat → Int64) (hg : zSo g s) : ∃ k' t', f_X0_dropLike N g (nI s) = some (t', nI k') ∧ k' ≤ s ∧ zSs t' k' ∧ (∀ u, zIn t' k' u ↔ zIn g s u) := by
  unfold f_X0_dropLike
  rw [zl_let]
  exact dl_loop N s hs g hg (fun (v1_21 : Int32) (t_codes_22 : Nat → Int64) => (some (t_codes_22, v1_21))) s 0 N 0 g (by omega) (by omega) (by omega) (fun _ _ _ => rfl) (fun a b hab hb => by omega) (fun u => Iff.rfl) (fun e => by omega)
