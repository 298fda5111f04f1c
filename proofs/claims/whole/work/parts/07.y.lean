/-! ===== hopes ===== -/
theorem gcd_loop (N : Nat) (K6 K7 : Int64 → Option Int64) : ∀ (k i f f' a b : Nat), b < 2 ^ k → a < 2 ^ 62 → b < 2 ^ 62 → i + 2 * k ≤ 99 → 2 * k < f → 2 * k < f' → (0 < a ∨ 0 < b) → ∃ g, 0 < g ∧ g < 2 ^ 62 ∧ f_X6_commonDivisor_L9 N K6 f (lN a) (lN b) (nI i) = K6 (lN g) ∧ f_X7_divisor_L6 N K7 f' (lN a) (lN b) = K7 (lN g) := by
  intro k
  induction k with
  | zero =>
    intro i f f' a b hb ha hb2 hi hf hf' h0
    obtain ⟨f, rfl⟩ : ∃ g, f = g + 1 := ⟨f - 1, by omega⟩
    obtain ⟨f', rfl⟩ : ∃ g, f' = g + 1 := ⟨f' - 1, by omega⟩
    rw [Nat.pow_zero] at hb
    have hb0 : b = 0 := by omega
    refine ⟨a, by omega, ha, ?_, ?_⟩
    · rw [f_X6_commonDivisor_L9_s, if_neg (show ¬ (100 : Int32) ≤ nI i from nI_ge (b := 100) (by omega) (by omega)), if_pos ((cd_0 (by omega)).mpr hb0)]
    · rw [f_X7_divisor_L6_s, if_pos ((cd_0 (by omega)).mpr hb0)]
  | succ k ih =>
    intro i f f' a b hb ha hb2 hi hf hf' h0
    obtain ⟨f, rfl⟩ : ∃ g, f = g + 2 := ⟨f - 2, by omega⟩
    obtain ⟨f', rfl⟩ : ∃ g, f' = g + 2 := ⟨f' - 2, by omega⟩
    have n100 : ∀ j, j ≤ 99 → ¬ (100 : Int32) ≤ nI j := fun j hj => nI_ge (b := 100) (by omega) (by omega)
    by_cases c : b = 0
    · refine ⟨a, by omega, ha, ?_, ?_⟩
      · rw [f_X6_commonDivisor_L9_s, if_neg (n100 i (by omega)), if_pos ((cd_0 (by omega)).mpr c)]
      · rw [f_X7_divisor_L6_s, if_pos ((cd_0 (by omega)).mpr c)]
    · have hr : a % b < b := Nat.mod_lt _ (by omega)
      have nz : ∀ x, x ≠ 0 → x < 2 ^ 62 → zz_nzL (lN x) = true := fun x h1 h2 => decide_eq_true (fun q => h1 ((cd_0 (by omega)).mp q))
      have cn : ∀ x, x ≠ 0 → x < 2 ^ 62 → ¬ lN x = (0 : Int64) := fun x h1 h2 q => h1 ((cd_0 (by omega)).mp q)
      by_cases c2 : a % b = 0
      · refine ⟨b, by omega, hb2, ?_, ?_⟩
        · rw [f_X6_commonDivisor_L9_s, if_neg (n100 i (by omega)), if_neg (cn b c hb2), zl_gd (nz b c hb2), zl_let, zl_let, pk_lRem (by omega) (by omega) (by omega), nI_1, f_X6_commonDivisor_L9_s, if_neg (n100 (i + 1) (by omega)), if_pos ((cd_0 (by omega)).mpr c2)]
        · rw [f_X7_divisor_L6_s, if_neg (cn b c hb2), zl_gd (nz b c hb2), zl_let, pk_lRem (by omega) (by omega) (by omega), f_X7_divisor_L6_s, if_pos ((cd_0 (by omega)).mpr c2)]
      · have hr2 : b % (a % b) < a % b := Nat.mod_lt _ (by omega)
        have hr3 : 2 * (b % (a % b)) < b := by
          have h1 := Nat.div_add_mod b (a % b)
          have h2 : 1 ≤ b / (a % b) := (Nat.one_le_div_iff (by omega)).mpr (by omega)
          have h3 : (a % b) * 1 ≤ (a % b) * (b / (a % b)) := Nat.mul_le_mul_left _ h2
          omega
        have hb' : b % (a % b) < 2 ^ k := by
          rw [Nat.pow_succ] at hb
          omega
        obtain ⟨g, g0, g1, g2, g3⟩ := ih (i + 1 + 1) f f' (a % b) (b % (a % b)) hb' (by omega) (by omega) (by omega) (by omega) (by omega) (Or.inl (by omega))
        refine ⟨g, g0, g1, ?_, ?_⟩
        · rw [f_X6_commonDivisor_L9_s, if_neg (n100 i (by omega)), if_neg (cn b c hb2), zl_gd (nz b c hb2), zl_let, zl_let, pk_lRem (by omega) (by omega) (by omega), nI_1, f_X6_commonDivisor_L9_s, if_neg (n100 (i + 1) (by omega)), if_neg (cn _ c2 (by omega)), zl_gd (nz _ c2 (by omega)), zl_let, zl_let, pk_lRem (by omega) (by omega) (by omega), nI_1, g2]
        · rw [f_X7_divisor_L6_s, if_neg (cn b c hb2), zl_gd (nz b c hb2), zl_let, pk_lRem (by omega) (by omega) (by omega), f_X7_divisor_L6_s, if_neg (cn _ c2 (by omega)), zl_gd (nz _ c2 (by omega)), zl_let, pk_lRem (by omega) (by omega) (by omega), g3]
theorem gcd_eq (N : Nat) (hN : 100000 ≤ N) {a b : Nat} (ha : a < 2 ^ 62) (hb : b < 2 ^ 20) (h0 : 0 < b) : ∃ g, 0 < g ∧ g < 2 ^ 62 ∧ f_X6_commonDivisor N (lN a) (lN b) = some (lN g) ∧ f_X7_divisor N (lN a) (lN b) = some (lN g) := by
  obtain ⟨g, g0, g1, g2, g3⟩ := gcd_loop N (fun (v4_10 : Int64) => (some (if v4_10 < (1 : Int64) then (1 : Int64) else v4_10))) (fun v => some v) 20 0 N N a b hb ha (by omega) (by omega) (by omega) (by omega) (Or.inr h0)
  refine ⟨g, g0, g1, ?_, ?_⟩
  · unfold f_X6_commonDivisor
    rw [zl_let, show f_X6_commonDivisor_L9 N _ N (lN a) (lN b) 0 = _ from g2, if_neg (show ¬ lN g < (1 : Int64) from fun q => by
      have := (pk_lLT (b := 1) (by omega) (by decide)).mp q
      omega)]
  · unfold f_X7_divisor
    rw [zl_let, g3]
def zHp (a : AW) (hd ht : Nat → Int32) : Prop := ∀ i, i < aHC a → hd i = nI (aHD a i) ∧ ht i = nI (aHT a i)
theorem zl_row88 {a : AW} {row : Nat → Int32} {w : Nat → Int64} (hra : zRA a row w 0) {i : Nat} (hi : i < aHC a) : row (88 + i) = nI (aHD a i) ∧ row (94 + i) = nI (aHT a i) := by
  have h := hra.2.2.2.2.2.2.2 i hi
  rwa [show 100 * 0 + 88 + i = 88 + i by omega, show 100 * 0 + 94 + i = 94 + i by omega] at h
/-- how many come on the day of hope i -/
def cmW (a : AW) (v : Int32) (i n : Nat) : Nat := fb_ct (fun j => bt v j && (aHD a j == aHD a i)) n
theorem cw6 (N : Nat) {a : AW} {hd : Nat → Int32} (hok : zOK a) (hh : ∀ i, i < aHC a → hd i = nI (aHD a i)) (v : Int32) {i : Nat} (hi : i < aHC a) (K : Int32 → Option Int32) : ∀ (d j f : Nat), j + d = aHC a → d < f → f_X6_comingWith_L5 N K hd (nI (aHC a)) v (nI i) f (nI (cmW a v i j)) (nI j) = K (nI (cmW a v i (aHC a))) := by
  have hhc : aHC a ≤ 6 := hok.2.2.2.2.2.2.1
  have hb := hok.2.2.2.2.2.2.2.1
  intro d
  induction d with
  | zero =>
    intro j f hj hf
    obtain ⟨f', rfl⟩ : ∃ f', f = f' + 1 := ⟨f - 1, by omega⟩
    rw [f_X6_comingWith_L5_s, if_pos (nI_le (by omega) (by omega)), show j = aHC a by omega]
  | succ d ih =>
    intro j f hj hf
    obtain ⟨f', rfl⟩ : ∃ f', f = f' + 1 := ⟨f - 1, by omega⟩
    have hj2 : j < aHC a := by omega
    have ih2 := ih (j + 1) f' (by omega) (by omega)
    have es : cmW a v i (j + 1) = cmW a v i j + (if (bt v j && (aHD a j == aHD a i)) = true then 1 else 0) := fb_ct_succ _ _
    rw [es] at ih2
    rw [f_X6_comingWith_L5_s, if_neg (nI_ge (by omega) (by omega)), zl_let, b_bitv (show j < 32 by omega)]
    cases c : bt v j with
    | false =>
      rw [c, Bool.false_and] at ih2
      rw [if_pos (show (if false = true then (1 : Int32) else 0) = 0 from rfl)]
      dsimp only
      rw [zl_let, nI_1]
      exact ih2
    | true =>
      rw [c, Bool.true_and] at ih2
      rw [if_neg (show ¬ (if true = true then (1 : Int32) else 0) = 0 by decide), zl_gd (zl_inN (show j < 6 by omega) (by decide)), zl_gd (zl_inN (show i < 6 by omega) (by decide)), zl_cl (show j < 2 ^ 31 by omega), zl_cl (show i < 2 ^ 31 by omega), hh j hj2, hh i hi]
      have bj := hb j hj2
      have bi := hb i hi
      by_cases c2 : aHD a j = aHD a i
      · rw [if_pos (beq_iff_eq.mpr c2)] at ih2
        rw [if_pos (show nI (aHD a j) = nI (aHD a i) by rw [c2]), zl_let, nI_1]
        dsimp only
        rw [zl_let, nI_1]
        exact ih2
      · rw [if_neg (fun q => c2 (beq_iff_eq.mp q))] at ih2
        rw [if_neg (show ¬ nI (aHD a j) = nI (aHD a i) from fun q => c2 ((nI_eq (by omega) (by omega)).mp q))]
        dsimp only
        rw [zl_let, nI_1]
        exact ih2
theorem cw7 (N : Nat) {a : AW} {row : Nat → Int32} {w : Nat → Int64} (hok : zOK a) (hra : zRA a row w 0) (v : Int32) {i : Nat} (hi : i < aHC a) (K : Int32 → Option Int32) : ∀ (d j f : Nat), j + d = aHC a → d < f → f_X7_allNamed_L21 N K row v (nI i) f (nI (cmW a v i j)) (nI j) = K (nI (cmW a v i (aHC a))) := by
  have hhc : aHC a ≤ 6 := hok.2.2.2.2.2.2.1
  have hb := hok.2.2.2.2.2.2.2.1
  have h87 : row (87 : Int32).toNatClampNeg = nI (aHC a) := hra.2.2.2.2.2.2.1
  intro d
  induction d with
  | zero =>
    intro j f hj hf
    obtain ⟨f', rfl⟩ : ∃ f', f = f' + 1 := ⟨f - 1, by omega⟩
    rw [f_X7_allNamed_L21_s, h87, if_pos (nI_le (by omega) (by omega)), show j = aHC a by omega]
  | succ d ih =>
    intro j f hj hf
    obtain ⟨f', rfl⟩ : ∃ f', f = f' + 1 := ⟨f - 1, by omega⟩
    have hj2 : j < aHC a := by omega
    have ih2 := ih (j + 1) f' (by omega) (by omega)
    have es : cmW a v i (j + 1) = cmW a v i j + (if (bt v j && (aHD a j == aHD a i)) = true then 1 else 0) := fb_ct_succ _ _
    rw [es] at ih2
    have bj := hb j hj2
    have bi := hb i hi
    rw [f_X7_allNamed_L21_s, h87, if_neg (nI_ge (by omega) (by omega)), zl_b1 (has_eq (show j < 32 by omega)), zl_let]
    have yes : ∀ x : Nat, zz_let (nI (cmW a v i j) + nI x) (fun v4_16 => zz_let (nI j + (1 : Int32)) (fun v5_17 => (f_X7_allNamed_L21 N K row v (nI i) f' v4_16 v5_17))) = f_X7_allNamed_L21 N K row v (nI i) f' (nI (cmW a v i j + x)) (nI (j + 1)) := fun x => by
      rw [zl_let, zl_let, nI_1, nI_add]
    cases c : bt v j with
    | false =>
      rw [c, Bool.false_and] at ih2
      rw [if_pos (show (if false = true then (1 : Int32) else 0) = 0 from rfl)]
      exact (yes 0).trans ih2
    | true =>
      rw [c, Bool.true_and] at ih2
      rw [if_neg (show ¬ (if true = true then (1 : Int32) else 0) = 0 by decide), show (88 : Int32) = nI 88 from rfl, nI_add, nI_add, zl_gd (zl_inN (show 88 + j < 300 by omega) (by decide)), zl_gd (zl_inN (show 88 + i < 300 by omega) (by decide)), zl_cl (show 88 + j < 2 ^ 31 by omega), zl_cl (show 88 + i < 2 ^ 31 by omega), (zl_row88 hra hj2).1, (zl_row88 hra hi).1]
      by_cases c2 : aHD a j = aHD a i
      · rw [if_pos (beq_iff_eq.mpr c2)] at ih2
        rw [if_pos (show nI (aHD a j) = nI (aHD a i) by rw [c2])]
        exact (yes 1).trans ih2
      · rw [if_neg (fun q => c2 (beq_iff_eq.mp q))] at ih2
        rw [if_neg (show ¬ nI (aHD a j) = nI (aHD a i) from fun q => c2 ((nI_eq (by omega) (by omega)).mp q))]
        exact (yes 0).trans ih2
theorem an6 (N : Nat) (hN : 100000 ≤ N) {a : AW} {hd rooms : Nat → Int32} {R : Nat → Nat} (hok : zOK a) (hh : ∀ i, i < aHC a → hd i = nI (aHD a i)) (hR : ∀ i, i < aHC a → rooms i = nI (R i) ∧ R i ≤ 1110) (v : Int32) : ∀ (d i f : Nat), i + d = aHC a → d < f → ∃ z : Bool, f_X6_allHaveNames_L2 N (some 1) rooms hd (nI (aHC a)) v f (nI i) = some (zBo z) ∧ (z = true ↔ ∀ j, i ≤ j → j < aHC a → bt v j = true → cmW a v j (aHC a) ≤ R j) := by
  have hhc : aHC a ≤ 6 := hok.2.2.2.2.2.2.1
  intro d
  induction d with
  | zero =>
    intro i f hi hf
    obtain ⟨f', rfl⟩ : ∃ f', f = f' + 1 := ⟨f - 1, by omega⟩
    rw [f_X6_allHaveNames_L2_s, if_pos (nI_le (by omega) (by omega))]
    exact ⟨true, rfl, fun _ j h1 h2 => by omega, fun _ => rfl⟩
  | succ d ih =>
    intro i f hi hf
    obtain ⟨f', rfl⟩ : ∃ f', f = f' + 1 := ⟨f - 1, by omega⟩
    have hi2 : i < aHC a := by omega
    obtain ⟨z, z1, z2⟩ := ih (i + 1) f' (by omega) (by omega)
    have hcm : cmW a v i (aHC a) ≤ aHC a := fb_ct_le _ _
    obtain ⟨r1, r2⟩ := hR i hi2
    have rest : (bt v i = true → cmW a v i (aHC a) ≤ R i) → ∃ z : Bool, f_X6_allHaveNames_L2 N (some 1) rooms hd (nI (aHC a)) v f' (nI (i + 1)) = some (zBo z) ∧ (z = true ↔ ∀ j, i ≤ j → j < aHC a → bt v j = true → cmW a v j (aHC a) ≤ R j) := fun h => by
      refine ⟨z, z1, z2.trans ⟨fun q j h1 h2 => ?_, fun q j h1 h2 => q j (by omega) h2⟩⟩
      by_cases e : j = i
      · rw [e]
        exact h
      · exact q j (by omega) h2
    rw [f_X6_allHaveNames_L2_s, if_neg (nI_ge (by omega) (by omega)), zl_let, zl_let, nI_1, b_bitv (show i < 32 by omega)]
    cases c : bt v i with
    | false =>
      rw [if_pos (show (if false = true then (1 : Int32) else 0) = 0 from rfl)]
      exact rest (fun q => by rw [c] at q; cases q)
    | true =>
      have e6 : f_X6_comingWith N hd (nI (aHC a)) v (nI i) = some (nI (cmW a v i (aHC a))) := by
        unfold f_X6_comingWith
        rw [zl_let]
        exact cw6 N hok hh v hi2 (fun v => some v) (aHC a) 0 N (by omega) (by omega)
      rw [if_neg (show ¬ (if true = true then (1 : Int32) else 0) = 0 by decide), zl_b1 e6, zl_gd (zl_inN (show i < 6 by omega) (by decide)), zl_cl (show i < 2 ^ 31 by omega), r1]
      by_cases c2 : cmW a v i (aHC a) ≤ R i
      · rw [if_pos (nI_le c2 (by omega))]
        exact rest (fun _ => c2)
      · rw [if_neg (nI_ge (by omega) (by omega))]
        exact ⟨false, rfl, fun q => by (cases q), fun q => absurd (q i (Nat.le_refl _) hi2 c) c2⟩
theorem an7 (N : Nat) (hN : 100000 ≤ N) {a : AW} {row room : Nat → Int32} {w : Nat → Int64} {R : Nat → Nat} (hok : zOK a) (hra : zRA a row w 0) (hR : ∀ i, i < aHC a → room i = nI (R i) ∧ R i ≤ 1110) (v : Int32) (K : Int32 → Option Int32) : ∀ (d i f : Nat) (z : Bool), i + d = aHC a → d < f → ∃ z' : Bool, f_X7_allNamed_L4 N K row room v f (zBo z) (nI i) = K (zBo z') ∧ (z' = true ↔ (z = true ∧ ∀ j, i ≤ j → j < aHC a → cmW a v j (aHC a) ≤ R j)) := by
  have hhc : aHC a ≤ 6 := hok.2.2.2.2.2.2.1
  have h87 : row (87 : Int32).toNatClampNeg = nI (aHC a) := hra.2.2.2.2.2.2.1
  intro d
  induction d with
  | zero =>
    intro i f z hi hf
    obtain ⟨f', rfl⟩ : ∃ f', f = f' + 1 := ⟨f - 1, by omega⟩
    rw [f_X7_allNamed_L4_s, h87, if_pos (nI_le (by omega) (by omega))]
    exact ⟨z, rfl, fun h => ⟨h, fun j h1 h2 => by omega⟩, fun h => h.1⟩
  | succ d ih =>
    intro i f z hi hf
    obtain ⟨f', rfl⟩ : ∃ f', f = f' + 1 := ⟨f - 1, by omega⟩
    have hi2 : i < aHC a := by omega
    have hcm : cmW a v i (aHC a) ≤ aHC a := fb_ct_le _ _
    obtain ⟨r1, r2⟩ := hR i hi2
    have step : ∀ z1 : Bool, (z1 = true ↔ (z = true ∧ cmW a v i (aHC a) ≤ R i)) → ∃ z' : Bool, f_X7_allNamed_L4 N K row room v f' (zBo z1) (nI (i + 1)) = K (zBo z') ∧ (z' = true ↔ (z = true ∧ ∀ j, i ≤ j → j < aHC a → cmW a v j (aHC a) ≤ R j)) := fun z1 h1 => by
      obtain ⟨z', q1, q2⟩ := ih (i + 1) f' z1 (by omega) (by omega)
      refine ⟨z', q1, q2.trans ?_⟩
      rw [h1]
      constructor
      · rintro ⟨⟨w1, w2⟩, w3⟩
        refine ⟨w1, fun j j1 j2 => ?_⟩
        by_cases e : j = i
        · rw [e]
          exact w2
        · exact w3 j (by omega) j2
      · rintro ⟨w1, w2⟩
        exact ⟨⟨w1, w2 i (Nat.le_refl _) hi2⟩, fun j j1 j2 => w2 j (by omega) j2⟩
    rw [f_X7_allNamed_L4_s, h87, if_neg (nI_ge (by omega) (by omega)), zl_let]
    have e7 := cw7 N hok hra v hi2 (fun (v4_18 : Int32) => zz_let (fun (q_23 : Int32) => zz_let (nI i + (1 : Int32)) (fun v3_24 => (f_X7_allNamed_L4 N K row room v f' q_23 v3_24))) (fun k_22 => (if zBo z = 0 then (k_22 (0 : Int32)) else zz_gd (zz_in (nI i) 6) ((if (room (nI i).toNatClampNeg) < v4_18 then (k_22 (0 : Int32)) else (k_22 (1 : Int32))))))) (aHC a) 0 N (by omega) (by omega)
    rw [show f_X7_allNamed_L21 N _ row v (nI i) N 0 0 = _ from e7, zl_let, zl_cl (show i < 2 ^ 31 by omega), zl_gd (zl_inN (show i < 6 by omega) (by decide)), r1]
    cases z with
    | false =>
      rw [if_pos (show zBo false = 0 from rfl)]
      dsimp only
      rw [zl_let, nI_1]
      exact step false ⟨fun q => by (cases q), fun q => q.1⟩
    | true =>
      rw [if_neg (show ¬ zBo true = 0 by decide)]
      by_cases c : R i < cmW a v i (aHC a)
      · rw [if_pos (nI_lt c (by omega))]
        dsimp only
        rw [zl_let, nI_1]
        exact step false ⟨fun q => by (cases q), fun q => by omega⟩
      · rw [if_neg (nI_nlt (by omega) (by omega))]
        dsimp only
        rw [zl_let, nI_1]
        exact step true ⟨fun _ => ⟨rfl, by omega⟩, fun _ => rfl⟩
theorem an_both (N : Nat) (hN : 100000 ≤ N) {a : AW} {row room rooms hd : Nat → Int32} {w : Nat → Int64} {R : Nat → Nat} (hok : zOK a) (hra : zRA a row w 0) (hh : ∀ i, i < aHC a → hd i = nI (aHD a i)) (hR : ∀ i, i < aHC a → room i = nI (R i) ∧ R i ≤ 1110) (hR' : ∀ i, i < aHC a → rooms i = nI (R i) ∧ R i ≤ 1110) (hRd : ∀ i j, i < aHC a → j < aHC a → aHD a i = aHD a j → R i = R j) (v : Int32) : ∃ z : Bool, f_X6_allHaveNames N rooms hd (nI (aHC a)) v = some (zBo z) ∧ f_X7_allNamed N row room v = some (zBo z) := by
  have hhc : aHC a ≤ 6 := hok.2.2.2.2.2.2.1
  obtain ⟨z, z1, z2⟩ := an6 N hN hok hh hR' v (aHC a) 0 N (by omega) (by omega)
  obtain ⟨z', y1, y2⟩ := an7 N hN hok hra hR v (fun (v2_25 : Int32) => zz_gd (zz_isB v2_25) ((some v2_25))) (aHC a) 0 N true (by omega) (by omega)
  have e : z = true ↔ z' = true := by
    rw [z2, y2]
    constructor
    · intro h
      refine ⟨rfl, fun j _ hj => ?_⟩
      by_cases c : ∃ k, k < aHC a ∧ bt v k = true ∧ aHD a k = aHD a j
      · obtain ⟨k, k1, k2, k3⟩ := c
        have h1 := h k (by omega) k1 k2
        have e1 : cmW a v k (aHC a) = cmW a v j (aHC a) := fb_ct_cong (fun t _ => by rw [k3])
        rw [← e1, ← hRd k j k1 hj k3]
        exact h1
      · have e0 : cmW a v j (aHC a) = 0 := fb_ct_zero.mpr (fun t ht => by
          cases e : (bt v t && (aHD a t == aHD a j)) with
          | false => rfl
          | true =>
            rw [Bool.and_eq_true, beq_iff_eq] at e
            exact absurd ⟨t, ht, e.1, e.2⟩ c)
        rw [e0]
        exact Nat.zero_le _
    · intro h j h1 h2 _
      exact h.2 j h1 h2
  have e2 : z = z' := by
    cases z <;> cases z'
    · rfl
    · exact absurd (e.mpr rfl) (by decide)
    · exact absurd (e.mp rfl) (by decide)
    · rfl
  refine ⟨z, ?_, ?_⟩
  · unfold f_X6_allHaveNames
    rw [zl_let]
    exact z1
  · unfold f_X7_allNamed
    rw [zl_let, show f_X7_allNamed_L4 N _ row room v N 1 0 = _ from y1, e2]
    cases z' <;> rfl
theorem wc_both (N : Nat) {a : AW} {row ht : Nat → Int32} {w : Nat → Int64} (hok : zOK a) (hra : zRA a row w 0) (hh : ∀ i, i < aHC a → ht i = nI (aHT a i)) (v : Int32) (K6 : Int64 → Option Int64) (K7) : ∀ (d i f f' acc : Nat), i + d = aHC a → d < f → d < f' → ∃ P, P ≤ acc * 10 ^ d ∧ f_X6_waysOfComing_L5 N K6 ht (nI (aHC a)) v f (lN acc) (nI i) = K6 (lN P) ∧ f_X7_hopes_L238 N K7 row v f' (lN acc) (nI i) = K7 (lN P) := by
  have hhc : aHC a ≤ 6 := hok.2.2.2.2.2.2.1
  have hb := hok.2.2.2.2.2.2.2.1
  have h87 : row (87 : Int32).toNatClampNeg = nI (aHC a) := hra.2.2.2.2.2.2.1
  intro d
  induction d with
  | zero =>
    intro i f f' acc hi hf hf'
    obtain ⟨f, rfl⟩ : ∃ g, f = g + 1 := ⟨f - 1, by omega⟩
    obtain ⟨f', rfl⟩ : ∃ g, f' = g + 1 := ⟨f' - 1, by omega⟩
    refine ⟨acc, by rw [Nat.pow_zero]; omega, ?_, ?_⟩
    · rw [f_X6_waysOfComing_L5_s, if_pos (nI_le (by omega) (by omega))]
    · rw [f_X7_hopes_L238_s, h87, if_pos (nI_le (by omega) (by omega))]
  | succ d ih =>
    intro i f f' acc hi hf hf'
    obtain ⟨f, rfl⟩ : ∃ g, f = g + 1 := ⟨f - 1, by omega⟩
    obtain ⟨f', rfl⟩ : ∃ g, f' = g + 1 := ⟨f' - 1, by omega⟩
    have hi2 : i < aHC a := by omega
    have bi := hb i hi2
    have step : ∀ x, x ≤ 10 → ∃ P, P ≤ acc * 10 ^ (d + 1) ∧ f_X6_waysOfComing_L5 N K6 ht (nI (aHC a)) v f (lN (acc * x)) (nI (i + 1)) = K6 (lN P) ∧ f_X7_hopes_L238 N K7 row v f' (lN (acc * x)) (nI (i + 1)) = K7 (lN P) := fun x hx => by
      obtain ⟨P, p1, p2, p3⟩ := ih (i + 1) f f' (acc * x) (by omega) (by omega) (by omega)
      refine ⟨P, ?_, p2, p3⟩
      have h1 : acc * x * 10 ^ d ≤ acc * 10 * 10 ^ d := Nat.mul_le_mul_right _ (Nat.mul_le_mul_left _ hx)
      rw [Nat.pow_succ, Nat.mul_comm (10 ^ d), ← Nat.mul_assoc]
      omega
    rw [f_X6_waysOfComing_L5_s, f_X7_hopes_L238_s, h87, if_neg (nI_ge (by omega) (by omega)), if_neg (nI_ge (by omega) (by omega)), zl_gd (zl_inN (show i < 6 by omega) (by decide)), zl_let, zl_let, zl_cl (show i < 2 ^ 31 by omega), hh i hi2, zl_b1 (has_eq (show i < 32 by omega)), zl_let, b_bitv (show i < 32 by omega), show (94 : Int32) = nI 94 from rfl, nI_add, zl_gd (zl_inN (show 94 + i < 300 by omega) (by decide)), zl_gd (zl_inN (show 94 + i < 300 by omega) (by decide)), zl_cl (show 94 + i < 2 ^ 31 by omega), (zl_row88 hra hi2).2, show (10 : Int32) = nI 10 from rfl, pk_sub bi.2.2, nI_l (by omega), nI_l (by omega)]
    cases c : bt v i with
    | false =>
      rw [if_pos (show (if false = true then (1 : Int32) else 0) = 0 from rfl), if_pos (show (if false = true then (1 : Int32) else 0) = 0 from rfl)]
      dsimp only
      rw [zl_let, zl_let, zl_let, zl_let, nI_1, lN_mul]
      exact step _ (by omega)
    | true =>
      rw [if_neg (show ¬ (if true = true then (1 : Int32) else 0) = 0 by decide), if_neg (show ¬ (if true = true then (1 : Int32) else 0) = 0 by decide)]
      dsimp only
      rw [zl_let, zl_let, zl_let, zl_let, nI_1, lN_mul]
      exact step _ (by omega)
