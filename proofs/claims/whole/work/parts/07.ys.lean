/-! ===== tokens ===== -/
def kdB (b : Nat) : Nat := if 97 ≤ b ∧ b ≤ 122 then 1 else if 48 ≤ b ∧ b ≤ 57 then 2 else 3
theorem kdB_rng (b : Nat) : 1 ≤ kdB b ∧ kdB b ≤ 3 := by
  unfold kdB
  split
  · omega
  · split
    · omega
    · omega
theorem kdB_1 {b : Nat} : kdB b = 1 ↔ 97 ≤ b ∧ b ≤ 122 := by
  unfold kdB
  constructor
  · intro h
    split at h
    · assumption
    · split at h
      · omega
      · omega
  · intro h
    rw [if_pos h]
theorem kdB_2 {b : Nat} : kdB b = 2 ↔ 48 ≤ b ∧ b ≤ 57 := by
  unfold kdB
  constructor
  · intro h
    split at h
    · omega
    · split at h
      · assumption
      · omega
  · intro h
    rw [if_neg (by omega), if_pos h]
def txB (text : Nat → Int32) (B : Nat → Nat) (n : Nat) : Prop := n ≤ 200 ∧ ∀ i, i < n → text i = nI (B i) ∧ B i < 256
def Tok (B : Nat → Nat) (n p b e k : Nat) : Prop := p ≤ b ∧ b ≤ n ∧ (∀ i, p ≤ i → i < b → B i = 32) ∧ ((b = n ∧ e = n ∧ k = 0) ∨ (b < n ∧ B b ≠ 32 ∧ k = kdB (B b) ∧ b < e ∧ e ≤ n ∧ (∀ i, b ≤ i → i < e → kdB (B i) = k) ∧ (k = 3 → e = b + 1) ∧ (k ≠ 3 → e < n → kdB (B e) ≠ k)))
theorem Tok_uniq {B : Nat → Nat} {n p b e k b' e' k' : Nat} (h : Tok B n p b e k) (h' : Tok B n p b' e' k') : b = b' ∧ e = e' ∧ k = k' := by
  obtain ⟨h1, h2, h3, h4⟩ := h
  obtain ⟨g1, g2, g3, g4⟩ := h'
  have eb : b = b' := by
    rcases Nat.lt_trichotomy b b' with q | q | q
    · rcases h4 with h4 | h4
      · omega
      · exact absurd (g3 b h1 q) h4.2.1
    · exact q
    · rcases g4 with g4 | g4
      · omega
      · exact absurd (h3 b' g1 q) g4.2.1
  subst eb
  rcases h4 with h4 | ⟨a1, a2, a3, a4, a5, a6, a7, a8⟩
  · rcases g4 with g4 | g4
    · omega
    · omega
  · rcases g4 with g4 | ⟨c1, c2, c3, c4, c5, c6, c7, c8⟩
    · omega
    · have ek : k = k' := by omega
      subst ek
      refine ⟨rfl, ?_, rfl⟩
      by_cases c : k = 3
      · rw [a7 c, c7 c]
      · rcases Nat.lt_trichotomy e e' with q | q | q
        · exact absurd (c6 e (by omega) q) (a8 c (by omega))
        · exact q
        · exact absurd (a6 e' (by omega) q) (c8 c (by omega))
theorem Tok_le {B : Nat → Nat} {n p b e k : Nat} (h : Tok B n p b e k) : p ≤ b ∧ b ≤ e ∧ e ≤ n ∧ k ≤ 3 := by
  obtain ⟨h1, h2, _, h4⟩ := h
  rcases h4 with h4 | h4
  · omega
  · have := kdB_rng (B b)
    omega
theorem sk6 (N : Nat) {text : Nat → Int32} {B : Nat → Nat} {n : Nat} (ht : txB text B n) (K) : ∀ (d p f : Nat), p + d = n → d < f → ∃ b, f_X3_readToken_L0 N K text (nI n) f (nI p) = K (nI b) ∧ p ≤ b ∧ b ≤ n ∧ (∀ i, p ≤ i → i < b → B i = 32) ∧ (b < n → B b ≠ 32) := by
  obtain ⟨hn, ht⟩ := ht
  intro d
  induction d with
  | zero =>
    intro p f hp hf
    obtain ⟨f, rfl⟩ : ∃ g, f = g + 1 := ⟨f - 1, by omega⟩
    rw [f_X3_readToken_L0_s, if_pos (nI_le (by omega) (by omega))]
    exact ⟨p, rfl, Nat.le_refl _, by omega, fun i h1 h2 => by omega, fun h => by omega⟩
  | succ d ih =>
    intro p f hp hf
    obtain ⟨f, rfl⟩ : ∃ g, f = g + 1 := ⟨f - 1, by omega⟩
    obtain ⟨t1, t2⟩ := ht p (by omega)
    rw [f_X3_readToken_L0_s, if_neg (nI_ge (by omega) (by omega)), zl_gd (zl_inN (show p < 200 by omega) (by decide)), zl_cl (show p < 2 ^ 31 by omega), t1]
    by_cases c : B p = 32
    · rw [if_pos (show nI (B p) = (32 : Int32) by rw [c]; rfl), zl_let, nI_1]
      obtain ⟨b, b1, b2, b3, b4, b5⟩ := ih (p + 1) f (by omega) (by omega)
      refine ⟨b, b1, by omega, b3, fun i h1 h2 => ?_, b5⟩
      by_cases e : i = p
      · rw [e, c]
      · exact b4 i (by omega) h2
    · rw [if_neg (show ¬ nI (B p) = (32 : Int32) from fun q => c ((nI_eq (b := 32) (by omega) (by decide)).mp q))]
      exact ⟨p, rfl, Nat.le_refl _, by omega, fun i h1 h2 => by omega, fun _ => c⟩
theorem sk7 (N : Nat) {text : Nat → Int32} {B : Nat → Nat} {n : Nat} (ht : txB text B n) (K) : ∀ (d p f : Nat), p + d = n → d < f → ∃ b, f_X7_token_L0 N K text (nI n) f (nI p) = K (nI b) ∧ p ≤ b ∧ b ≤ n ∧ (∀ i, p ≤ i → i < b → B i = 32) ∧ (b < n → B b ≠ 32) := by
  obtain ⟨hn, ht⟩ := ht
  intro d
  induction d with
  | zero =>
    intro p f hp hf
    obtain ⟨f, rfl⟩ : ∃ g, f = g + 1 := ⟨f - 1, by omega⟩
    rw [f_X7_token_L0_s, if_pos (nI_le (by omega) (by omega))]
    exact ⟨p, rfl, Nat.le_refl _, by omega, fun i h1 h2 => by omega, fun h => by omega⟩
  | succ d ih =>
    intro p f hp hf
    obtain ⟨f, rfl⟩ : ∃ g, f = g + 1 := ⟨f - 1, by omega⟩
    obtain ⟨t1, t2⟩ := ht p (by omega)
    rw [f_X7_token_L0_s, if_neg (nI_ge (by omega) (by omega)), zl_gd (zl_inN (show p < 200 by omega) (by decide)), zl_cl (show p < 2 ^ 31 by omega), t1]
    by_cases c : B p = 32
    · rw [if_pos (show nI (B p) = (32 : Int32) by rw [c]; rfl), zl_let, nI_1]
      obtain ⟨b, b1, b2, b3, b4, b5⟩ := ih (p + 1) f (by omega) (by omega)
      refine ⟨b, b1, by omega, b3, fun i h1 h2 => ?_, b5⟩
      by_cases e : i = p
      · rw [e, c]
      · exact b4 i (by omega) h2
    · rw [if_neg (show ¬ nI (B p) = (32 : Int32) from fun q => c ((nI_eq (b := 32) (by omega) (by decide)).mp q))]
      exact ⟨p, rfl, Nat.le_refl _, by omega, fun i h1 h2 => by omega, fun _ => c⟩
theorem kind6 (N : Nat) {text : Nat → Int32} {B : Nat → Nat} {n : Nat} (ht : txB text B n) {p : Nat} (hp : p ≤ n) : f_X3_kindAt N text (nI n) (nI p) = some (nI (if p < n then kdB (B p) else 0)) := by
  obtain ⟨hn, ht⟩ := ht
  unfold f_X3_kindAt
  by_cases c : p < n
  · obtain ⟨t1, t2⟩ := ht p c
    rw [if_pos (nI_lt c (by omega)), zl_gd (zl_inN (show p < 200 by omega) (by decide)), zl_let, zl_cl (show p < 2 ^ 31 by omega), t1, if_pos c]
    unfold kdB
    by_cases c1 : 97 ≤ B p ∧ B p ≤ 122
    · rw [if_neg (show ¬ nI (B p) < (97 : Int32) from nI_nlt (b := 97) c1.1 (by omega)), if_neg (show ¬ (122 : Int32) < nI (B p) from nI_nlt (a := 122) c1.2 (by decide)), if_pos c1]
      rfl
    · have rest : (if nI (B p) < (48 : Int32) then (some (3 : Int32)) else (if (57 : Int32) < nI (B p) then (some (3 : Int32)) else (some (2 : Int32)))) = some (nI (if 48 ≤ B p ∧ B p ≤ 57 then 2 else 3)) := by
        by_cases c2 : B p < 48
        · rw [if_pos (show nI (B p) < (48 : Int32) from nI_lt (b := 48) c2 (by decide)), if_neg (by omega)]
          rfl
        · rw [if_neg (show ¬ nI (B p) < (48 : Int32) from nI_nlt (b := 48) (by omega) (by omega))]
          by_cases c3 : 57 < B p
          · rw [if_pos (show (57 : Int32) < nI (B p) from nI_lt (a := 57) c3 (by omega)), if_neg (by omega)]
            rfl
          · rw [if_neg (show ¬ (57 : Int32) < nI (B p) from nI_nlt (a := 57) (by omega) (by decide)), if_pos (by omega)]
            rfl
      rw [if_neg c1, rest]
      by_cases c2 : B p < 97
      · rw [if_pos (show nI (B p) < (97 : Int32) from nI_lt (b := 97) c2 (by decide))]
      · rw [if_neg (show ¬ nI (B p) < (97 : Int32) from nI_nlt (b := 97) (by omega) (by omega)), if_pos (show (122 : Int32) < nI (B p) from nI_lt (a := 122) (by omega) (by omega))]
  · rw [if_neg (nI_nlt (by omega) (by omega)), if_neg c]
    rfl
theorem sort7 (N : Nat) {b : Nat} (hb : b < 256) : f_X7_sort N (nI b) = some (nI (if kdB b = 3 then 0 else kdB b)) := by
  have : ∀ b, b < 256 → f_X7_sort 0 (nI b) = some (nI (if kdB b = 3 then 0 else kdB b)) := by decide +kernel
  exact this b hb
def cvB (B : Nat → Nat) (base off : Nat) : Nat → Nat → Nat → Nat
  | c, _, 0 => c
  | c, j, d + 1 => cvB B base off (c * base + B j - off) (j + 1) d
theorem run6 (N : Nat) {text : Nat → Int32} {B : Nat → Nat} {n : Nat} (ht : txB text B n) {k : Nat} (hk1 : 1 ≤ k) (hk3 : k ≤ 3) (K) : ∀ (d j f c : Nat), j + d = n → 1 ≤ d → d < f → kdB (B j) = k → ∃ e V, f_X3_readToken_L80 N K text (nI n) (nI k) f 1 (nI j) (lN c) = K (nI e) V ∧ j < e ∧ e ≤ n ∧ (∀ i, j ≤ i → i < e → kdB (B i) = k) ∧ (k = 3 → e = j + 1) ∧ (k ≠ 3 → e < n → kdB (B e) ≠ k) ∧ (k = 1 → V = lN (cvB B 27 96 c j (e - j))) ∧ (k = 2 → V = lN (cvB B 10 48 c j (e - j))) ∧ (k = 3 → V = lN (B j)) := by
  have htx := ht
  obtain ⟨hn, ht⟩ := ht
  intro d
  induction d with
  | zero =>
    intro j f c hj hd
    omega
  | succ d ih =>
    intro j f c hj _ hf hkj
    obtain ⟨f, rfl⟩ : ∃ g, f = g + 1 := ⟨f - 1, by omega⟩
    obtain ⟨t1, t2⟩ := ht j (by omega)
    have stop : ∀ f V, ∃ (u : Unit), f_X3_readToken_L80 N K text (nI n) (nI k) (f + 1) 0 (nI (j + 1)) V = K (nI (j + 1)) V := fun f V => ⟨(), by rw [f_X3_readToken_L80_s, if_pos rfl]⟩
    obtain ⟨f, rfl⟩ : ∃ g, f = g + 1 := ⟨f - 1, by omega⟩
    have hval : ∃ c', f_X3_valueWith N (nI k) (lN c) (nI (B j)) = some (lN c') ∧ (k = 1 → c' = c * 27 + B j - 96) ∧ (k = 2 → c' = c * 10 + B j - 48) ∧ (k = 3 → c' = B j) := by
      unfold f_X3_valueWith
      by_cases k1 : k = 1
      · have hb := kdB_1.mp (hkj.trans k1)
        rw [if_pos (show nI k = (1 : Int32) by rw [k1]; rfl), nI_l (by omega), show (27 : Int64) = lN 27 from rfl, lN_mul, lN_add, show (97 : Int64) = lN 97 from rfl, lN_sub (by omega), lN_1]
        exact ⟨_, rfl, fun _ => by omega, fun q => by omega, fun q => by omega⟩
      · rw [if_neg (show ¬ nI k = (1 : Int32) from fun q => k1 ((nI_eq (b := 1) (by omega) (by decide)).mp q))]
        by_cases k2 : k = 2
        · have hb := kdB_2.mp (hkj.trans k2)
          rw [if_pos (show nI k = (2 : Int32) by rw [k2]; rfl), nI_l (by omega), show (10 : Int64) = lN 10 from rfl, lN_mul, lN_add, show (48 : Int64) = lN 48 from rfl, lN_sub (by omega)]
          exact ⟨_, rfl, fun q => by omega, fun _ => rfl, fun q => by omega⟩
        · rw [if_neg (show ¬ nI k = (2 : Int32) from fun q => k2 ((nI_eq (b := 2) (by omega) (by decide)).mp q)), nI_l (by omega)]
          exact ⟨_, rfl, fun q => by omega, fun q => by omega, fun _ => rfl⟩
    obtain ⟨c', v1, v2, v3, v4⟩ := hval
    rw [f_X3_readToken_L80_s, if_neg (show ¬ (1 : Int32) = 0 by decide), if_neg (nI_ge (by omega) (by omega)), zl_gd (zl_inN (show j < 200 by omega) (by decide)), zl_cl (show j < 2 ^ 31 by omega), t1, zl_b1 v1, zl_let, zl_let, nI_1]
    by_cases k3 : k = 3
    · rw [if_pos (show nI k = (3 : Int32) by rw [k3]; rfl)]
      dsimp only
      obtain ⟨_, hs⟩ := stop f (lN c')
      rw [hs]
      exact ⟨j + 1, lN c', rfl, by omega, by omega, fun i h1 h2 => by rw [show i = j by omega]; exact hkj, fun _ => rfl, fun q => absurd k3 q, fun q => by omega, fun q => by omega, fun q => by rw [v4 q]⟩
    · rw [if_neg (show ¬ nI k = (3 : Int32) from fun q => k3 ((nI_eq (b := 3) (by omega) (by decide)).mp q)), zl_b1 (kind6 N htx (show j + 1 ≤ n by omega))]
      by_cases c1 : j + 1 < n ∧ kdB (B (j + 1)) = k
      · rw [if_pos c1.1, if_pos (show nI (kdB (B (j + 1))) = nI k by rw [c1.2])]
        dsimp only
        obtain ⟨e, V, q1, q2, q3, q4, q5, q6, q7, q8, q9⟩ := ih (j + 1) (f + 1) c' (by omega) (by omega) (by omega) c1.2
        refine ⟨e, V, q1, by omega, q3, fun i h1 h2 => ?_, fun q => absurd q k3, q6, fun q => ?_, fun q => ?_, fun q => absurd q k3⟩
        · by_cases ei : i = j
          · rw [ei]
            exact hkj
          · exact q4 i (by omega) h2
        · rw [q7 q, v2 q, show e - j = (e - (j + 1)) + 1 by omega]
          rfl
        · rw [q8 q, v3 q, show e - j = (e - (j + 1)) + 1 by omega]
          rfl
      · have hne : ¬ nI (if j + 1 < n then kdB (B (j + 1)) else 0) = nI k := fun q => by
          by_cases c2 : j + 1 < n
          · rw [if_pos c2] at q
            have := kdB_rng (B (j + 1))
            exact c1 ⟨c2, (nI_eq (by omega) (by omega)).mp q⟩
          · rw [if_neg c2] at q
            have := (nI_eq (a := 0) (by omega) (by omega)).mp q
            omega
        rw [if_neg hne]
        dsimp only
        obtain ⟨_, hs⟩ := stop f (lN c')
        rw [hs]
        refine ⟨j + 1, lN c', rfl, by omega, by omega, fun i h1 h2 => by rw [show i = j by omega]; exact hkj, fun q => absurd q k3, fun _ h q => c1 ⟨h, q⟩, fun q => ?_, fun q => ?_, fun q => absurd q k3⟩
        · rw [v2 q, show j + 1 - j = 1 by omega]
          rfl
        · rw [v3 q, show j + 1 - j = 1 by omega]
          rfl
theorem tok6 (N : Nat) (hN : 100000 ≤ N) {text : Nat → Int32} {B : Nat → Nat} {n : Nat} (ht : txB text B n) {p : Nat} (hp : p ≤ n) : ∃ b e k V, Tok B n p b e k ∧ f_X3_readToken N text (nI n) (nI p) = some (nI e, nI k, nI b, nI (e - b), V) ∧ (k = 1 → V = lN (cvB B 27 96 0 b (e - b))) ∧ (k = 2 → V = lN (cvB B 10 48 0 b (e - b))) ∧ (k = 3 → V = lN (B b)) := by
  have htx := ht
  obtain ⟨hn, ht⟩ := ht
  unfold f_X3_readToken
  rw [zl_let]
  obtain ⟨b, b1, b2, b3, b4, b5⟩ := sk6 N htx (fun (t_place_7 : Int32) => zz_b1 (f_X3_kindAt N text (nI n) t_place_7) (fun r_8 => zz_let (fun (q_11 : Int32) => zz_let (fun (t_place_26 : Int32) (t_value_27 : Int64) => zz_let (t_place_26 - t_place_7) (fun t_bytes_28 => (some (t_place_26, r_8, t_place_7, t_bytes_28, t_value_27)))) (fun k_12 => f_X3_readToken_L80 N k_12 text (nI n) r_8 N q_11 t_place_7 (0 : Int64))) (fun k_10 => (if nI n ≤ t_place_7 then (k_10 (0 : Int32)) else (k_10 (1 : Int32)))))) (n - p) p N (by omega) (by omega)
  rw [b1, zl_b1 (kind6 N htx b3), zl_let]
  by_cases c : b < n
  · have hk := kdB_rng (B b)
    rw [if_pos c, if_neg (nI_ge c (by omega))]
    dsimp only
    rw [zl_let]
    obtain ⟨e, V, q1, q2, q3, q4, q5, q6, q7, q8, q9⟩ := run6 N htx hk.1 hk.2 (fun (t_place_26 : Int32) (t_value_27 : Int64) => zz_let (t_place_26 - nI b) (fun t_bytes_28 => (some (t_place_26, nI (kdB (B b)), nI b, t_bytes_28, t_value_27)))) (n - b) b N 0 (by omega) (by omega) (by omega) rfl
    rw [show f_X3_readToken_L80 N _ text (nI n) (nI (kdB (B b))) N 1 (nI b) 0 = _ from q1, zl_let, pk_sub (by omega)]
    exact ⟨b, e, kdB (B b), V, ⟨b2, b3, b4, Or.inr ⟨c, b5 c, rfl, q2, q3, q4, q5, q6⟩⟩, rfl, q7, q8, q9⟩
  · obtain ⟨g, hg⟩ : ∃ g, N = g + 1 := ⟨N - 1, by omega⟩
    have hz : ∀ K r, f_X3_readToken_L80 N K text (nI n) r N 0 (nI b) 0 = K (nI b) 0 := fun K r => by
      have h : ∀ g, f_X3_readToken_L80 N K text (nI n) r (g + 1) 0 (nI b) 0 = K (nI b) 0 := fun g => by
        rw [f_X3_readToken_L80_s, if_pos rfl]
      have h2 := h g
      rw [← hg] at h2
      exact h2
    rw [if_neg c, if_pos (nI_le (by omega) (by omega))]
    dsimp only
    rw [zl_let, hz, zl_let, pk_sub (Nat.le_refl _)]
    exact ⟨b, b, 0, 0, ⟨b2, b3, b4, Or.inl ⟨by omega, by omega, rfl⟩⟩, rfl, fun q => by omega, fun q => by omega, fun q => by omega⟩
theorem run7 (N : Nat) {text : Nat → Int32} {B : Nat → Nat} {n : Nat} (ht : txB text B n) {b : Nat} (hb : b < n) (K) : ∀ (d j f : Nat), j + d = n → d < f → b < j → (∀ i, b ≤ i → i < j → kdB (B i) = kdB (B b)) → (kdB (B b) = 3 → j = b + 1) → ∃ e, f_X7_token_L71 N K text (nI n) (nI b) f (nI j) = K (nI e) ∧ b < e ∧ e ≤ n ∧ (∀ i, b ≤ i → i < e → kdB (B i) = kdB (B b)) ∧ (kdB (B b) = 3 → e = b + 1) ∧ (kdB (B b) ≠ 3 → e < n → kdB (B e) ≠ kdB (B b)) := by
  obtain ⟨hn, ht⟩ := ht
  obtain ⟨b1, b2⟩ := ht b hb
  have hkb := kdB_rng (B b)
  intro d
  induction d with
  | zero =>
    intro j f hj hf hbj h1 h2
    obtain ⟨f, rfl⟩ : ∃ g, f = g + 1 := ⟨f - 1, by omega⟩
    rw [f_X7_token_L71_s, if_pos (nI_le (by omega) (by omega))]
    exact ⟨j, rfl, hbj, by omega, h1, h2, fun _ h => by omega⟩
  | succ d ih =>
    intro j f hj hf hbj h1 h2
    obtain ⟨f, rfl⟩ : ∃ g, f = g + 1 := ⟨f - 1, by omega⟩
    obtain ⟨t1, t2⟩ := ht j (by omega)
    have hkj := kdB_rng (B j)
    rw [f_X7_token_L71_s, if_neg (nI_ge (by omega) (by omega)), zl_gd (zl_inN (show b < 200 by omega) (by decide)), zl_cl (show b < 2 ^ 31 by omega), b1, zl_b1 (sort7 N b2)]
    by_cases k3 : kdB (B b) = 3
    · rw [if_pos k3, if_pos (show nI 0 ≤ 0 by decide)]
      exact ⟨j, rfl, hbj, by omega, h1, h2, fun q => absurd k3 q⟩
    · rw [if_neg k3, if_neg (nI_nle (by omega) (by omega)), zl_gd (zl_inN (show j < 200 by omega) (by decide)), zl_cl (show j < 2 ^ 31 by omega), t1, zl_b1 (sort7 N t2), zl_b1 (sort7 N b2), if_neg k3]
      by_cases c : kdB (B j) = kdB (B b)
      · rw [c, if_neg k3, if_pos rfl, zl_let, nI_1]
        refine ih (j + 1) f (by omega) (by omega) (by omega) (fun i i1 i2 => ?_) (fun q => absurd q k3)
        by_cases e : i = j
        · rw [e]
          exact c
        · exact h1 i i1 (by omega)
      · rw [if_neg (fun q => by
          by_cases k3j : kdB (B j) = 3
          · rw [if_pos k3j] at q
            have := (nI_eq (a := 0) (by omega) (by omega)).mp q
            omega
          · rw [if_neg k3j] at q
            exact c ((nI_eq (by omega) (by omega)).mp q))]
        exact ⟨j, rfl, hbj, by omega, h1, h2, fun _ _ => c⟩
theorem tok7 (N : Nat) (hN : 100000 ≤ N) {text : Nat → Int32} {B : Nat → Nat} {n : Nat} (ht : txB text B n) {p : Nat} (hp : p ≤ n) : ∃ b e k, Tok B n p b e k ∧ f_X7_token N text (nI n) (nI p) = some (nI e, nI b, nI e) := by
  have htx := ht
  obtain ⟨hn, ht⟩ := ht
  unfold f_X7_token
  rw [zl_let]
  obtain ⟨b, b1, b2, b3, b4, b5⟩ := sk7 N htx (fun (t_at_7 : Int32) => zz_let (fun (q_10 : Int32) => zz_let (t_at_7 + q_10) (fun t_at_11 => zz_let (fun (t_at_23 : Int32) => (some (t_at_23, t_at_7, t_at_23))) (fun k_12 => f_X7_token_L71 N k_12 text (nI n) t_at_7 N t_at_11))) (fun k_9 => (if nI n ≤ t_at_7 then (k_9 (0 : Int32)) else (k_9 (1 : Int32))))) (n - p) p N (by omega) (by omega)
  rw [b1, zl_let]
  by_cases c : b < n
  · rw [if_neg (nI_ge c (by omega))]
    dsimp only
    rw [zl_let, zl_let, nI_1]
    obtain ⟨e, q1, q2, q3, q4, q5, q6⟩ := run7 N htx c (fun t => some (t, nI b, t)) (n - (b + 1)) (b + 1) N (by omega) (by omega) (by omega) (fun i h1 h2 => by rw [show i = b by omega]) (fun _ => rfl)
    rw [q1]
    exact ⟨b, e, kdB (B b), ⟨b2, b3, b4, Or.inr ⟨c, b5 c, rfl, q2, q3, q4, q5, q6⟩⟩, rfl⟩
  · obtain ⟨g, hg⟩ : ∃ g, N = g + 1 := ⟨N - 1, by omega⟩
    have hz : ∀ K, f_X7_token_L71 N K text (nI n) (nI b) N (nI b) = K (nI b) := fun K => by
      have h : ∀ g, f_X7_token_L71 N K text (nI n) (nI b) (g + 1) (nI b) = K (nI b) := fun g => by
        rw [f_X7_token_L71_s, if_pos (nI_le (by omega) (by omega))]
      have h2 := h g
      rw [← hg] at h2
      exact h2
    rw [if_pos (nI_le (by omega) (by omega))]
    dsimp only
    rw [zl_let, zl_let, show (0 : Int32) = nI 0 from rfl, nI_add, Nat.add_zero, hz]
    exact ⟨b, b, 0, ⟨b2, b3, b4, Or.inl ⟨by omega, by omega, rfl⟩⟩, rfl⟩
/-- one token, in both programs -/
theorem tok (N : Nat) (hN : 100000 ≤ N) {text textM : Nat → Int32} {B : Nat → Nat} {n : Nat} (ht : txB text B n) (htM : txB textM B n) {p : Nat} (hp : p ≤ n) : ∃ b e k V, Tok B n p b e k ∧ f_X3_readToken N text (nI n) (nI p) = some (nI e, nI k, nI b, nI (e - b), V) ∧ (k = 1 → V = lN (cvB B 27 96 0 b (e - b))) ∧ (k = 2 → V = lN (cvB B 10 48 0 b (e - b))) ∧ (k = 3 → V = lN (B b)) ∧ f_X7_token N textM (nI n) (nI p) = some (nI e, nI b, nI e) := by
  obtain ⟨b, e, k, V, h1, h2, h3, h4, h5⟩ := tok6 N hN ht hp
  obtain ⟨b', e', k', g1, g2⟩ := tok7 N hN htM hp
  obtain ⟨q1, q2, q3⟩ := Tok_uniq h1 g1
  subst q1
  subst q2
  subst q3
  exact ⟨b, e, k, V, h1, h2, h3, h4, h5, g2⟩
