/-! ===== words, numbers, keywords ===== -/
theorem cv_word {B : Nat → Nat} : ∀ (d j c k : Nat), (∀ i, j ≤ i → i < j + d → kdB (B i) = 1) → c < 27 ^ k → k + d ≤ 9 → zDg (zL c) = true → cvB B 27 96 c j d < 27 ^ (k + d) ∧ zDg (zL (cvB B 27 96 c j d)) = true ∧ (0 < d → cvB B 27 96 c j d ≠ 0) := by
  intro d
  induction d with
  | zero =>
    intro j c k _ hc _ hD
    exact ⟨hc, hD, fun h => by omega⟩
  | succ d ih =>
    intro j c k hl hc hk hD
    have hb := kdB_1.mp (hl j (Nat.le_refl _) (by omega))
    have hp : 27 ^ (k + 1) ≤ 27 ^ 9 := Nat.pow_le_pow_right (by decide) (by omega)
    have hlt : c * 27 + B j - 96 < 27 ^ (k + 1) := by
      rw [Nat.pow_succ]
      omega
    have h63 : c * 27 + B j - 96 < 2 ^ 63 := by
      rw [p27] at hp
      omega
    have hD' : zDg (zL (c * 27 + B j - 96)) = true := by
      rw [zDg_s (by omega) h63, show (c * 27 + B j - 96) / 27 = c by omega, hD, beq_eq_false_iff_ne.mpr (show (c * 27 + B j - 96) % 27 ≠ 0 by omega)]
      rfl
    obtain ⟨q1, q2, q3⟩ := ih (j + 1) (c * 27 + B j - 96) (k + 1) (fun i h1 h2 => hl i (by omega) (by omega)) hlt (by omega) hD'
    refine ⟨by rw [show k + (d + 1) = k + 1 + d by omega]; exact q1, q2, fun _ => ?_⟩
    by_cases e : d = 0
    · subst e
      show c * 27 + B j - 96 ≠ 0
      omega
    · exact q3 (by omega)
theorem cv_num {B : Nat → Nat} : ∀ (d j c k : Nat), (∀ i, j ≤ i → i < j + d → kdB (B i) = 2) → c < 10 ^ k → cvB B 10 48 c j d < 10 ^ (k + d) := by
  intro d
  induction d with
  | zero =>
    intro j c k _ hc
    exact hc
  | succ d ih =>
    intro j c k hl hc
    have hb := kdB_2.mp (hl j (Nat.le_refl _) (by omega))
    have hlt : c * 10 + B j - 48 < 10 ^ (k + 1) := by
      rw [Nat.pow_succ]
      omega
    rw [show k + (d + 1) = k + 1 + d by omega]
    exact ih (j + 1) _ (k + 1) (fun i h1 h2 => hl i (by omega) (by omega)) hlt
/-- a token at a place, in both programs -/
def TP (N : Nat) (text textM : Nat → Int32) (B : Nat → Nat) (n p b e k : Nat) (V : Int64) : Prop := Tok B n p b e k ∧ f_X3_readToken N text (nI n) (nI p) = some (nI e, nI k, nI b, nI (e - b), V) ∧ (k = 1 → V = lN (cvB B 27 96 0 b (e - b))) ∧ (k = 2 → V = lN (cvB B 10 48 0 b (e - b))) ∧ (k = 3 → V = lN (B b)) ∧ f_X7_token N textM (nI n) (nI p) = some (nI e, nI b, nI e)
def TX (text textM : Nat → Int32) (B : Nat → Nat) (n : Nat) : Prop := txB text B n ∧ txB textM B n
theorem TP_at (N : Nat) (hN : 100000 ≤ N) {text textM : Nat → Int32} {B : Nat → Nat} {n : Nat} (ht : TX text textM B n) {p : Nat} (hp : p ≤ n) : ∃ b e k V, TP N text textM B n p b e k V := tok N hN ht.1 ht.2 hp
section
variable {N : Nat} {text textM : Nat → Int32} {B : Nat → Nat} {n p b e k : Nat} {V : Int64}
theorem tp_letters (h : Tok B n p b e k) (hk : 1 ≤ k) : b < n ∧ b < e ∧ e ≤ n ∧ k = kdB (B b) ∧ ∀ i, b ≤ i → i < b + (e - b) → kdB (B i) = k := by
  obtain ⟨_, _, _, h4⟩ := h
  rcases h4 with h4 | ⟨a1, a2, a3, a4, a5, a6, _⟩
  · omega
  · exact ⟨a1, a4, a5, a3, fun i h1 h2 => a6 i h1 (by omega)⟩
theorem tp_code (h : Tok B n p b e 1) (hl : e - b ≤ 9) : isW (e - b) (cvB B 27 96 0 b (e - b)) := by
  obtain ⟨h1, h2, h3, _, h5⟩ := tp_letters h (by omega)
  obtain ⟨q1, q2, q3⟩ := cv_word (e - b) b 0 0 h5 (by decide) (by omega) rfl
  rw [Nat.zero_add] at q1
  exact isW_iff.mpr ⟨q3 (by omega), q1, q2⟩
theorem tp_num (h : Tok B n p b e 2) (hl : e - b ≤ 3) : cvB B 10 48 0 b (e - b) < 1000 := by
  obtain ⟨h1, h2, h3, _, h5⟩ := tp_letters h (by omega)
  have q := cv_num (e - b) b 0 0 h5 (by decide)
  rw [Nat.zero_add] at q
  exact Nat.lt_of_lt_of_le q (Nat.le_trans (Nat.pow_le_pow_right (by decide) hl) (by decide))
theorem isW_up {j k n : Nat} (h : isW j n) (hjk : j ≤ k) : isW k n := ⟨h.1, Nat.lt_of_lt_of_le h.2.1 (Nat.pow_le_pow_right (by decide) hjk), h.2.2⟩
theorem num6 (h : TP N text textM B n p b e k V) (hn : n ≤ 200) (lo hi : Int32) : ∃ ok : Bool, f_X3_readNumber N text (nI n) (nI p) lo hi = some (zBo ok, nI e, nI k, nI b, nI (e - b), V) ∧ (ok = true ↔ (k = 2 ∧ e - b ≤ 3 ∧ lo.toInt ≤ (cvB B 10 48 0 b (e - b) : Nat) ∧ ((cvB B 10 48 0 b (e - b) : Nat) : Int) ≤ hi.toInt)) := by
  obtain ⟨h1, h2, _, h4, _, _⟩ := h
  obtain ⟨l1, l2, l3, l4⟩ := Tok_le h1
  unfold f_X3_readNumber
  simp only [zz_b5, h2, Option.bind_some]
  by_cases c1 : k = 2
  · rw [if_pos (show nI k = (2 : Int32) by rw [c1]; rfl)]
    by_cases c2 : e - b ≤ 3
    · subst c1
      have hv := tp_num h1 c2
      rw [h4 rfl, if_neg (show ¬ (3 : Int32) < nI (e - b) from nI_nlt (a := 3) c2 (by decide))]
      have ev : (lN (cvB B 10 48 0 b (e - b))).toInt = (cvB B 10 48 0 b (e - b) : Nat) := pk_lT (by omega)
      by_cases c3 : lo.toInt ≤ (cvB B 10 48 0 b (e - b) : Nat)
      · rw [if_neg (by rw [fa_lt64, ev, zl_wide]; omega)]
        by_cases c4 : ((cvB B 10 48 0 b (e - b) : Nat) : Int) ≤ hi.toInt
        · rw [if_neg (by rw [fa_lt64, ev, zl_wide]; omega)]
          exact ⟨true, rfl, fun _ => ⟨rfl, c2, c3, c4⟩, fun _ => rfl⟩
        · rw [if_pos (by rw [fa_lt64, ev, zl_wide]; omega)]
          exact ⟨false, rfl, fun q => by (cases q), fun q => absurd q.2.2.2 c4⟩
      · rw [if_pos (by rw [fa_lt64, ev, zl_wide]; omega)]
        exact ⟨false, rfl, fun q => by (cases q), fun q => absurd q.2.2.1 c3⟩
    · rw [if_pos (show (3 : Int32) < nI (e - b) from nI_lt (a := 3) (by omega) (by omega))]
      exact ⟨false, rfl, fun q => by (cases q), fun q => absurd q.2.1 c2⟩
  · rw [if_neg (show ¬ nI k = (2 : Int32) from fun q => c1 ((nI_eq (b := 2) (by omega) (by decide)).mp q))]
    exact ⟨false, rfl, fun q => by (cases q), fun q => absurd q.1 c1⟩
theorem word6 (h : TP N text textM B n p b e k V) (hn : n ≤ 200) {L : Nat} (hL : L ≤ 9) : ∃ ok : Bool, f_X3_readWord N text (nI n) (nI p) (nI L) = some (zBo ok, nI e, nI k, nI b, nI (e - b), V) ∧ (ok = true ↔ (k = 1 ∧ e - b ≤ L)) := by
  obtain ⟨h1, h2, _⟩ := h
  obtain ⟨l1, l2, l3, l4⟩ := Tok_le h1
  unfold f_X3_readWord
  simp only [zz_b5, h2, Option.bind_some]
  by_cases c1 : k = 1
  · rw [if_pos (show nI k = (1 : Int32) by rw [c1]; rfl)]
    by_cases c2 : e - b ≤ L
    · rw [if_neg (nI_nlt c2 (by omega))]
      exact ⟨true, rfl, fun _ => ⟨c1, c2⟩, fun _ => rfl⟩
    · rw [if_pos (nI_lt (by omega) (by omega))]
      exact ⟨false, rfl, fun q => by (cases q), fun q => absurd q.2 c2⟩
  · rw [if_neg (show ¬ nI k = (1 : Int32) from fun q => c1 ((nI_eq (b := 1) (by omega) (by decide)).mp q))]
    exact ⟨false, rfl, fun q => by (cases q), fun q => absurd q.1 c1⟩
theorem code52 (ht : txB textM B n) (K) : ∀ (d j f c : Nat), j + d ≤ n → d < f → (∀ i, j ≤ i → i < j + d → kdB (B i) = 1) → f_X7_codeHere_L52 N K textM (nI (j + d)) f (lN c) (nI j) = K (lN (cvB B 27 96 c j d)) := by
  obtain ⟨hn, ht⟩ := ht
  intro d
  induction d with
  | zero =>
    intro j f c hj hf _
    obtain ⟨f, rfl⟩ : ∃ g, f = g + 1 := ⟨f - 1, by omega⟩
    rw [f_X7_codeHere_L52_s, if_pos (nI_le (by omega) (by omega))]
    rfl
  | succ d ih =>
    intro j f c hj hf hl
    obtain ⟨f, rfl⟩ : ∃ g, f = g + 1 := ⟨f - 1, by omega⟩
    obtain ⟨t1, t2⟩ := ht j (by omega)
    have hb := kdB_1.mp (hl j (Nat.le_refl _) (by omega))
    rw [f_X7_codeHere_L52_s, if_neg (nI_ge (by omega) (by omega)), zl_gd (zl_inN (show j < 200 by omega) (by decide)), zl_let, zl_let, nI_1, zl_cl (show j < 2 ^ 31 by omega), t1, nI_l (by omega), show (27 : Int64) = lN 27 from rfl, lN_mul, lN_add, show (96 : Int64) = lN 96 from rfl, lN_sub (by omega), show j + (d + 1) = j + 1 + d by omega, ih (j + 1) f _ (by omega) (by omega) (fun i h1 h2 => hl i (by omega) (by omega)), Nat.mul_comm 27 c]
    rfl
theorem code7 (hN : 100000 ≤ N) (h : TP N text textM B n p b e k V) (ht : TX text textM B n) {L : Nat} (hL : L ≤ 9) : (k = 1 ∧ e - b ≤ L → f_X7_codeHere N textM (nI n) (nI b) (nI e) (nI L) = some (lN (cvB B 27 96 0 b (e - b)))) ∧ (¬ (k = 1 ∧ e - b ≤ L) → f_X7_codeHere N textM (nI n) (nI b) (nI e) (nI L) = some (-1)) := by
  obtain ⟨h1, _⟩ := h
  obtain ⟨l1, l2, l3, l4⟩ := Tok_le h1
  obtain ⟨hn, ht2⟩ := ht.2
  unfold f_X7_codeHere
  by_cases c0 : b = n
  · have hk : k = 0 := by
      obtain ⟨_, _, _, h4⟩ := h1
      rcases h4 with h4 | h4
      · exact h4.2.2
      · omega
    rw [if_pos (show nI b = nI n by rw [c0])]
    exact ⟨fun q => by omega, fun _ => rfl⟩
  · obtain ⟨t1, t2⟩ := ht2 b (by omega)
    have hk : k = kdB (B b) := by
      obtain ⟨_, _, _, h4⟩ := h1
      rcases h4 with h4 | h4
      · omega
      · exact h4.2.2.1
    rw [if_neg (show ¬ nI b = nI n from fun q => c0 ((nI_eq (by omega) (by omega)).mp q)), zl_gd (zl_inN (show b < 200 by omega) (by decide)), zl_cl (show b < 2 ^ 31 by omega), t1, zl_b1 (sort7 N t2), ← hk, pk_sub l2]
    by_cases c1 : k = 1
    · rw [if_neg (show ¬ k = 3 by omega), if_pos (show nI k = (1 : Int32) by rw [c1]; rfl)]
      by_cases c2 : e - b ≤ L
      · rw [if_pos (nI_le c2 (by omega)), zl_let]
        refine ⟨fun _ => ?_, fun q => absurd ⟨c1, c2⟩ q⟩
        subst c1
        obtain ⟨_, _, _, _, h5⟩ := tp_letters h1 (by omega)
        have := code52 (N := N) ht.2 (fun v => some v) (e - b) b N 0 (by omega) (by omega) h5
        rw [show b + (e - b) = e by omega] at this
        exact this
      · rw [if_neg (nI_ge (by omega) (by omega))]
        exact ⟨fun q => absurd q.2 c2, fun _ => rfl⟩
    · rw [if_neg (show ¬ nI (if k = 3 then 0 else k) = (1 : Int32) from fun q => by
        by_cases k3 : k = 3
        · rw [if_pos k3] at q
          exact absurd q (by decide)
        · rw [if_neg k3] at q
          exact c1 ((nI_eq (b := 1) (by omega) (by decide)).mp q))]
      exact ⟨fun q => absurd q.1 c1, fun _ => rfl⟩
theorem num51 (ht : txB textM B n) (K) : ∀ (d j f c : Nat), j + d ≤ n → d < f → (∀ i, j ≤ i → i < j + d → kdB (B i) = 2) → f_X7_reads_L51 N K textM (nI (j + d)) f (nI c) (nI j) = K (nI (cvB B 10 48 c j d)) := by
  obtain ⟨hn, ht⟩ := ht
  intro d
  induction d with
  | zero =>
    intro j f c hj hf _
    obtain ⟨f, rfl⟩ : ∃ g, f = g + 1 := ⟨f - 1, by omega⟩
    rw [f_X7_reads_L51_s, if_pos (nI_le (by omega) (by omega))]
    rfl
  | succ d ih =>
    intro j f c hj hf hl
    obtain ⟨f, rfl⟩ : ∃ g, f = g + 1 := ⟨f - 1, by omega⟩
    obtain ⟨t1, t2⟩ := ht j (by omega)
    have hb := kdB_2.mp (hl j (Nat.le_refl _) (by omega))
    rw [f_X7_reads_L51_s, if_neg (nI_ge (by omega) (by omega)), zl_gd (zl_inN (show j < 200 by omega) (by decide)), zl_let, zl_let, nI_1, zl_cl (show j < 2 ^ 31 by omega), t1, show (10 : Int32) = nI 10 from rfl, pk_mul, nI_add, show (48 : Int32) = nI 48 from rfl, pk_sub (by omega), show j + (d + 1) = j + 1 + d by omega, ih (j + 1) f _ (by omega) (by omega) (fun i h1 h2 => hl i (by omega) (by omega)), Nat.mul_comm 10 c]
    rfl
theorem reads7 (hN : 100000 ≤ N) (h : TP N text textM B n p b e k V) (ht : TX text textM B n) (read : Nat → Int32) {m s : Nat} (hm : m < 8) (hs : s ≤ 2) (lo hi nt : Int32) : (k = 2 ∧ e - b ≤ 3 ∧ lo.toInt ≤ (cvB B 10 48 0 b (e - b) : Nat) ∧ ((cvB B 10 48 0 b (e - b) : Nat) : Int) ≤ hi.toInt ∧ ¬ nI (cvB B 10 48 0 b (e - b)) = nt → ∃ b' e' k' V', TP N text textM B n e b' e' k' V' ∧ f_X7_reads N textM (nI n) read (nI m) (nI e) (nI b) (nI e) (nI s) lo hi nt = some (1, upd read (5 * m + 1 + s) (nI (cvB B 10 48 0 b (e - b))), nI e', nI b', nI e')) ∧ (¬ (k = 2 ∧ e - b ≤ 3 ∧ lo.toInt ≤ (cvB B 10 48 0 b (e - b) : Nat) ∧ ((cvB B 10 48 0 b (e - b) : Nat) : Int) ≤ hi.toInt ∧ ¬ nI (cvB B 10 48 0 b (e - b)) = nt) → f_X7_reads N textM (nI n) read (nI m) (nI e) (nI b) (nI e) (nI s) lo hi nt = some (0, read, nI e, nI b, nI e)) := by
  obtain ⟨h1, _⟩ := h
  obtain ⟨l1, l2, l3, l4⟩ := Tok_le h1
  obtain ⟨hn, ht2⟩ := ht.2
  unfold f_X7_reads
  by_cases c0 : b = n
  · have hk : k = 0 := by
      obtain ⟨_, _, _, h4⟩ := h1
      rcases h4 with h4 | h4
      · exact h4.2.2
      · omega
    rw [if_pos (show nI b = nI n by rw [c0])]
    exact ⟨fun q => by omega, fun _ => rfl⟩
  · obtain ⟨t1, t2⟩ := ht2 b (by omega)
    have hk : k = kdB (B b) := by
      obtain ⟨_, _, _, h4⟩ := h1
      rcases h4 with h4 | h4
      · omega
      · exact h4.2.2.1
    rw [if_neg (show ¬ nI b = nI n from fun q => c0 ((nI_eq (by omega) (by omega)).mp q)), zl_gd (zl_inN (show b < 200 by omega) (by decide)), zl_cl (show b < 2 ^ 31 by omega), t1, zl_b1 (sort7 N t2), ← hk, pk_sub l2]
    by_cases c1 : k = 2
    · rw [if_neg (show ¬ k = 3 by omega), if_pos (show nI k = (2 : Int32) by rw [c1]; rfl)]
      by_cases c2 : e - b ≤ 3
      · subst c1
        have hv := tp_num h1 c2
        obtain ⟨_, _, _, _, h5⟩ := tp_letters h1 (by omega)
        rw [if_pos (show nI (e - b) ≤ (3 : Int32) from nI_le (b := 3) c2 (by decide)), zl_let]
        have e51 := fun K => num51 (N := N) ht.2 K (e - b) b N 0 (by omega) (by omega) h5
        rw [show b + (e - b) = e by omega] at e51
        rw [show ∀ K, f_X7_reads_L51 N K textM (nI e) N 0 (nI b) = _ from e51]
        have ev : (nI (cvB B 10 48 0 b (e - b))).toInt64.toInt = (cvB B 10 48 0 b (e - b) : Nat) := by
          rw [zl_wide, nI_toInt (by omega)]
        by_cases c3 : lo.toInt ≤ (cvB B 10 48 0 b (e - b) : Nat) ∧ ((cvB B 10 48 0 b (e - b) : Nat) : Int) ≤ hi.toInt
        · rw [zl_bT (zl_in7t (by rw [ev, zl_wide, zl_wide]; exact c3))]
          by_cases c4 : nI (cvB B 10 48 0 b (e - b)) = nt
          · rw [if_pos c4]
            exact ⟨fun q => absurd c4 q.2.2.2.2, fun _ => rfl⟩
          · have m5 : (5 : Int32) * nI m = nI (5 * m) := pk_mul 5 m
            obtain ⟨b', e', k', V', q⟩ := TP_at N hN ht l3
            rw [if_neg c4, m5, nI_1, nI_add, zl_gd (zl_inN (show 5 * m + 1 + s < 40 by omega) (by decide)), zl_let, zl_cl (show 5 * m + 1 + s < 2 ^ 31 by omega), zl_b3 q.2.2.2.2.2]
            exact ⟨fun _ => ⟨b', e', k', V', q, rfl⟩, fun w => absurd ⟨rfl, c2, c3.1, c3.2, c4⟩ w⟩
        · rw [zl_bF (zl_in7f (by rw [ev, zl_wide, zl_wide]; exact c3))]
          exact ⟨fun q => absurd ⟨q.2.2.1, q.2.2.2.1⟩ c3, fun _ => rfl⟩
      · rw [if_neg (show ¬ nI (e - b) ≤ (3 : Int32) from nI_ge (a := 3) (by omega) (by omega))]
        exact ⟨fun q => absurd q.2.1 c2, fun _ => rfl⟩
    · rw [if_neg (show ¬ nI (if k = 3 then 0 else k) = (2 : Int32) from fun q => by
        by_cases k3 : k = 3
        · rw [if_pos k3] at q
          exact absurd q (by decide)
        · rw [if_neg k3] at q
          exact c1 ((nI_eq (b := 2) (by omega) (by decide)).mp q))]
      exact ⟨fun q => absurd q.1 c1, fun _ => rfl⟩
/-- a word or nothing: the code, 0 for nothing -/
def wnO (B : Nat → Nat) (b e k : Nat) : Prop := (k = 3 ∧ B b = 45) ∨ (k = 1 ∧ e - b ≤ 9)
def wnV (B : Nat → Nat) (b e k : Nat) : Nat := if k = 3 then 0 else cvB B 27 96 0 b (e - b)
theorem wn_ok (h : Tok B n p b e k) (hw : wnO B b e k) : wnV B b e k = 0 ∨ isW 9 (wnV B b e k) := by
  unfold wnV
  rcases hw with q | q
  · rw [if_pos q.1]
    exact Or.inl rfl
  · rw [if_neg (by omega)]
    have hk := q.1
    subst hk
    exact Or.inr (isW_up (tp_code h q.2) q.2)
theorem wn6 (h : TP N text textM B n p b e k V) (hn : n ≤ 200) (hB : ∀ i, i < n → B i < 256) : (wnO B b e k → f_X3_readWordOrNothing N text (nI n) (nI p) = some (1, nI e, nI k, nI b, nI (e - b), lN (wnV B b e k))) ∧ (¬ wnO B b e k → f_X3_readWordOrNothing N text (nI n) (nI p) = some (0, nI e, nI k, nI b, nI (e - b), V)) := by
  obtain ⟨h1, h2, h3, _, h5, _⟩ := h
  obtain ⟨l1, l2, l3, l4⟩ := Tok_le h1
  unfold f_X3_readWordOrNothing
  simp only [zz_b5, h2, Option.bind_some]
  rw [zl_let]
  by_cases k3 : k = 3
  · have hbn := (tp_letters h1 (by omega)).1
    have hb := hB b hbn
    rw [if_pos (show nI k = (3 : Int32) by rw [k3]; rfl), h5 k3]
    by_cases c : B b = 45
    · rw [if_pos (show lN (B b) = (45 : Int64) by rw [c]; rfl)]
      refine ⟨fun _ => ?_, fun q => absurd (Or.inl ⟨k3, c⟩) q⟩
      unfold wnV
      rw [if_pos k3]
      rfl
    · rw [if_neg (show ¬ lN (B b) = (45 : Int64) from fun q => c ((pk_lEQ (b := 45) (by omega) (by decide)).mp q)), if_neg (show ¬ nI k = (1 : Int32) by rw [k3]; decide)]
      exact ⟨fun q => by rcases q with q | q <;> omega, fun _ => rfl⟩
  · rw [if_neg (show ¬ nI k = (3 : Int32) from fun q => k3 ((nI_eq (b := 3) (by omega) (by decide)).mp q))]
    by_cases k1 : k = 1
    · rw [if_pos (show nI k = (1 : Int32) by rw [k1]; rfl)]
      by_cases c2 : e - b ≤ 9
      · rw [if_neg (show ¬ (9 : Int32) < nI (e - b) from nI_nlt (a := 9) c2 (by decide)), h3 k1]
        refine ⟨fun _ => ?_, fun q => absurd (Or.inr ⟨k1, c2⟩) q⟩
        unfold wnV
        rw [if_neg k3]
      · rw [if_pos (show (9 : Int32) < nI (e - b) from nI_lt (a := 9) (by omega) (by omega))]
        exact ⟨fun q => by rcases q with q | q <;> omega, fun _ => rfl⟩
    · rw [if_neg (show ¬ nI k = (1 : Int32) from fun q => k1 ((nI_eq (b := 1) (by omega) (by decide)).mp q))]
      exact ⟨fun q => by rcases q with q | q <;> omega, fun _ => rfl⟩
theorem wn7 (hN : 100000 ≤ N) (h : TP N text textM B n p b e k V) (ht : TX text textM B n) (rw_ : Nat → Int64) {m : Nat} (hm : m < 8) : (wnO B b e k → ∃ b' e' k' V', TP N text textM B n e b' e' k' V' ∧ f_X7_readsWord N textM (nI n) rw_ (nI m) (nI e) (nI b) (nI e) = some (1, vp_updL rw_ m (lN (wnV B b e k)), nI e', nI b', nI e')) ∧ (¬ wnO B b e k → f_X7_readsWord N textM (nI n) rw_ (nI m) (nI e) (nI b) (nI e) = some (0, rw_, nI e, nI b, nI e)) := by
  obtain ⟨c7a, c7b⟩ := code7 hN h ht (L := 9) (by omega)
  obtain ⟨h1, _⟩ := h
  obtain ⟨l1, l2, l3, l4⟩ := Tok_le h1
  obtain ⟨hn, ht2⟩ := ht.2
  obtain ⟨b', e', k', V', q⟩ := TP_at N hN ht l3
  have fin : ∀ w, w < 2 ^ 63 → (if lN w = (-1 : Int64) then (some ((0 : Int32), rw_, nI e, nI b, nI e)) else zz_gd (zz_in (nI m) 8) (zz_let (vp_updL rw_ (nI m).toNatClampNeg (lN w)) (fun t_readWord_12 => zz_b3 (f_X7_token N textM (nI n) (nI e)) (fun t_at_13 t_place_14 t_end_15 => (some ((1 : Int32), t_readWord_12, t_at_13, t_place_14, t_end_15)))))) = some (1, vp_updL rw_ m (lN w), nI e', nI b', nI e') := fun w hw => by
    rw [if_neg (fun x => by
      have := congrArg Int64.toInt x
      rw [pk_lT hw] at this
      have h1 : (-1 : Int64).toInt = -1 := rfl
      omega), zl_gd (zl_inN hm (by decide)), zl_let, zl_cl (show m < 2 ^ 31 by omega), zl_b3 q.2.2.2.2.2]
  unfold f_X7_readsWord
  simp only [zl_let]
  by_cases c45 : b < n ∧ B b = 45
  · obtain ⟨t1, t2⟩ := ht2 b c45.1
    have hk : k = 3 := by
      obtain ⟨_, _, _, h4⟩ := h1
      rcases h4 with h4 | h4
      · omega
      · rw [h4.2.2.1, c45.2]
        rfl
    rw [if_neg (nI_ge c45.1 (by omega)), zl_gd (zl_inN (show b < 200 by omega) (by decide)), zl_cl (show b < 2 ^ 31 by omega), t1, if_pos (show nI (B b) = (45 : Int32) by rw [c45.2]; rfl), if_neg (show ¬ (1 : Int32) = 0 by decide)]
    refine ⟨fun _ => ⟨b', e', k', V', q, ?_⟩, fun w => absurd (Or.inl ⟨hk, c45.2⟩) w⟩
    unfold wnV
    rw [if_pos hk]
    exact fin 0 (by decide)
  · have core : (zz_b1 (f_X7_codeHere N textM (nI n) (nI b) (nI e) (9 : Int32)) (fun r_7 => (if r_7 = (-1 : Int64) then (some ((0 : Int32), rw_, nI e, nI b, nI e)) else zz_gd (zz_in (nI m) 8) (zz_b3 (f_X7_token N textM (nI n) (nI e)) (fun t_at_13 t_place_14 t_end_15 => (some ((1 : Int32), vp_updL rw_ (nI m).toNatClampNeg r_7, t_at_13, t_place_14, t_end_15))))))) = (if k = 1 ∧ e - b ≤ 9 then some (1, vp_updL rw_ m (lN (cvB B 27 96 0 b (e - b))), nI e', nI b', nI e') else some (0, rw_, nI e, nI b, nI e)) := by
      by_cases c1 : k = 1 ∧ e - b ≤ 9
      · have hk1 := c1.1
        rw [zl_b1 (show f_X7_codeHere N textM (nI n) (nI b) (nI e) (9 : Int32) = _ from c7a c1), if_pos c1]
        subst hk1
        exact fin _ (w_63 (isW_up (tp_code h1 c1.2) c1.2))
      · rw [zl_b1 (show f_X7_codeHere N textM (nI n) (nI b) (nI e) (9 : Int32) = _ from c7b c1), if_neg c1, if_pos rfl]
    have hno : wnO B b e k ↔ (k = 1 ∧ e - b ≤ 9) := by
      unfold wnO
      constructor
      · rintro (w | w)
        · exact absurd ⟨(tp_letters h1 (by omega)).1, w.2⟩ c45
        · exact w
      · exact Or.inr
    have last : (k = 1 ∧ e - b ≤ 9) → wnV B b e k = cvB B 27 96 0 b (e - b) := fun w => by
      unfold wnV
      rw [if_neg (by omega)]
    have done_ : (wnO B b e k → ∃ b' e' k' V', TP N text textM B n e b' e' k' V' ∧ (zz_b1 (f_X7_codeHere N textM (nI n) (nI b) (nI e) (9 : Int32)) (fun r_7 => (if r_7 = (-1 : Int64) then (some ((0 : Int32), rw_, nI e, nI b, nI e)) else zz_gd (zz_in (nI m) 8) (zz_b3 (f_X7_token N textM (nI n) (nI e)) (fun t_at_13 t_place_14 t_end_15 => (some ((1 : Int32), vp_updL rw_ (nI m).toNatClampNeg r_7, t_at_13, t_place_14, t_end_15))))))) = some (1, vp_updL rw_ m (lN (wnV B b e k)), nI e', nI b', nI e')) ∧ (¬ wnO B b e k → (zz_b1 (f_X7_codeHere N textM (nI n) (nI b) (nI e) (9 : Int32)) (fun r_7 => (if r_7 = (-1 : Int64) then (some ((0 : Int32), rw_, nI e, nI b, nI e)) else zz_gd (zz_in (nI m) 8) (zz_b3 (f_X7_token N textM (nI n) (nI e)) (fun t_at_13 t_place_14 t_end_15 => (some ((1 : Int32), vp_updL rw_ (nI m).toNatClampNeg r_7, t_at_13, t_place_14, t_end_15))))))) = some (0, rw_, nI e, nI b, nI e)) := by
      rw [core, hno]
      refine ⟨fun w => ⟨b', e', k', V', q, ?_⟩, fun w => ?_⟩
      · rw [if_pos w, last w]
      · rw [if_neg w]
    by_cases c : n ≤ b
    · rw [if_pos (nI_le c (by omega)), if_pos trivial]
      exact done_
    · obtain ⟨t1, t2⟩ := ht2 b (by omega)
      rw [if_neg (nI_ge (by omega) (by omega)), zl_gd (zl_inN (show b < 200 by omega) (by decide)), zl_cl (show b < 2 ^ 31 by omega), t1, if_neg (show ¬ nI (B b) = (45 : Int32) from fun q => c45 ⟨by omega, (nI_eq (b := 45) (by omega) (by decide)).mp q⟩), if_pos trivial]
      exact done_
end
