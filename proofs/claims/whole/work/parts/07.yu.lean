/-! ===== keywords ===== -/
def kws : Nat → List Nat
  | 0 => [108, 101, 116, 116, 101, 114]
  | 1 => [115, 121, 108]
  | 2 => [102, 105, 114, 115, 116]
  | 3 => [99, 104, 105, 108, 100]
  | 4 => [99, 97, 108, 108]
  | 5 => [104, 111, 112, 101]
  | 6 => [100, 101, 103, 114, 101, 101, 115]
  | 7 => [102, 111, 114, 103, 101, 116]
  | _ => []
def kwP : Nat → Int64
  | 0 => 609898668
  | 1 => 13107
  | 2 => 21612838
  | 3 => 4596995
  | 4 => 405539
  | 5 => 180712
  | 6 => 20574706852
  | 7 => 676579814
  | _ => 0
def kwM (B : Nat → Nat) (b d w : Nat) : Prop := d = (kws w).length ∧ ∀ i, i < d → B (b + i) = (kws w).getD i 0
theorem kw_f1 : ∀ w, w < 8 → zLens.getD w 0 = (kws w).length ∧ 1 ≤ (kws w).length ∧ (kws w).length ≤ 7 := by decide +kernel
theorem kw_f2 : ∀ w, w < 8 → ∀ i, i < 7 → i < (kws w).length → zCh w i = nI ((kws w).getD i 0) := by decide +kernel
theorem kw_f3 : ∀ w, w < 8 → ∀ i, i < 7 → i < (kws w).length → (96 : Int32) + (((kwP w >>> (((5 : Int32) * nI i).toInt64 &&& 63)) &&& (31 : Int64)).toInt32) = nI ((kws w).getD i 0) := by decide +kernel
theorem kw_f4 : ∀ w, w < 8 → ∀ i, i < 7 → i < (kws w).length → kdB ((kws w).getD i 0) = 1 ∧ (kws w).getD i 0 < 256 := by decide +kernel
section
variable {N : Nat} {text textM : Nat → Int32} {B : Nat → Nat} {n p b e k : Nat} {V : Int64}
theorem kw_l6 (ht : txB text B n) {w d : Nat} (hw : w < 8) (hd : d = (kws w).length) (hb : b + d ≤ n) : ∀ (r j f : Nat), j + r = d → r < f → ∃ ok : Bool, f_X3_says_L15 N (some 1) text (nI b) (nI d) w f (nI j) = some (zBo ok) ∧ (ok = true ↔ ∀ i, j ≤ i → i < d → B (b + i) = (kws w).getD i 0) := by
  obtain ⟨hn, ht⟩ := ht
  have f1 := kw_f1 w hw
  intro r
  induction r with
  | zero =>
    intro j f hj hf
    obtain ⟨f, rfl⟩ : ∃ g, f = g + 1 := ⟨f - 1, by omega⟩
    rw [f_X3_says_L15_s, if_pos (nI_le (by omega) (by omega))]
    exact ⟨true, rfl, fun _ i h1 h2 => by omega, fun _ => rfl⟩
  | succ r ih =>
    intro j f hj hf
    obtain ⟨f, rfl⟩ : ∃ g, f = g + 1 := ⟨f - 1, by omega⟩
    obtain ⟨t1, t2⟩ := ht (b + j) (by omega)
    have f2 := kw_f2 w hw j (by omega) (by omega)
    have f4 := kw_f4 w hw j (by omega) (by omega)
    obtain ⟨ok, o1, o2⟩ := ih (j + 1) f (by omega) (by omega)
    rw [f_X3_says_L15_s, if_neg (nI_ge (by omega) (by omega)), nI_add, zl_gd (zl_inN (show b + j < 200 by omega) (by decide)), f1.1, zl_gd (zl_inN (show j < (kws w).length by omega) (by omega)), zl_cl (show b + j < 2 ^ 31 by omega), zl_cl (show j < 2 ^ 31 by omega), t1, f2, zl_let, nI_1, o1]
    by_cases c : B (b + j) = (kws w).getD j 0
    · rw [if_pos (by rw [c])]
      refine ⟨ok, rfl, o2.trans ⟨fun q i h1 h2 => ?_, fun q i h1 h2 => q i (by omega) h2⟩⟩
      by_cases e : i = j
      · rw [e]
        exact c
      · exact q i (by omega) h2
    · rw [if_neg (fun q => c ((nI_eq (by omega) (by omega)).mp q))]
      exact ⟨false, rfl, fun q => by (cases q), fun q => absurd (q j (Nat.le_refl _) (by omega)) c⟩
theorem kw_6 (hN : 100000 ≤ N) (ht : txB text B n) (h : Tok B n p b e k) {w : Nat} (hw : w < 8) : ∃ ok : Bool, f_X3_says N text (nI b) (nI (e - b)) w = some (zBo ok) ∧ (ok = true ↔ kwM B b (e - b) w) := by
  have hn := ht.1
  obtain ⟨l1, l2, l3, l4⟩ := Tok_le h
  have f1 := kw_f1 w hw
  unfold f_X3_says
  by_cases c : e - b = (kws w).length
  · obtain ⟨ok, o1, o2⟩ := kw_l6 (N := N) (b := b) ht hw c (by omega) (e - b) 0 N (by omega) (by omega)
    rw [if_pos (show nI (e - b) = Int32.ofNat (zLens.getD w 0) by rw [f1.1, c]; rfl), zl_let]
    exact ⟨ok, o1, o2.trans ⟨fun q => ⟨c, fun i hi => q i (by omega) hi⟩, fun q i _ hi => q.2 i hi⟩⟩
  · rw [if_neg (show ¬ nI (e - b) = Int32.ofNat (zLens.getD w 0) by rw [f1.1]; exact fun q => c ((nI_eq (by omega) (by omega)).mp q))]
    exact ⟨false, rfl, fun q => by (cases q), fun q => absurd q.1 c⟩
theorem kw_l7 (ht : txB textM B n) {w d : Nat} (hw : w < 8) (hd : d = (kws w).length) (hb : b + d ≤ n) (K) : ∀ (r j f : Nat), j + r = d → r < f → ∃ ok : Bool, f_X7_isWord_L23 N K textM (nI b) (kwP w) (nI d) f 1 (nI j) = K (zBo ok) ∧ (ok = true ↔ ∀ i, j ≤ i → i < d → B (b + i) = (kws w).getD i 0) := by
  obtain ⟨hn, ht⟩ := ht
  have f1 := kw_f1 w hw
  intro r
  induction r with
  | zero =>
    intro j f hj hf
    obtain ⟨f, rfl⟩ : ∃ g, f = g + 1 := ⟨f - 1, by omega⟩
    rw [f_X7_isWord_L23_s, if_neg (by decide), if_pos (nI_le (by omega) (by omega))]
    exact ⟨true, rfl, fun _ i h1 h2 => by omega, fun _ => rfl⟩
  | succ r ih =>
    intro j f hj hf
    obtain ⟨f, rfl⟩ : ∃ g, f = g + 1 := ⟨f - 1, by omega⟩
    obtain ⟨t1, t2⟩ := ht (b + j) (by omega)
    have f3 := kw_f3 w hw j (by omega) (by omega)
    have f4 := kw_f4 w hw j (by omega) (by omega)
    obtain ⟨ok, o1, o2⟩ := ih (j + 1) f (by omega) (by omega)
    rw [f_X7_isWord_L23_s, if_neg (by decide), if_neg (nI_ge (by omega) (by omega)), nI_add, zl_gd (zl_inN (show b + j < 200 by omega) (by decide)), zl_let, zl_cl (show b + j < 2 ^ 31 by omega), t1, f3]
    by_cases c : B (b + j) = (kws w).getD j 0
    · rw [if_pos (by rw [c])]
      dsimp only
      rw [zl_let, nI_1, o1]
      refine ⟨ok, rfl, o2.trans ⟨fun q i h1 h2 => ?_, fun q i h1 h2 => q i (by omega) h2⟩⟩
      by_cases e : i = j
      · rw [e]
        exact c
      · exact q i (by omega) h2
    · rw [if_neg (fun q => c ((nI_eq (by omega) (by omega)).mp q))]
      dsimp only
      rw [zl_let]
      obtain ⟨f, rfl⟩ : ∃ g, f = g + 1 := ⟨f - 1, by omega⟩
      rw [f_X7_isWord_L23_s, if_pos rfl]
      exact ⟨false, rfl, fun q => by (cases q), fun q => absurd (q j (Nat.le_refl _) (by omega)) c⟩
theorem kw_7 (hN : 100000 ≤ N) (ht : txB textM B n) (h : Tok B n p b e k) {w : Nat} (hw : w < 8) : ∃ ok : Bool, f_X7_isWord N textM (nI b) (nI e) (kwP w) (nI (kws w).length) = some (zBo ok) ∧ (ok = true ↔ kwM B b (e - b) w) := by
  have hn := ht.1
  obtain ⟨l1, l2, l3, l4⟩ := Tok_le h
  have f1 := kw_f1 w hw
  unfold f_X7_isWord
  rw [zl_let, pk_sub l2]
  by_cases c : e - b = (kws w).length
  · obtain ⟨ok, o1, o2⟩ := kw_l7 (N := N) (b := b) ht hw c (by omega) (fun v4_14 => zz_gd (zz_isB v4_14) ((some v4_14))) (e - b) 0 N (by omega) (by omega)
    rw [c] at o1
    rw [if_pos (show nI (e - b) = nI (kws w).length by rw [c])]
    dsimp only
    rw [zl_let]
    refine ⟨ok, o1.trans ?_, o2.trans ⟨fun q => ⟨c, fun i hi => q i (by omega) hi⟩, fun q i _ hi => q.2 i hi⟩⟩
    cases ok <;> rfl
  · rw [if_neg (fun q => c ((nI_eq (by omega) (by omega)).mp q))]
    dsimp only
    rw [zl_let]
    obtain ⟨N', rfl⟩ : ∃ g, N = g + 1 := ⟨N - 1, by omega⟩
    rw [f_X7_isWord_L23_s, if_pos rfl]
    exact ⟨false, rfl, fun q => by (cases q), fun q => absurd q.1 c⟩
theorem kw_k (h : Tok B n p b e k) {w : Nat} (hw : w < 8) (hm : kwM B b (e - b) w) : k = 1 := by
  have f1 := kw_f1 w hw
  have h0 := hm.2 0 (by have := hm.1; omega)
  have f4 := kw_f4 w hw 0 (by omega) (by omega)
  rw [← h0] at f4
  obtain ⟨_, _, _, h4⟩ := h
  rcases h4 with h4 | h4
  · have := hm.1
    omega
  · rw [h4.2.2.1]
    exact f4.1
/-- both programs on one keyword -/
theorem kw_both (hN : 100000 ≤ N) (ht : TX text textM B n) (h : Tok B n p b e k) {w : Nat} (hw : w < 8) : ∃ ok : Bool, f_X3_says N text (nI b) (nI (e - b)) w = some (zBo ok) ∧ f_X7_isWord N textM (nI b) (nI e) (kwP w) (nI (kws w).length) = some (zBo ok) ∧ (ok = true → k = 1) := by
  obtain ⟨o6, a1, a2⟩ := kw_6 hN ht.1 h hw
  obtain ⟨o7, b1, b2⟩ := kw_7 hN ht.2 h hw
  have : o7 = o6 := by
    cases o6 <;> cases o7 <;> first | rfl | (exact absurd (a2.mpr (b2.mp rfl)) (by decide)) | (exact absurd (b2.mpr (a2.mp rfl)) (by decide))
  subst this
  exact ⟨o7, a1, b1, fun q => kw_k h hw (a2.mp q)⟩
/-- the keyword of a token: w says which, 8 for none -/
theorem kw_of (hN : 100000 ≤ N) (ht : TX text textM B n) (h : Tok B n p b e k) : ∃ w, w ≤ 8 ∧ (w < 8 → k = 1) ∧ (∀ i, i < w → f_X3_says N text (nI b) (nI (e - b)) i = some 0) ∧ (w < 8 → f_X3_says N text (nI b) (nI (e - b)) w = some 1) ∧ f_X7_wordOf N textM (nI b) (nI e) = some (if w < 8 then nI w else -1) := by
  unfold f_X7_wordOf
  obtain ⟨o0, p0, q0, r0⟩ := kw_both hN ht h (w := 0) (by decide)
  obtain ⟨o1, p1, q1, r1⟩ := kw_both hN ht h (w := 1) (by decide)
  obtain ⟨o2, p2, q2, r2⟩ := kw_both hN ht h (w := 2) (by decide)
  obtain ⟨o3, p3, q3, r3⟩ := kw_both hN ht h (w := 3) (by decide)
  obtain ⟨o4, p4, q4, r4⟩ := kw_both hN ht h (w := 4) (by decide)
  obtain ⟨o5, p5, q5, r5⟩ := kw_both hN ht h (w := 5) (by decide)
  obtain ⟨o6, p6, q6, r6⟩ := kw_both hN ht h (w := 6) (by decide)
  obtain ⟨o7, p7, q7, r7⟩ := kw_both hN ht h (w := 7) (by decide)
  rw [show f_X7_isWord N textM (nI b) (nI e) (609898668 : Int64) (6 : Int32) = _ from q0, show f_X7_isWord N textM (nI b) (nI e) (13107 : Int64) (3 : Int32) = _ from q1, show f_X7_isWord N textM (nI b) (nI e) (21612838 : Int64) (5 : Int32) = _ from q2, show f_X7_isWord N textM (nI b) (nI e) (4596995 : Int64) (5 : Int32) = _ from q3, show f_X7_isWord N textM (nI b) (nI e) (405539 : Int64) (4 : Int32) = _ from q4, show f_X7_isWord N textM (nI b) (nI e) (180712 : Int64) (4 : Int32) = _ from q5, show f_X7_isWord N textM (nI b) (nI e) (20574706852 : Int64) (7 : Int32) = _ from q6, show f_X7_isWord N textM (nI b) (nI e) (676579814 : Int64) (6 : Int32) = _ from q7]
  cases o0 with
  | true => exact ⟨0, by decide, fun _ => r0 rfl, fun i hi => by omega, fun _ => p0, rfl⟩
  | false =>
  cases o1 with
  | true => exact ⟨1, by decide, fun _ => r1 rfl, fun i hi => by
      obtain rfl : i = 0 := by omega
      exact p0, fun _ => p1, rfl⟩
  | false =>
  cases o2 with
  | true => exact ⟨2, by decide, fun _ => r2 rfl, fun i hi => by
      rcases (show i = 0 ∨ i = 1 by omega) with rfl | rfl
      · exact p0
      · exact p1, fun _ => p2, rfl⟩
  | false =>
  cases o3 with
  | true => exact ⟨3, by decide, fun _ => r3 rfl, fun i hi => by
      rcases (show i = 0 ∨ i = 1 ∨ i = 2 by omega) with rfl | rfl | rfl
      · exact p0
      · exact p1
      · exact p2, fun _ => p3, rfl⟩
  | false =>
  cases o4 with
  | true => exact ⟨4, by decide, fun _ => r4 rfl, fun i hi => by
      rcases (show i = 0 ∨ i = 1 ∨ i = 2 ∨ i = 3 by omega) with rfl | rfl | rfl | rfl
      · exact p0
      · exact p1
      · exact p2
      · exact p3, fun _ => p4, rfl⟩
  | false =>
  cases o5 with
  | true => exact ⟨5, by decide, fun _ => r5 rfl, fun i hi => by
      rcases (show i = 0 ∨ i = 1 ∨ i = 2 ∨ i = 3 ∨ i = 4 by omega) with rfl | rfl | rfl | rfl | rfl
      · exact p0
      · exact p1
      · exact p2
      · exact p3
      · exact p4, fun _ => p5, rfl⟩
  | false =>
  cases o6 with
  | true => exact ⟨6, by decide, fun _ => r6 rfl, fun i hi => by
      rcases (show i = 0 ∨ i = 1 ∨ i = 2 ∨ i = 3 ∨ i = 4 ∨ i = 5 by omega) with rfl | rfl | rfl | rfl | rfl | rfl
      · exact p0
      · exact p1
      · exact p2
      · exact p3
      · exact p4
      · exact p5, fun _ => p6, rfl⟩
  | false =>
  have all7 : ∀ i, i < 7 → f_X3_says N text (nI b) (nI (e - b)) i = some 0 := fun i hi => by
      rcases (show i = 0 ∨ i = 1 ∨ i = 2 ∨ i = 3 ∨ i = 4 ∨ i = 5 ∨ i = 6 by omega) with rfl | rfl | rfl | rfl | rfl | rfl | rfl
      · exact p0
      · exact p1
      · exact p2
      · exact p3
      · exact p4
      · exact p5
      · exact p6
  cases o7 with
  | true => exact ⟨7, by decide, fun _ => r7 rfl, all7, fun _ => p7, rfl⟩
  | false => exact ⟨8, by decide, fun q => by omega, fun i hi => by
      by_cases c : i = 7
      · subst c
        exact p7
      · exact all7 i (by omega), fun q => by omega, rfl⟩
end
