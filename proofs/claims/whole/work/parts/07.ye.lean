/-! ===== days without a name ===== -/
def rk (Q : Nat → Prop) : Nat → Nat → Prop
  | 0, d => d = 0
  | t + 1, d => d = 0 ∨ ∃ s, Q s ∧ s ≤ d ∧ rk Q t (d - s)
def qS (Q : Nat → Prop) (s : Nat) : Nat → Prop := fun x => Q x ∨ x = s
theorem rk_mono {Q Q' : Nat → Prop} (h : ∀ x, Q x → Q' x) : ∀ {t d : Nat}, rk Q t d → rk Q' t d := by
  intro t
  induction t with
  | zero =>
    intro d q
    exact q
  | succ t ih =>
    intro d q
    rcases q with q | ⟨s, s1, s2, s3⟩
    · exact Or.inl q
    · exact Or.inr ⟨s, h s s1, s2, ih s3⟩
theorem rk_congr {Q Q' : Nat → Prop} (h : ∀ x, Q x ↔ Q' x) {t d : Nat} : rk Q t d ↔ rk Q' t d := ⟨rk_mono (fun x => (h x).mp), rk_mono (fun x => (h x).mpr)⟩
theorem rk_zero (Q : Nat → Prop) (t : Nat) : rk Q t 0 := by
  cases t with
  | zero => rfl
  | succ t => exact Or.inl rfl
theorem rk_small {Q : Nat → Prop} {s : Nat} : ∀ {t d : Nat}, d < s → (rk (qS Q s) t d ↔ rk Q t d) := by
  intro t
  induction t with
  | zero =>
    intro d _
    exact Iff.rfl
  | succ t ih =>
    intro d hd
    constructor
    · rintro (q | ⟨x, x1, x2, x3⟩)
      · exact Or.inl q
      · rcases x1 with x1 | x1
        · exact Or.inr ⟨x, x1, x2, (ih (by omega)).mp x3⟩
        · omega
    · exact rk_mono (fun x q => Or.inl q)
theorem rk_step {Q : Nat → Prop} {s : Nat} : ∀ {t d : Nat}, s ≤ d → (rk (qS Q s) t d ↔ (rk Q t d ∨ ∃ t', t = t' + 1 ∧ rk (qS Q s) t' (d - s))) := by
  intro t
  induction t with
  | zero =>
    intro d hd
    constructor
    · exact Or.inl
    · rintro (q | ⟨t', t1, _⟩)
      · exact q
      · omega
  | succ t ih =>
    intro d hd
    constructor
    · rintro (q | ⟨x, x1, x2, x3⟩)
      · exact Or.inl (Or.inl q)
      · rcases x1 with x1 | x1
        · by_cases c : s ≤ d - x
          · rcases (ih c).mp x3 with q | ⟨t', t1, q⟩
            · exact Or.inl (Or.inr ⟨x, x1, x2, q⟩)
            · refine Or.inr ⟨t, rfl, ?_⟩
              rw [t1]
              exact Or.inr ⟨x, Or.inl x1, by omega, by rw [show d - s - x = d - x - s by omega]; exact q⟩
          · exact Or.inl (Or.inr ⟨x, x1, x2, (rk_small (by omega)).mp x3⟩)
        · exact Or.inr ⟨t, rfl, by rw [x1] at x3; exact x3⟩
    · rintro (q | ⟨t', t1, q⟩)
      · exact rk_mono (fun x q => Or.inl q) q
      · have e : t = t' := by omega
        subst e
        exact Or.inr ⟨s, Or.inr rfl, hd, q⟩
def zFe (few : Nat → Int32) (F : Nat → Nat) : Prop := ∀ d, d ≤ 400 → few d = nI (F d) ∧ F d ≤ 4
def zFq (F : Nat → Nat) (Q : Nat → Prop) : Prop := ∀ d, d ≤ 400 → ∀ t, t ≤ 3 → (F d ≤ t ↔ rk Q t d)
theorem ap_loop (N s : Nat) (hs : 1 ≤ s) (hs2 : s ≤ 2000) {Q : Nat → Prop} (K : (Nat → Int32) → Option (Nat → Int32)) : ∀ (n e f : Nat) (few : Nat → Int32) (F : Nat → Nat), 401 ≤ e + n → s ≤ e → e ≤ 2000 → n < f → zFe few F → (∀ d, d ≤ 400 → ∀ t, t ≤ 3 → (F d ≤ t ↔ (d < e ∧ rk (qS Q s) t d) ∨ (e ≤ d ∧ rk Q t d))) → ∃ few' F', f_X2_addPart_L2 N K (nI s) f (nI e) few = K few' ∧ zFe few' F' ∧ zFq F' (qS Q s) := by
  intro n
  induction n with
  | zero =>
    intro e f few F he hse he2 hf h1 h2
    obtain ⟨f', rfl⟩ : ∃ f', f = f' + 1 := ⟨f - 1, by omega⟩
    rw [f_X2_addPart_L2_s, if_pos (show (400 : Int32) < nI e from nI_lt (a := 400) (by omega) (by omega))]
    refine ⟨few, F, rfl, h1, fun d hd t ht => (h2 d hd t ht).trans ⟨fun q => ?_, fun q => Or.inl ⟨by omega, q⟩⟩⟩
    rcases q with q | q
    · exact q.2
    · omega
  | succ n ih =>
    intro e f few F he hse he2 hf h1 h2
    obtain ⟨f', rfl⟩ : ∃ f', f = f' + 1 := ⟨f - 1, by omega⟩
    by_cases c : 400 < e
    · exact ih e (f' + 1) few F (by omega) hse he2 (by omega) h1 h2
    · obtain ⟨a1, a2⟩ := h1 e (by omega)
      obtain ⟨b1, b2⟩ := h1 (e - s) (by omega)
      rw [f_X2_addPart_L2_s, if_neg (show ¬ (400 : Int32) < nI e from nI_nlt (a := 400) (by omega) (by decide)), zl_gd (zl_inN (show e < 401 by omega) (by decide)), pk_sub hse, zl_gd (zl_inN (show e - s < 401 by omega) (by decide)), zl_let, zl_let, nI_1, zl_cl (show e < 2 ^ 31 by omega), zl_cl (show e - s < 2 ^ 31 by omega), a1, b1, nI_1]
      have emin : (if nI (F (e - s) + 1) < nI (F e) then nI (F (e - s) + 1) else nI (F e)) = nI (if F (e - s) + 1 < F e then F (e - s) + 1 else F e) := by
        by_cases q : F (e - s) + 1 < F e
        · rw [if_pos (nI_lt q (by omega)), if_pos q]
        · rw [if_neg (nI_nlt (by omega) (by omega)), if_neg q]
      rw [emin]
      refine ih (e + 1) f' _ (nup F e (if F (e - s) + 1 < F e then F (e - s) + 1 else F e)) (by omega) (by omega) (by omega) (by omega) (fun d hd => ?_) (fun d hd t ht => ?_)
      · by_cases q : d = e
        · subst q
          rw [pk_us, nup_s]
          refine ⟨rfl, ?_⟩
          by_cases q : F (d - s) + 1 < F d
          · rw [if_pos q]
            omega
          · rw [if_neg q]
            exact a2
        · rw [pk_un q, nup_n q]
          exact h1 d hd
      · by_cases q : d = e
        · subst q
          rw [nup_s]
          have w1 := h2 d hd t ht
          have w2 : (if F (d - s) + 1 < F d then F (d - s) + 1 else F d) ≤ t ↔ (F d ≤ t ∨ F (d - s) + 1 ≤ t) := by
            by_cases q : F (d - s) + 1 < F d
            · rw [if_pos q]
              omega
            · rw [if_neg q]
              omega
          rw [w2, w1]
          constructor
          · rintro ((q | q) | q)
            · omega
            · exact Or.inl ⟨by omega, rk_mono (fun x r => Or.inl r) q.2⟩
            · obtain ⟨t', rfl⟩ : ∃ t', t = t' + 1 := ⟨t - 1, by omega⟩
              have w3 := (h2 (d - s) (by omega) t' (by omega)).mp (by omega)
              refine Or.inl ⟨by omega, (rk_step hse).mpr (Or.inr ⟨t', rfl, ?_⟩)⟩
              rcases w3 with w3 | w3
              · exact w3.2
              · omega
          · rintro (q | q)
            · rcases (rk_step hse).mp q.2 with r | ⟨t', t1, r⟩
              · exact Or.inl (Or.inr ⟨Nat.le_refl _, r⟩)
              · have w3 := (h2 (d - s) (by omega) t' (by omega)).mpr (Or.inl ⟨by omega, r⟩)
                exact Or.inr (by omega)
            · omega
        · rw [nup_n q, h2 d hd t ht]
          constructor
          · rintro (r | r)
            · exact Or.inl ⟨by omega, r.2⟩
            · exact Or.inr ⟨by omega, r.2⟩
          · rintro (r | r)
            · exact Or.inl ⟨by omega, r.2⟩
            · exact Or.inr ⟨by omega, r.2⟩
theorem ap_eq (N s : Nat) (hN : 100000 ≤ N) (hs : 1 ≤ s) (hs2 : s ≤ 2000) {Q : Nat → Prop} {few : Nat → Int32} {F : Nat → Nat} (h1 : zFe few F) (h2 : zFq F Q) : ∃ few' F', f_X2_addPart N few (nI s) = some few' ∧ zFe few' F' ∧ zFq F' (qS Q s) := by
  unfold f_X2_addPart
  rw [zl_let]
  refine ap_loop N s hs hs2 (fun t => some t) 401 s N few F (by omega) (Nat.le_refl _) hs2 (by omega) h1 (fun d hd t ht => (h2 d hd t ht).trans ?_)
  by_cases c : d < s
  · constructor
    · exact fun q => Or.inl ⟨c, (rk_small c).mpr q⟩
    · rintro (q | q)
      · exact (rk_small c).mp q.2
      · omega
  · constructor
    · exact fun q => Or.inr ⟨by omega, q⟩
    · rintro (q | q)
      · omega
      · exact q.2
def qW (a : AW) (i : Nat) : Nat → Prop := fun s => ∃ j, j < i ∧ aB a (aS a j) = true ∧ aSum a (aS a j) = s
theorem me_loop (N : Nat) (hN : 100000 ≤ N) {a : AW} {num : Nat → Int32} {syl : Nat → Int64} (hok : zOK a) (hn : ∀ i, i < 26 → num i = nI (aN a i)) (hs : ∀ i, i < aSC a → syl i = lN (aS a i)) (K : (Nat → Int32) → Option (Nat → Int32)) : ∀ (d i f : Nat) (few : Nat → Int32) (F : Nat → Nat), i + d = aSC a → d < f → zFe few F → zFq F (qW a i) → ∃ few' F', f_X2_measure_L24 N K num syl (nI (aSC a)) f (nI i) few = K few' ∧ zFe few' F' ∧ zFq F' (qW a (aSC a)) := by
  have hsc : aSC a ≤ 10 := hok.2.1
  intro d
  induction d with
  | zero =>
    intro i f few F hi hf h1 h2
    obtain ⟨f', rfl⟩ : ∃ f', f = f' + 1 := ⟨f - 1, by omega⟩
    rw [f_X2_measure_L24_s, if_pos (nI_le (by omega) (by omega))]
    rw [show i = aSC a by omega] at h2
    exact ⟨few, F, rfl, h1, h2⟩
  | succ d ih =>
    intro i f few F hi hf h1 h2
    obtain ⟨f', rfl⟩ : ∃ f', f = f' + 1 := ⟨f - 1, by omega⟩
    have hi3 : i < aSC a := by omega
    have hsy : isSy a (aS a i) := ⟨i, hi3, rfl⟩
    have hlt := sy_lt hok hsy
    have h9 : aS a i < 27 ^ 9 := by rw [p27]; omega
    have h63 : aS a i < 2 ^ 63 := by omega
    have e1 := si_eq N hN hok hn h9 (sy_D hok hsy)
    have hsum := aSum_le hok h63
    rw [f_X2_measure_L24_s, if_neg (nI_ge hi3 (by omega)), zl_gd (zl_inN (show i < 10 by omega) (by decide)), zl_cl (by omega), hs i hi3]
    cases c : aB a (aS a i) with
    | false =>
      rw [c] at e1
      rw [zl_b1 (show f_X5_sumInNames N num (lN (aS a i)) = some 0 from e1), zl_let, if_pos (show (0 : Int32) ≤ 0 by decide)]
      dsimp only
      rw [zl_let, nI_1]
      refine ih (i + 1) f' few F (by omega) (by omega) h1 (fun d hd t ht => (h2 d hd t ht).trans (rk_congr (fun x => ?_)))
      constructor
      · rintro ⟨j, j1, j2⟩
        exact ⟨j, by omega, j2⟩
      · rintro ⟨j, j1, j2, j3⟩
        refine ⟨j, ?_, j2, j3⟩
        by_cases e : j = i
        · rw [e, c] at j2
          cases j2
        · omega
    | true =>
      rw [c, if_pos rfl] at e1
      have hp := aSum_pos hlt.1 h63 c
      obtain ⟨few1, F1, q1, q2, q3⟩ := ap_eq N (aSum a (aS a i)) hN hp (by omega) h1 h2
      rw [zl_b1 e1, zl_let, if_neg (nI_nle hp (by omega)), zl_b1 q1]
      dsimp only
      rw [zl_let, nI_1]
      refine ih (i + 1) f' few1 F1 (by omega) (by omega) q2 (fun d hd t ht => (q3 d hd t ht).trans (rk_congr (fun x => ?_)))
      constructor
      · rintro (⟨j, j1, j2⟩ | e)
        · exact ⟨j, by omega, j2⟩
        · exact ⟨i, by omega, c, e.symm⟩
      · rintro ⟨j, j1, j2, j3⟩
        by_cases e : j = i
        · rw [e] at j3
          exact Or.inr j3.symm
        · exact Or.inl ⟨j, by omega, j2, j3⟩
theorem me2 (N : Nat) (K : (Nat → Int32) → Option (Nat → Int32)) : ∀ (n d f : Nat) (few : Nat → Int32), d + n = 401 → n < f → (∀ x, 1 ≤ x → x < d → few x = 4) → ∃ few', f_X2_measure_L2 N K f (nI d) few = K few' ∧ (∀ x, 1 ≤ x → x ≤ 400 → few' x = 4) ∧ (1 ≤ d → few' 0 = few 0) := by
  intro n
  induction n with
  | zero =>
    intro d f few hd hf h
    obtain ⟨f', rfl⟩ : ∃ f', f = f' + 1 := ⟨f - 1, by omega⟩
    rw [f_X2_measure_L2_s, if_pos (show (400 : Int32) < nI d from nI_lt (a := 400) (by omega) (by omega))]
    exact ⟨few, rfl, fun x h1 h2 => h x h1 (by omega), fun _ => rfl⟩
  | succ n ih =>
    intro d f few hd hf h
    obtain ⟨f', rfl⟩ : ∃ f', f = f' + 1 := ⟨f - 1, by omega⟩
    rw [f_X2_measure_L2_s, if_neg (show ¬ (400 : Int32) < nI d from nI_nlt (a := 400) (by omega) (by decide)), zl_gd (zl_inN (show d < 401 by omega) (by decide)), zl_let, zl_let, nI_1, zl_cl (show d < 2 ^ 31 by omega)]
    obtain ⟨few', q1, q2, q3⟩ := ih (d + 1) f' (upd few d 4) (by omega) (by omega) (fun x h1 h2 => by
      by_cases e : x = d
      · rw [e, pk_us]
      · rw [pk_un e]
        exact h x h1 (by omega))
    exact ⟨few', q1, q2, fun h1 => by rw [q3 (by omega), pk_un (by omega)]⟩
theorem me_eq (N : Nat) (hN : 100000 ≤ N) {a : AW} {num : Nat → Int32} {syl : Nat → Int64} (hok : zOK a) (hn : ∀ i, i < 26 → num i = nI (aN a i)) (hs : ∀ i, i < aSC a → syl i = lN (aS a i)) {few : Nat → Int32} (h0 : few 0 = 0) : ∃ few' F', f_X2_measure N few num syl (nI (aSC a)) = some few' ∧ zFe few' F' ∧ zFq F' (qW a (aSC a)) := by
  have hsc : aSC a ≤ 10 := hok.2.1
  unfold f_X2_measure
  rw [zl_let]
  obtain ⟨few1, q1, q2, q3⟩ := me2 N (fun (t_fewest_8 : Nat → Int32) => zz_let (fun (t_fewest_20 : Nat → Int32) => (some t_fewest_20)) (fun k_9 => f_X2_measure_L24 N k_9 num syl (nI (aSC a)) N (0 : Int32) t_fewest_8)) 400 1 N few (by omega) (by omega) (fun x h1 h2 => by omega)
  rw [show f_X2_measure_L2 N _ N 1 few = _ from q1, zl_let]
  refine me_loop N hN hok hn hs (fun t => some t) (aSC a) 0 N few1 (nup (fun _ => 4) 0 0) (by omega) (by omega) (fun d hd => ?_) (fun d hd t ht => ?_)
  · by_cases e : d = 0
    · rw [e, q3 (by omega), h0, nup_s]
      exact ⟨rfl, by omega⟩
    · rw [q2 d (by omega) hd, nup_n e]
      exact ⟨rfl, by omega⟩
  · by_cases e : d = 0
    · rw [e, nup_s]
      exact ⟨fun _ => rk_zero _ _, fun _ => Nat.zero_le _⟩
    · rw [nup_n e]
      constructor
      · intro q
        omega
      · intro q
        cases t with
        | zero => exact absurd q e
        | succ t =>
          rcases q with q | ⟨s, ⟨j, j1, _⟩, _⟩
          · exact absurd q e
          · omega
/-! ===== marks ===== -/
theorem mk_eq (N : Nat) (nm : Nat → Int32) {x : Nat} (hx : x < 2 ^ 31) : ∃ nm', f_X7_mark N nm (nI x) = some nm' ∧ ∀ d, d ≤ 400 → (nm' d = 0 ↔ (nm d = 0 ∧ d ≠ x)) := by
  unfold f_X7_mark
  by_cases c : 401 ≤ x
  · rw [if_pos (show (401 : Int32) ≤ nI x from nI_le (a := 401) c hx)]
    exact ⟨nm, rfl, fun d hd => ⟨fun q => ⟨q, by omega⟩, fun q => q.1⟩⟩
  · rw [if_neg (show ¬ (401 : Int32) ≤ nI x from nI_ge (b := 401) (by omega) (by decide)), zl_gd (zl_inN (show x < 401 by omega) (by decide)), zl_let, zl_cl hx]
    refine ⟨_, rfl, fun d hd => ?_⟩
    by_cases e : d = x
    · rw [e, pk_us]
      exact ⟨fun q => absurd q (by decide), fun q => absurd rfl q.2⟩
    · rw [pk_un e]
      exact ⟨fun q => ⟨q, e⟩, fun q => q.1⟩
theorem nm68 (N : Nat) {sums : Nat → Int32} {S : Nat → Nat} {M : Nat} (hM : M ≤ 11) (hS : ∀ k, k < M → sums k = nI (S k) ∧ S k ≤ 2000) {i j : Nat} (hi : i < M) (hj : j ≤ i) (K : (Nat → Int32) → Option (Nat → Int32)) : ∀ (n k f : Nat) (nm : Nat → Int32), k + n = j + 1 → n < f → ∃ nm', f_X7_layNamed_L68 N K sums (nI i) (nI j) f (nI k) nm = K nm' ∧ ∀ d, d ≤ 400 → (nm' d = 0 ↔ (nm d = 0 ∧ ∀ k', k ≤ k' → k' ≤ j → d ≠ S i + S j + S k')) := by
  intro n
  induction n with
  | zero =>
    intro k f nm hk hf
    obtain ⟨f', rfl⟩ : ∃ f', f = f' + 1 := ⟨f - 1, by omega⟩
    rw [f_X7_layNamed_L68_s, if_pos (nI_lt (by omega) (by omega))]
    exact ⟨nm, rfl, fun d hd => ⟨fun q => ⟨q, fun k' h1 h2 => by omega⟩, fun q => q.1⟩⟩
  | succ n ih =>
    intro k f nm hk hf
    obtain ⟨f', rfl⟩ : ∃ f', f = f' + 1 := ⟨f - 1, by omega⟩
    obtain ⟨a1, a2⟩ := hS i hi
    obtain ⟨b1, b2⟩ := hS j (by omega)
    obtain ⟨c1, c2⟩ := hS k (by omega)
    obtain ⟨nm1, m1, m2⟩ := mk_eq N nm (x := S i + S j + S k) (by omega)
    rw [f_X7_layNamed_L68_s, if_neg (nI_nlt (by omega) (by omega)), zl_gd (zl_inN (show k < 11 by omega) (by decide)), zl_cl (show k < 2 ^ 31 by omega), zl_cl (show i < 2 ^ 31 by omega), zl_cl (show j < 2 ^ 31 by omega), a1, b1, c1, nI_add, nI_add, zl_b1 m1, zl_let, nI_1]
    obtain ⟨nm', q1, q2⟩ := ih (k + 1) f' nm1 (by omega) (by omega)
    refine ⟨nm', q1, fun d hd => ?_⟩
    rw [q2 d hd, m2 d hd]
    constructor
    · rintro ⟨⟨r1, r2⟩, r3⟩
      refine ⟨r1, fun k' h1 h2 => ?_⟩
      by_cases e : k' = k
      · rw [e]
        exact r2
      · exact r3 k' (by omega) h2
    · rintro ⟨r1, r2⟩
      exact ⟨⟨r1, r2 k (Nat.le_refl _) (by omega)⟩, fun k' h1 h2 => r2 k' (by omega) h2⟩
theorem nm44 (N : Nat) (hN : 100000 ≤ N) {sums : Nat → Int32} {S : Nat → Nat} {M : Nat} (hM : M ≤ 11) (hS : ∀ k, k < M → sums k = nI (S k) ∧ S k ≤ 2000) {i : Nat} (hi : i < M) (K : (Nat → Int32) → Option (Nat → Int32)) : ∀ (n j f : Nat) (nm : Nat → Int32), j + n = i + 1 → n < f → ∃ nm', f_X7_layNamed_L44 N K sums (nI i) f (nI j) nm = K nm' ∧ ∀ d, d ≤ 400 → (nm' d = 0 ↔ (nm d = 0 ∧ ∀ j', j ≤ j' → j' ≤ i → d ≠ S i + S j' ∧ ∀ k', k' ≤ j' → d ≠ S i + S j' + S k')) := by
  intro n
  induction n with
  | zero =>
    intro j f nm hj hf
    obtain ⟨f', rfl⟩ : ∃ f', f = f' + 1 := ⟨f - 1, by omega⟩
    rw [f_X7_layNamed_L44_s, if_pos (nI_lt (by omega) (by omega))]
    exact ⟨nm, rfl, fun d hd => ⟨fun q => ⟨q, fun k' h1 h2 => by omega⟩, fun q => q.1⟩⟩
  | succ n ih =>
    intro j f nm hj hf
    obtain ⟨f', rfl⟩ : ∃ f', f = f' + 1 := ⟨f - 1, by omega⟩
    obtain ⟨a1, a2⟩ := hS i hi
    obtain ⟨b1, b2⟩ := hS j (by omega)
    obtain ⟨nm1, m1, m2⟩ := mk_eq N nm (x := S i + S j) (by omega)
    rw [f_X7_layNamed_L44_s, if_neg (nI_nlt (by omega) (by omega)), zl_gd (zl_inN (show j < 11 by omega) (by decide)), zl_cl (show i < 2 ^ 31 by omega), zl_cl (show j < 2 ^ 31 by omega), a1, b1, nI_add, zl_b1 m1, zl_let]
    obtain ⟨nm2, p1, p2⟩ := nm68 N hM hS hi (show j ≤ i by omega) (fun (t_named_28 : Nat → Int32) => zz_let (nI j + (1 : Int32)) (fun v2_29 => (f_X7_layNamed_L44 N K sums (nI i) f' v2_29 t_named_28))) (j + 1) 0 N nm1 (by omega) (by omega)
    rw [show f_X7_layNamed_L68 N _ sums (nI i) (nI j) N 0 nm1 = _ from p1, zl_let, nI_1]
    obtain ⟨nm', q1, q2⟩ := ih (j + 1) f' nm2 (by omega) (by omega)
    refine ⟨nm', q1, fun d hd => ?_⟩
    rw [q2 d hd, p2 d hd, m2 d hd]
    constructor
    · rintro ⟨⟨⟨r1, r2⟩, r3⟩, r4⟩
      refine ⟨r1, fun j' h1 h2 => ?_⟩
      by_cases e : j' = j
      · rw [e]
        exact ⟨r2, fun k' hk => r3 k' (by omega) hk⟩
      · exact r4 j' (by omega) h2
    · rintro ⟨r1, r2⟩
      have r3 := r2 j (Nat.le_refl _) (by omega)
      exact ⟨⟨⟨r1, r3.1⟩, fun k' _ hk => r3.2 k' hk⟩, fun j' h1 h2 => r2 j' (by omega) h2⟩
theorem nm24 (N : Nat) (hN : 100000 ≤ N) {sums : Nat → Int32} {S : Nat → Nat} {M : Nat} (hM : M ≤ 11) (hS : ∀ k, k < M → sums k = nI (S k) ∧ S k ≤ 2000) (K : (Nat → Int32) → Option (Nat → Int32)) : ∀ (n i f : Nat) (nm : Nat → Int32), i + n = M → n < f → ∃ nm', f_X7_layNamed_L24 N K sums (nI M) f (nI i) nm = K nm' ∧ ∀ d, d ≤ 400 → (nm' d = 0 ↔ (nm d = 0 ∧ ∀ i', i ≤ i' → i' < M → d ≠ S i' ∧ ∀ j', j' ≤ i' → d ≠ S i' + S j' ∧ ∀ k', k' ≤ j' → d ≠ S i' + S j' + S k')) := by
  intro n
  induction n with
  | zero =>
    intro i f nm hi hf
    obtain ⟨f', rfl⟩ : ∃ f', f = f' + 1 := ⟨f - 1, by omega⟩
    rw [f_X7_layNamed_L24_s, if_pos (nI_le (by omega) (by omega))]
    exact ⟨nm, rfl, fun d hd => ⟨fun q => ⟨q, fun k' h1 h2 => by omega⟩, fun q => q.1⟩⟩
  | succ n ih =>
    intro i f nm hi hf
    obtain ⟨f', rfl⟩ : ∃ f', f = f' + 1 := ⟨f - 1, by omega⟩
    obtain ⟨a1, a2⟩ := hS i (by omega)
    obtain ⟨nm1, m1, m2⟩ := mk_eq N nm (x := S i) (by omega)
    rw [f_X7_layNamed_L24_s, if_neg (nI_ge (by omega) (by omega)), zl_gd (zl_inN (show i < 11 by omega) (by decide)), zl_cl (show i < 2 ^ 31 by omega), a1, zl_b1 m1, zl_let]
    obtain ⟨nm2, p1, p2⟩ := nm44 N hN hM hS (show i < M by omega) (fun (t_named_30 : Nat → Int32) => zz_let (nI i + (1 : Int32)) (fun v1_31 => (f_X7_layNamed_L24 N K sums (nI M) f' v1_31 t_named_30))) (i + 1) 0 N nm1 (by omega) (by omega)
    rw [show f_X7_layNamed_L44 N _ sums (nI i) N 0 nm1 = _ from p1, zl_let, nI_1]
    obtain ⟨nm', q1, q2⟩ := ih (i + 1) f' nm2 (by omega) (by omega)
    refine ⟨nm', q1, fun d hd => ?_⟩
    rw [q2 d hd, p2 d hd, m2 d hd]
    constructor
    · rintro ⟨⟨⟨r1, r2⟩, r3⟩, r4⟩
      refine ⟨r1, fun j' h1 h2 => ?_⟩
      by_cases e : j' = i
      · rw [e]
        exact ⟨r2, fun k' hk => r3 k' (by omega) hk⟩
      · exact r4 j' (by omega) h2
    · rintro ⟨r1, r2⟩
      have r3 := r2 i (Nat.le_refl _) (by omega)
      exact ⟨⟨⟨r1, r3.1⟩, fun k' _ hk => r3.2 k' hk⟩, fun j' h1 h2 => r2 j' (by omega) h2⟩
theorem nm2_ (N : Nat) (K : (Nat → Int32) → Option (Nat → Int32)) : ∀ (n d f : Nat) (nm : Nat → Int32), d + n = 401 → n < f → (∀ x, x < d → nm x = 0) → ∃ nm', f_X7_layNamed_L2 N K f (nI d) nm = K nm' ∧ ∀ x, x ≤ 400 → nm' x = 0 := by
  intro n
  induction n with
  | zero =>
    intro d f nm hd hf h
    obtain ⟨f', rfl⟩ : ∃ f', f = f' + 1 := ⟨f - 1, by omega⟩
    rw [f_X7_layNamed_L2_s, if_pos (show (401 : Int32) ≤ nI d from nI_le (a := 401) (by omega) (by omega))]
    exact ⟨nm, rfl, fun x h1 => h x (by omega)⟩
  | succ n ih =>
    intro d f nm hd hf h
    obtain ⟨f', rfl⟩ : ∃ f', f = f' + 1 := ⟨f - 1, by omega⟩
    rw [f_X7_layNamed_L2_s, if_neg (show ¬ (401 : Int32) ≤ nI d from nI_ge (b := 401) (by omega) (by decide)), zl_gd (zl_inN (show d < 401 by omega) (by decide)), zl_let, zl_let, nI_1, zl_cl (show d < 2 ^ 31 by omega)]
    refine ih (d + 1) f' (upd nm d 0) (by omega) (by omega) (fun x h1 => ?_)
    by_cases e : x = d
    · rw [e, pk_us]
    · rw [pk_un e]
      exact h x (by omega)
theorem rk3 {Q : Nat → Prop} {d : Nat} : rk Q 3 d ↔ (d = 0 ∨ (∃ x, Q x ∧ d = x) ∨ (∃ x y, Q x ∧ Q y ∧ d = x + y) ∨ ∃ x y z, Q x ∧ Q y ∧ Q z ∧ d = x + y + z) := by
  constructor
  · rintro (q | ⟨x, x1, x2, q | ⟨y, y1, y2, q | ⟨z, z1, z2, q⟩⟩⟩)
    · exact Or.inl q
    · exact Or.inr (Or.inl ⟨x, x1, by omega⟩)
    · exact Or.inr (Or.inr (Or.inl ⟨x, y, x1, y1, by omega⟩))
    · replace q : d - x - y - z = 0 := q
      exact Or.inr (Or.inr (Or.inr ⟨x, y, z, x1, y1, z1, by omega⟩))
  · rintro (q | ⟨x, x1, q⟩ | ⟨x, y, x1, y1, q⟩ | ⟨x, y, z, x1, y1, z1, q⟩)
    · exact Or.inl q
    · exact Or.inr ⟨x, x1, by omega, Or.inl (by omega)⟩
    · exact Or.inr ⟨x, x1, by omega, Or.inr ⟨y, y1, by omega, Or.inl (by omega)⟩⟩
    · exact Or.inr ⟨x, x1, by omega, Or.inr ⟨y, y1, by omega, Or.inr ⟨z, z1, by omega, by show d - x - y - z = 0; omega⟩⟩⟩
theorem lnd_eq (N : Nat) (hN : 100000 ≤ N) {sums : Nat → Int32} {S : Nat → Nat} {M : Nat} {Q : Nat → Prop} (hM : M ≤ 11) (hS : ∀ k, k < M → sums k = nI (S k) ∧ S k ≤ 2000) (hQ : ∀ x, Q x ↔ ∃ k, k < M ∧ S k = x) (nm : Nat → Int32) : ∃ nm', f_X7_layNamed N sums (nI M) nm = some nm' ∧ ∀ d, 1 ≤ d → d ≤ 400 → (nm' d = 0 ↔ ¬ rk Q 3 d) := by
  unfold f_X7_layNamed
  rw [zl_let]
  obtain ⟨nm1, q1, q2⟩ := nm2_ N (fun (t_named_8 : Nat → Int32) => zz_let (fun (t_named_32 : Nat → Int32) => (some t_named_32)) (fun k_9 => f_X7_layNamed_L24 N k_9 sums (nI M) N (0 : Int32) t_named_8)) 401 0 N nm (by omega) (by omega) (fun x h => by omega)
  rw [show f_X7_layNamed_L2 N _ N 0 nm = _ from q1, zl_let]
  obtain ⟨nm', p1, p2⟩ := nm24 N hN hM hS (fun t => some t) M 0 N nm1 (by omega) (by omega)
  refine ⟨nm', p1, fun d hd1 hd => ?_⟩
  rw [p2 d hd, rk3]
  constructor
  · rintro ⟨_, r⟩ (w | ⟨x, x1, w⟩ | ⟨x, y, x1, y1, w⟩ | ⟨x, y, z, x1, y1, z1, w⟩)
    · omega
    · obtain ⟨i, i1, i2⟩ := (hQ x).mp x1
      exact (r i (by omega) i1).1 (by omega)
    · obtain ⟨i, i1, i2⟩ := (hQ x).mp x1
      obtain ⟨j, j1, j2⟩ := (hQ y).mp y1
      by_cases c : j ≤ i
      · exact ((r i (by omega) i1).2 j c).1 (by omega)
      · exact ((r j (by omega) j1).2 i (by omega)).1 (by omega)
    · obtain ⟨i, i1, i2⟩ := (hQ x).mp x1
      obtain ⟨j, j1, j2⟩ := (hQ y).mp y1
      obtain ⟨k, k1, k2⟩ := (hQ z).mp z1
      have key : ∀ i j k, i < M → j ≤ i → k ≤ j → d ≠ S i + S j + S k := fun i j k h1 h2 h3 => ((r i (by omega) h1).2 j h2).2 k h3
      by_cases c1 : j ≤ i
      · by_cases c2 : k ≤ j
        · exact key i j k i1 c1 c2 (by omega)
        · by_cases c3 : k ≤ i
          · exact key i k j i1 c3 (by omega) (by omega)
          · exact key k i j k1 (by omega) c1 (by omega)
      · by_cases c2 : k ≤ i
        · exact key j i k j1 (by omega) c2 (by omega)
        · by_cases c3 : k ≤ j
          · exact key j k i j1 c3 (by omega) (by omega)
          · exact key k j i k1 (by omega) (by omega) (by omega)
  · intro r
    refine ⟨q2 d hd, fun i _ i1 => ⟨fun e => r (Or.inr (Or.inl ⟨S i, (hQ _).mpr ⟨i, i1, rfl⟩, e⟩)), fun j j1 => ⟨fun e => r (Or.inr (Or.inr (Or.inl ⟨S i, S j, (hQ _).mpr ⟨i, i1, rfl⟩, (hQ _).mpr ⟨j, by omega, rfl⟩, e⟩))), fun k k1 e => r (Or.inr (Or.inr (Or.inr ⟨S i, S j, S k, (hQ _).mpr ⟨i, i1, rfl⟩, (hQ _).mpr ⟨j, by omega, rfl⟩, (hQ _).mpr ⟨k, by omega, rfl⟩, e⟩)))⟩⟩⟩
