/-! ===== distances: the rounds of both programs ===== -/
def frI : Option Nat → Int32
  | none => -1
  | some n => nI n
theorem nI_par {x y : Nat} (hx : x < 2 ^ 20) (hy : y < 2 ^ 20) : nI x - 1 = nI y ↔ x = y + 1 := by
  rw [fa_eq, show (1 : Int32) = nI 1 from rfl, pk_sub_toInt (by omega) (by omega), nI_toInt (by omega)]
  omega
theorem nI_par2 {x y : Nat} (hx : x < 2 ^ 20) (hy : y < 2 ^ 20) : nI x - 1 = nI y - 1 ↔ x = y := by
  rw [fa_eq, show (1 : Int32) = nI 1 from rfl, pk_sub_toInt (by omega) (by omega), pk_sub_toInt (by omega) (by omega)]
  omega
theorem fr_zero {a : AW} {p x : Nat} : (fr a p 0 x).isSome = true ↔ x = p := by
  unfold fr
  by_cases e : x = p
  · rw [if_pos e]
    exact ⟨fun _ => e, fun _ => rfl⟩
  · rw [if_neg e]
    exact ⟨fun q => by (cases q), fun q => absurd q e⟩
theorem fr_set {a : AW} {p d : Nat} (hok : zOK a) (hp : p < aPC a) (x : Nat) : oS a (fun y => (fr a p d y).isSome = true) (aPC a) x ↔ (fr a p (d + 1) x).isSome = true := by
  have hpar := hok.2.2.2.2.2.1
  have hb : ∀ y, (fr a p d y).isSome = true → y < aPC a := fun y hy => by
    obtain ⟨n, hn⟩ := fr_some.mp hy
    exact fr_pc hp d y n hn
  constructor
  · intro h
    have hx : x < aPC a := by
      rcases h with h | ⟨q, q1, q2, h | h⟩
      · exact hb x h
      · omega
      · have := (hpar q q1).2.2.2
        omega
    rw [fr_step hx]
    rcases h with h | ⟨q, q1, q2, ⟨e, h | h⟩ | ⟨h, e | e⟩⟩
    · exact Or.inl h
    · exact Or.inr ⟨aP a q - 1, hb _ h, h, Or.inr (Or.inr (Or.inl (by rw [e]; omega)))⟩
    · have := (hpar q q1).2.2.2
      exact Or.inr ⟨aO a q - 1, hb _ h, h, Or.inr (Or.inr (Or.inr (by rw [e]; omega)))⟩
    · exact Or.inr ⟨q, q1, h, Or.inl e.symm⟩
    · exact Or.inr ⟨q, q1, h, Or.inr (Or.inl e.symm)⟩
  · intro h
    have hx : x < aPC a := by
      obtain ⟨n, hn⟩ := fr_some.mp h
      exact fr_pc hp _ x n hn
    rw [fr_step hx] at h
    rcases h with h | ⟨r, r1, r2, e | e | e | e⟩
    · exact Or.inl h
    · exact Or.inr ⟨r, r1, by omega, Or.inr ⟨r2, Or.inl e.symm⟩⟩
    · have := (hpar r r1).2.2.2
      exact Or.inr ⟨r, r1, by omega, Or.inr ⟨r2, Or.inr e.symm⟩⟩
    · exact Or.inr ⟨x, hx, by omega, Or.inl ⟨rfl, Or.inl (by rw [e]; exact r2)⟩⟩
    · have := (hpar x hx).2.2.2
      exact Or.inr ⟨x, hx, by omega, Or.inl ⟨rfl, Or.inr (by rw [e]; exact r2)⟩⟩
def zKin (a : AW) (par oth kin : Nat → Int32) : Prop := ∀ p, p < aPC a → par p = nI (aP a p) - 1 ∧ oth p = nI (aO a p) - 1 ∧ kin p = nI (aK a p)
theorem zKin_of {a : AW} {n1 : Nat → Int32} {n2 : Nat → Int64} {n3 : Int32} {n4 : Nat → Int32} {n5 : Nat → Int64} {n6 n7 n8 : Nat → Int32} {n9 : Int32} {n10 n11 : Nat → Int32} {n12 n13 : Int32} (h : zWA a n1 n2 n3 n4 n5 n6 n7 n8 n9 n10 n11 n12 n13) : zKin a n6 n7 n8 := fun p hp => (h.2.2.2.2.1 p hp).2.2
theorem os_eq (N : Nat) (hN : 100000 ≤ N) {a : AW} {par oth kin : Nat → Int32} (hok : zOK a) (hwa : zKin a par oth kin) {p d : Nat} (hp : p < aPC a) {v : Int32} (hv : zMs v (fun x => (fr a p d x).isSome = true)) : ∃ v', f_X5_oneStepMore N par oth kin (nI (aPC a)) v = some v' ∧ zMs v' (fun x => (fr a p (d + 1) x).isSome = true) := by
  have hpc : aPC a ≤ 16 := hok.2.2.2.2.1
  unfold f_X5_oneStepMore
  rw [zl_let]
  obtain ⟨v', h1, h2⟩ := os_loop N hok hwa v _ hv (fun v2_19 => some v2_19) (aPC a) 0 N v (by omega) (by omega) (fun x hx => by
    rw [hv x hx]
    exact ⟨fun q => Or.inl q, fun q => by
      rcases q with q | ⟨_, q, _⟩
      · exact q
      · omega⟩)
  exact ⟨v', h1, fun x hx => (h2 x hx).trans (fr_set hok hp x)⟩
theorem wi_loop (N : Nat) (hN : 100000 ≤ N) {a : AW} {par oth kin : Nat → Int32} (hok : zOK a) (hwa : zKin a par oth kin) {p D : Nat} (hp : p < aPC a) (hD : D ≤ 16) (k : Int32 → Option Int32) : ∀ (d i f : Nat) (v : Int32), i + d = D → d < f → zMs v (fun x => (fr a p i x).isSome = true) → ∃ v', f_X5_within_L7 N k par oth kin (nI (aPC a)) (nI D) f v (nI i) = k v' ∧ zMs v' (fun x => (fr a p D x).isSome = true) := by
  intro d
  induction d with
  | zero =>
    intro i f v hi hf h
    obtain ⟨f', rfl⟩ : ∃ f', f = f' + 1 := ⟨f - 1, by omega⟩
    refine ⟨v, ?_, by rw [show D = i by omega]; exact h⟩
    rw [f_X5_within_L7_s, if_pos (nI_le (by omega) (by omega))]
  | succ d ih =>
    intro i f v hi hf h
    obtain ⟨f', rfl⟩ : ∃ f', f = f' + 1 := ⟨f - 1, by omega⟩
    obtain ⟨v1, e1, h1⟩ := os_eq N hN hok hwa hp h
    rw [f_X5_within_L7_s, if_neg (nI_ge (by omega) (by omega)), zl_b1 e1, zl_let, nI_1]
    exact ih (i + 1) f' v1 (by omega) (by omega) h1
theorem wi_eq (N : Nat) (hN : 100000 ≤ N) {a : AW} {par oth kin : Nat → Int32} (hok : zOK a) (hwa : zKin a par oth kin) {p D : Nat} (hp : p < aPC a) (hD : D ≤ 16) : ∃ v', f_X5_within N par oth kin (nI (aPC a)) (nI p) (nI D) = some v' ∧ zMs v' (fun x => (fr a p D x).isSome = true) := by
  have hpc : aPC a ≤ 16 := hok.2.2.2.2.1
  unfold f_X5_within
  rw [zl_let, zl_let]
  exact wi_loop N hN hok hwa hp hD (fun v => some v) D 0 N _ (by omega) (by omega) (fun x hx => by
    rw [b_pow (by omega) hx]
    exact fr_zero.symm)
theorem sb_loop (N : Nat) (hN : 100000 ≤ N) {a : AW} {par oth kin : Nat → Int32} (hok : zOK a) (hwa : zKin a par oth kin) {p q : Nat} (hp : p < aPC a) (hq : q < aPC a) : ∀ (d i f : Nat) (v : Int32), i + d = 16 → d < f → zMs v (fun x => (fr a p i x).isSome = true) → (∀ j, j < i → fr a p j q = none) → f_X5_stepsBetween_L7 N (some (-1)) par oth kin (nI (aPC a)) (nI q) f v (nI i) = some (frI (fr a p 16 q)) := by
  have hpc : aPC a ≤ 16 := hok.2.2.2.2.1
  intro d
  induction d with
  | zero =>
    intro i f v hi hf h hn
    obtain ⟨f', rfl⟩ : ∃ f', f = f' + 1 := ⟨f - 1, by omega⟩
    have e : fr a p 16 q = none := by
      cases h1 : fr a p 16 q with
      | none => rfl
      | some n =>
        have h2 := fr_small hp h1
        have h3 := fr_at a p 16 q n h1
        rw [hn n (by omega)] at h3
        cases h3
    rw [f_X5_stepsBetween_L7_s, if_pos (show (16 : Int32) ≤ nI i from nI_le (a := 16) (by omega) (by omega)), e]
    rfl
  | succ d ih =>
    intro i f v hi hf h hn
    obtain ⟨f', rfl⟩ : ∃ f', f = f' + 1 := ⟨f - 1, by omega⟩
    have hb : bt v q = true ↔ (fr a p i q).isSome = true := h q (by omega)
    rw [f_X5_stepsBetween_L7_s, if_neg (show ¬ (16 : Int32) ≤ nI i from nI_ge (b := 16) (by omega) (by omega))]
    cases h1 : fr a p i q with
    | none =>
      rw [h1] at hb
      have hf0 : bt v q = false := by
        cases e : bt v q with
        | false => rfl
        | true => exact absurd (hb.mp e) (by decide)
      obtain ⟨v1, e1, h2⟩ := os_eq N hN hok hwa hp h
      rw [if_pos ((b_test (by omega)).mpr hf0), zl_b1 e1, zl_let, nI_1]
      refine ih (i + 1) f' v1 (by omega) (by omega) h2 (fun j hj => ?_)
      by_cases e : j = i
      · rw [e, h1]
      · exact hn j (by omega)
    | some n =>
      rw [h1] at hb
      have hf1 : bt v q = true := hb.mpr rfl
      have e : n = i := by
        have h2 := fr_le a p i q n h1
        have h3 := fr_at a p i q n h1
        by_cases e : n = i
        · exact e
        · rw [hn n (by omega)] at h3
          cases h3
      rw [if_neg (fun w => by rw [(b_test (by omega)).mp w] at hf1; cases hf1), fr_upto h1 (show i ≤ 16 by omega), e]
      rfl
theorem sb_eq (N : Nat) (hN : 100000 ≤ N) {a : AW} {par oth kin : Nat → Int32} (hok : zOK a) (hwa : zKin a par oth kin) {p q : Nat} (hp : p < aPC a) (hq : q < aPC a) : f_X5_stepsBetween N par oth kin (nI (aPC a)) (nI p) (nI q) = some (frI (fr a p 16 q)) := by
  have hpc : aPC a ≤ 16 := hok.2.2.2.2.1
  unfold f_X5_stepsBetween
  rw [zl_let, zl_let]
  exact sb_loop N hN hok hwa hp hq 16 0 N _ (by omega) (by omega) (fun x hx => by
    rw [b_pow (by omega) hx]
    exact fr_zero.symm) (fun j hj => absurd hj (by omega))
theorem zl_p55 {a : AW} {row : Nat → Int32} {w : Nat → Int64} (hra : zRA a row w 0) {r : Nat} (hr : r < aPC a) : row (39 + r) = nI (aD a r) ∧ row (55 + r) = nI (aP a r) - 1 ∧ row (71 + r) = nI (aO a r) - 1 ∧ w r = lN (aW a r) := by
  have h := hra.2.2.2.2.2.1 r hr
  rw [show 100 * 0 + 39 + r = 39 + r by omega, show 100 * 0 + 55 + r = 55 + r by omega, show 100 * 0 + 71 + r = 71 + r by omega, show 16 * 0 + r = r by omega] at h
  exact h
theorem an_eq (N : Nat) {a : AW} {row : Nat → Int32} {w : Nat → Int64} (hok : zOK a) (hra : zRA a row w 0) {r q : Nat} (hr : r < aPC a) (hq : q < aPC a) : f_X7_areNext N row (nI r) (nI q) = some (if aNx a r q then 1 else 0) := by
  have hpc : aPC a ≤ 16 := hok.2.2.2.2.1
  have br := (hok.2.2.2.2.2.1 r hr).2.2.2
  have bq := (hok.2.2.2.2.2.1 q hq).2.2.2
  obtain ⟨_, r1, r2, _⟩ := zl_p55 hra hr
  obtain ⟨_, q1, q2, _⟩ := zl_p55 hra hq
  unfold f_X7_areNext
  rw [show (55 : Int32) = nI 55 from rfl, show (71 : Int32) = nI 71 from rfl, nI_add, nI_add, nI_add, nI_add, zl_gd (zl_inN (show 55 + r < 300 by omega) (by decide)), zl_gd (zl_inN (show 71 + r < 300 by omega) (by decide)), zl_gd (zl_inN (show 55 + q < 300 by omega) (by decide)), zl_gd (zl_inN (show 71 + q < 300 by omega) (by decide)), zl_cl (show 55 + r < 2 ^ 31 by omega), zl_cl (show 71 + r < 2 ^ 31 by omega), zl_cl (show 55 + q < 2 ^ 31 by omega), zl_cl (show 71 + q < 2 ^ 31 by omega), r1, r2, q1, q2]
  by_cases c1 : aP a r = q + 1
  · rw [if_pos ((nI_par (by omega) (by omega)).mpr c1), if_pos (Or.inl c1)]
  · rw [if_neg (fun e => c1 ((nI_par (by omega) (by omega)).mp e))]
    by_cases c2 : aO a r = q + 1
    · rw [if_pos ((nI_par (by omega) (by omega)).mpr c2), if_pos (Or.inr (Or.inl c2))]
    · rw [if_neg (fun e => c2 ((nI_par (by omega) (by omega)).mp e))]
      by_cases c3 : aP a q = r + 1
      · rw [if_pos ((nI_par (by omega) (by omega)).mpr c3), if_pos (Or.inr (Or.inr (Or.inl c3)))]
      · rw [if_neg (fun e => c3 ((nI_par (by omega) (by omega)).mp e))]
        by_cases c4 : aO a q = r + 1
        · rw [if_pos ((nI_par (by omega) (by omega)).mpr c4), if_pos (Or.inr (Or.inr (Or.inr c4)))]
        · rw [if_neg (fun e => c4 ((nI_par (by omega) (by omega)).mp e)), if_neg (fun e => by
            rcases e with e | e | e | e
            · exact c1 e
            · exact c2 e
            · exact c3 e
            · exact c4 e)]
def lfI (a : AW) (p d k : Nat) (far : Nat → Int32) : Prop := ∀ q, q < 16 → (∀ n, fr a p d q = some n → far q = nI n) ∧ (fr a p d q = none → (q < aPC a ∧ ∃ r, r < aPC a ∧ 16 * r + q < k ∧ fr a p d r = some d ∧ aNx a r q) → far q = nI (d + 1)) ∧ (fr a p d q = none → ¬ (q < aPC a ∧ ∃ r, r < aPC a ∧ 16 * r + q < k ∧ fr a p d r = some d ∧ aNx a r q) → far q = -1)
theorem lf_same {a : AW} {p d k : Nat} {far : Nat → Int32} (h : lfI a p d k far) (hh : ∀ r q, k = 16 * r + q → q < 16 → q < aPC a → r < aPC a → fr a p d r = some d → aNx a r q → fr a p d q = none → far q = nI (d + 1)) : lfI a p d (k + 1) far := by
  intro q hq
  obtain ⟨h1, h2, h3⟩ := h q hq
  refine ⟨h1, fun n0 w => ?_, fun n0 w => h3 n0 (fun x => w ?_)⟩
  · obtain ⟨w1, r, w2, w3, w4, w5⟩ := w
    by_cases e : 16 * r + q = k
    · exact hh r q e.symm hq w1 w2 w4 w5 n0
    · exact h2 n0 ⟨w1, r, w2, by omega, w4, w5⟩
  · obtain ⟨x1, r, x2, x3, x4⟩ := x
    exact ⟨x1, r, x2, by omega, x4⟩
theorem lf_put {a : AW} {p d k r q : Nat} {far : Nat → Int32} (h : lfI a p d k far) (e : k = 16 * r + q) (hq : q < 16) (hq2 : q < aPC a) (hr : r < aPC a) (h1 : fr a p d r = some d) (h2 : aNx a r q) (h3 : fr a p d q = none) : lfI a p d (k + 1) (upd far q (nI (d + 1))) := by
  intro y hy
  by_cases ey : y = q
  · subst ey
    exact ⟨fun n hn => by (rw [h3] at hn; cases hn), fun _ _ => pk_us, fun _ w => absurd ⟨hq2, r, hr, by omega, h1, h2⟩ w⟩
  · obtain ⟨g1, g2, g3⟩ := h y hy
    rw [pk_un ey]
    refine ⟨g1, fun n0 w => ?_, fun n0 w => g3 n0 (fun x => w ?_)⟩
    · obtain ⟨w1, r', w2, w3, w4, w5⟩ := w
      exact g2 n0 ⟨w1, r', w2, by omega, w4, w5⟩
    · obtain ⟨x1, r', x2, x3, x4⟩ := x
      exact ⟨x1, r', x2, by omega, x4⟩
theorem lf_at {a : AW} {p d k : Nat} {far : Nat → Int32} (h : lfI a p d k far) (hd : d ≤ 16) {r : Nat} (hr : r < 16) : far r = nI d ↔ fr a p d r = some d := by
  obtain ⟨h1, h2, h3⟩ := h r hr
  constructor
  · intro e
    cases c : fr a p d r with
    | some n =>
      have := fr_le a p d r n c
      rw [h1 n c, nI_eq (by omega) (by omega)] at e
      rw [e]
    | none =>
      by_cases w : r < aPC a ∧ ∃ r', r' < aPC a ∧ 16 * r' + r < k ∧ fr a p d r' = some d ∧ aNx a r' r
      · rw [h2 c w, nI_eq (by omega) (by omega)] at e
        omega
      · rw [h3 c w] at e
        exact absurd e.symm (zl_nm1 (by omega))
  · exact h1 d
theorem lf_no {a : AW} {p d k : Nat} {far : Nat → Int32} (h : lfI a p d k far) (hd : d ≤ 16) {q : Nat} (hq : q < 16) (e : far q = -1) : fr a p d q = none := by
  cases c : fr a p d q with
  | none => rfl
  | some n =>
    have := fr_le a p d q n c
    rw [(h q hq).1 n c] at e
    exact absurd e (zl_nm1 (by omega))
theorem lf40 (N : Nat) {a : AW} {row : Nat → Int32} {w : Nat → Int64} (hok : zOK a) (hra : zRA a row w 0) {p d : Nat} (hd : d < 16) (K : (Nat → Int32) → Option (Nat → Int32)) : ∀ (e k f : Nat) (far : Nat → Int32), k + e = 256 → e < f → lfI a p d k far → ∃ far', f_X7_layFar_L40 N K row (nI d) f (nI k) far = K far' ∧ lfI a p d 256 far' := by
  have hpc : aPC a ≤ 16 := hok.2.2.2.2.1
  have h38 : row (38 : Int32).toNatClampNeg = nI (aPC a) := hra.2.2.2.2.1
  intro e
  induction e with
  | zero =>
    intro k f far hk hf h
    obtain ⟨f', rfl⟩ : ∃ f', f = f' + 1 := ⟨f - 1, by omega⟩
    have hk : k = 256 := by omega
    subst hk
    exact ⟨far, by rw [f_X7_layFar_L40_s, if_pos (show (256 : Int32) ≤ nI 256 from by decide)], h⟩
  | succ e ih =>
    intro k f far hk hf h
    obtain ⟨f', rfl⟩ : ∃ f', f = f' + 1 := ⟨f - 1, by omega⟩
    have step : ∀ far1, lfI a p d (k + 1) far1 → ∃ far', f_X7_layFar_L40 N K row (nI d) f' (nI (k + 1)) far1 = K far' ∧ lfI a p d 256 far' := fun far1 h1 => ih (k + 1) f' far1 (by omega) (by omega) h1
    have hr16 : k / 16 < 16 := by omega
    have hq16 : k % 16 < 16 := by omega
    rw [f_X7_layFar_L40_s, if_neg (show ¬ (256 : Int32) ≤ nI k from nI_ge (b := 256) (by omega) (by omega)), zl_let, zl_let, zl_let, show (16 : Int32) = nI 16 from rfl, pk_rem (by omega) (by decide) (by decide), pk_div (by omega) (by decide) (by decide), h38, zl_let, nI_1, zl_cl (show k / 16 < 2 ^ 31 by omega), zl_cl (show k % 16 < 2 ^ 31 by omega)]
    by_cases c1 : aPC a ≤ k / 16
    · rw [if_pos (nI_le c1 (by omega))]
      exact step far (lf_same h (fun r q hk q1 q2 q3 => by omega))
    · rw [if_neg (nI_ge (by omega) (by omega))]
      by_cases c2 : aPC a ≤ k % 16
      · rw [if_pos (nI_le c2 (by omega))]
        exact step far (lf_same h (fun r q hk q1 q2 q3 => by omega))
      · rw [if_neg (nI_ge (by omega) (by omega)), zl_gd (zl_inN hr16 (by decide))]
        by_cases c3 : fr a p d (k / 16) = some d
        · rw [if_pos ((lf_at h (by omega) hr16).mpr c3), zl_gd (zl_inN hq16 (by decide))]
          by_cases c4 : far (k % 16) = -1
          · rw [if_pos c4, zl_b1 (an_eq N hok hra (by omega) (by omega))]
            by_cases c5 : aNx a (k / 16) (k % 16)
            · rw [if_pos c5, if_neg (show ¬ (1 : Int32) = 0 by decide), nI_1]
              exact step _ (lf_put h (by omega) hq16 (by omega) (by omega) c3 c5 (lf_no h (by omega) hq16 c4))
            · rw [if_neg c5, if_pos rfl]
              refine step far (lf_same h (fun r q hk q1 q2 q3 q4 q5 => ?_))
              have e1 : r = k / 16 := by omega
              have e2 : q = k % 16 := by omega
              rw [e1, e2] at q5
              exact absurd q5 c5
          · rw [if_neg c4]
            refine step far (lf_same h (fun r q hk q1 q2 q3 q4 q5 q6 => ?_))
            have e2 : q = k % 16 := by omega
            obtain ⟨_, h2, h3⟩ := h q q1
            by_cases w : q < aPC a ∧ ∃ r', r' < aPC a ∧ 16 * r' + q < k ∧ fr a p d r' = some d ∧ aNx a r' q
            · exact h2 q6 w
            · rw [← e2, h3 q6 w] at c4
              exact absurd rfl c4
        · rw [if_neg (fun q => c3 ((lf_at h (by omega) hr16).mp q))]
          refine step far (lf_same h (fun r q hk q1 q2 q3 q4 => ?_))
          have e1 : r = k / 16 := by omega
          rw [e1] at q4
          exact absurd q4 c3
theorem lf32 (N : Nat) (hN : 100000 ≤ N) {a : AW} {row : Nat → Int32} {w : Nat → Int64} (hok : zOK a) (hra : zRA a row w 0) {p : Nat} (K : (Nat → Int32) → Option (Nat → Int32)) : ∀ (e d f : Nat) (far : Nat → Int32), d + e = 16 → e < f → (∀ q, q < 16 → far q = frI (fr a p d q)) → ∃ far', f_X7_layFar_L32 N K row f (nI d) far = K far' ∧ ∀ q, q < 16 → far' q = frI (fr a p 16 q) := by
  have hpc : aPC a ≤ 16 := hok.2.2.2.2.1
  intro e
  induction e with
  | zero =>
    intro d f far hd hf h
    obtain ⟨f', rfl⟩ : ∃ f', f = f' + 1 := ⟨f - 1, by omega⟩
    have hd : d = 16 := by omega
    subst hd
    exact ⟨far, by rw [f_X7_layFar_L32_s, if_pos (show (16 : Int32) ≤ nI 16 from by decide)], h⟩
  | succ e ih =>
    intro d f far hd hf h
    obtain ⟨f', rfl⟩ : ∃ f', f = f' + 1 := ⟨f - 1, by omega⟩
    rw [f_X7_layFar_L32_s, if_neg (show ¬ (16 : Int32) ≤ nI d from nI_ge (b := 16) (by omega) (by omega)), zl_let]
    obtain ⟨far1, e1, h1⟩ := lf40 N hok hra (p := p) (show d < 16 by omega) (fun (t_far_34 : Nat → Int32) => zz_let (nI d + (1 : Int32)) (fun v2_35 => (f_X7_layFar_L32 N K row f' v2_35 t_far_34))) 256 0 N far (by omega) (by omega) (fun q hq => by
      rw [h q hq]
      refine ⟨fun n hn => by rw [hn]; rfl, fun _ w => ?_, fun h0 _ => by rw [h0]; rfl⟩
      obtain ⟨_, r, _, w3, _⟩ := w
      omega)
    rw [show (0 : Int32) = nI 0 from rfl, e1, zl_let, nI_1]
    refine ih (d + 1) f' far1 (by omega) (by omega) (fun q hq => ?_)
    obtain ⟨g1, g2, g3⟩ := h1 q hq
    rcases fr_cases a p d q with ⟨n, q1, q2⟩ | ⟨q1, q2, ⟨r, r1, r2, r3⟩, q3⟩ | ⟨q1, q2, q3⟩
    · rw [q2, g1 n q1]
      rfl
    · rw [q3, g2 q1 ⟨q2, r, r1, by omega, r2, r3⟩]
      rfl
    · rw [q3, g3 q1 (fun w => q2 ⟨w.1, by
        obtain ⟨_, r, r1, _, r2⟩ := w
        exact ⟨r, r1, r2⟩⟩)]
      rfl
theorem lf2 (N : Nat) {p : Nat} (hp : p < 16) (K : (Nat → Int32) → Option (Nat → Int32)) : ∀ (e i f : Nat) (far : Nat → Int32), i + e = 16 → e < f → (∀ q, q < i → far q = frI (if q = p then some 0 else none)) → ∃ far', f_X7_layFar_L2 N K (nI p) f (nI i) far = K far' ∧ ∀ q, q < 16 → far' q = frI (if q = p then some 0 else none) := by
  intro e
  induction e with
  | zero =>
    intro i f far hi hf h
    obtain ⟨f', rfl⟩ : ∃ f', f = f' + 1 := ⟨f - 1, by omega⟩
    have hi : i = 16 := by omega
    subst hi
    exact ⟨far, by rw [f_X7_layFar_L2_s, if_pos (show (16 : Int32) ≤ nI 16 from by decide)], h⟩
  | succ e ih =>
    intro i f far hi hf h
    obtain ⟨f', rfl⟩ : ∃ f', f = f' + 1 := ⟨f - 1, by omega⟩
    have step : ∀ x, x = frI (if i = p then some 0 else none) → ∃ far', f_X7_layFar_L2 N K (nI p) f' (nI (i + 1)) (upd far i x) = K far' ∧ ∀ q, q < 16 → far' q = frI (if q = p then some 0 else none) := fun x hx => ih (i + 1) f' _ (by omega) (by omega) (fun q hq => by
      by_cases e : q = i
      · subst e
        rw [pk_us, hx]
      · rw [pk_un e]
        exact h q (by omega))
    rw [f_X7_layFar_L2_s, if_neg (show ¬ (16 : Int32) ≤ nI i from nI_ge (b := 16) (by omega) (by omega)), zl_let]
    by_cases c : i = p
    · rw [if_pos (show nI i = nI p by rw [c])]
      dsimp only
      rw [zl_gd (zl_inN (show i < 16 by omega) (by decide)), zl_let, zl_let, nI_1, zl_cl (by omega)]
      exact step 0 (by rw [if_pos c]; rfl)
    · rw [if_neg (show ¬ nI i = nI p from fun q => c ((nI_eq (by omega) (by omega)).mp q))]
      dsimp only
      rw [zl_gd (zl_inN (show i < 16 by omega) (by decide)), zl_let, zl_let, nI_1, zl_cl (by omega)]
      exact step (-1) (by rw [if_neg c]; rfl)
theorem lf_eq (N : Nat) (hN : 100000 ≤ N) {a : AW} {row : Nat → Int32} {w : Nat → Int64} (hok : zOK a) (hra : zRA a row w 0) {p : Nat} (hp : p < aPC a) (far : Nat → Int32) : ∃ far', f_X7_layFar N row far (nI p) = some far' ∧ ∀ q, q < 16 → far' q = frI (fr a p 16 q) := by
  have hpc : aPC a ≤ 16 := hok.2.2.2.2.1
  unfold f_X7_layFar
  rw [zl_let]
  obtain ⟨far1, e1, h1⟩ := lf2 N (show p < 16 by omega) (fun (t_far_11 : Nat → Int32) => zz_let (fun (t_far_36 : Nat → Int32) => (some t_far_36)) (fun k_12 => f_X7_layFar_L32 N k_12 row N (0 : Int32) t_far_11)) 16 0 N far (by omega) (by omega) (fun q hq => absurd hq (by omega))
  rw [show (0 : Int32) = nI 0 from rfl] at e1 ⊢
  rw [e1, zl_let]
  exact lf32 N hN hok hra (p := p) (fun t => some t) 16 0 N far1 (by omega) (by omega) (fun q hq => by
    rw [h1 q hq]
    unfold fr
    rfl)
