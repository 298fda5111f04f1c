/-! ===== old names: numbers given from one letter on ===== -/
def gvH (T : Nat → Nat → Nat) (D : Nat → Nat) (wc n k : Nat) (xm ym : Nat → Nat → Int32) : Prop := wc ≤ 16 ∧ 1 ≤ n ∧ n ≤ 9 ∧ k ≤ 5 ∧ (∀ w, w < wc → D w ≤ 400 ∧ (∀ i, i ≤ k → rO T k w i ≤ 9) ∧ ∀ i, i < k → xm w i = nI (T w i) ∧ ym w i = nI (rO T k w (i + 1)))
theorem gv_left {T : Nat → Nat → Nat} {D : Nat → Nat} {wc n k : Nat} {xm ym : Nat → Nat → Int32} (H : gvH T D wc n k xm ym) {w lo i : Nat} (hw : w < wc) (hi : i ≤ k) : pO T n k lo w i ≤ 81 := by
  obtain ⟨_, h1, h9, _, h⟩ := H
  obtain ⟨_, h2, _⟩ := h w hw
  obtain ⟨a1, a2⟩ := pO_rest (T := T) (n := n) (k := k) (v := lo) (w := w) (by omega) k 0 (by omega)
  obtain ⟨b1, b2⟩ := pO_rest (T := T) (n := n) (k := k) (v := lo) (w := w) (by omega) (k - i) i (by omega)
  have e0 : pO T n k lo w 0 = 0 := rfl
  have h3 := h2 0 (by omega)
  have h4 : rO T k w 0 * n ≤ 9 * 9 := Nat.mul_le_mul h3 h9
  omega
theorem gv_empty {T : Nat → Nat → Nat} {D : Nat → Nat} {wc n k : Nat} {xm ym : Nat → Nat → Int32} (H : gvH T D wc n k xm ym) {m i lo g : Nat} {left : Nat → Int32} {r4 r5 : Int32} (hk : i + m + 1 = k) (hlo : lo % n ^ (m + 1) = 0) (hleft : ∀ w, w < wc → (left w).toInt = (D w : Int) - pO T n k lo w i) (h4 : ∀ g : Int, g ≤ r4.toInt ↔ (g ≤ n ∧ ∀ u, u < wc → 0 < T u i → g * T u i ≤ (left u).toInt - rO T k u (i + 1))) (h5 : ∀ g : Int, r5.toInt ≤ g ↔ (1 ≤ g ∧ ∀ u, u < wc → 0 < T u i → (left u).toInt - (rO T k u (i + 1) * n : Nat) ≤ g * T u i)) (hg1 : 1 ≤ g) (hgn : g ≤ n) (hno : ¬ (r5.toInt ≤ g ∧ (g : Int) ≤ r4.toInt)) : ∀ v, lo + (g - 1) * n ^ m ≤ v → v < lo + g * n ^ m → sO T D wc n k v = false := by
  intro v hv1 hv2
  have hn : 0 < n := by omega
  cases e : sO T D wc n k v with
  | false => rfl
  | true =>
    refine absurd ?_ hno
    have hS := sO_iff.mp e
    have hp : 0 < n ^ m := Nat.pow_pos hn
    have eg : g * n ^ m = (g - 1) * n ^ m + n ^ m := by
      rw [← Nat.succ_mul]
      congr 1
      omega
    have hblk : (lo + (g - 1) * n ^ m) % n ^ m = 0 := by
      rw [Nat.add_mul_mod_self_right]
      have : n ^ m ∣ n ^ (m + 1) := ⟨n, Nat.pow_succ ..⟩
      exact Nat.mod_eq_zero_of_dvd (Nat.dvd_trans this (Nat.dvd_of_mod_eq_zero hlo))
    have hdg : dgO n k v i = g := by
      rw [dgO_blk hn hblk hv1 (by omega) (by omega), dgO_at hn hlo hk (by omega)]
      omega
    have hgs : g * n ^ m ≤ n ^ (m + 1) := by
      rw [Nat.pow_succ, Nat.mul_comm (n ^ m)]
      exact Nat.mul_le_mul_right _ hgn
    have key : ∀ u, u < wc → (left u).toInt = (T u i * g : Nat) + (pO T n k v u k - pO T n k v u (i + 1) : Nat) ∧ rO T k u (i + 1) ≤ pO T n k v u k - pO T n k v u (i + 1) ∧ pO T n k v u k - pO T n k v u (i + 1) ≤ rO T k u (i + 1) * n := fun u hu => by
      obtain ⟨b1, b2⟩ := pO_rest (T := T) (n := n) (k := k) (v := v) (w := u) hn m (i + 1) (by omega)
      have e1 : pO T n k v u (i + 1) = pO T n k v u i + T u i * dgO n k v i := fb_sm_succ _ _
      have e2 : pO T n k v u i = pO T n k lo u i := pO_blk hn hlo (by omega) (by omega) (by omega)
      have e3 := hS u hu
      have e4 := hleft u hu
      rw [hdg] at e1
      refine ⟨?_, by omega, by omega⟩
      rw [e4]
      omega
    constructor
    · rw [h5]
      refine ⟨by omega, fun u hu hT => ?_⟩
      obtain ⟨k1, k2, k3⟩ := key u hu
      have : ((g : Int) * (T u i : Int)) = ((T u i * g : Nat) : Int) := by
        rw [Int.natCast_mul, Int.mul_comm]
      omega
    · rw [h4]
      refine ⟨by omega, fun u hu hT => ?_⟩
      obtain ⟨k1, k2, k3⟩ := key u hu
      have : ((g : Int) * (T u i : Int)) = ((T u i * g : Nat) : Int) := by
        rw [Int.natCast_mul, Int.mul_comm]
      omega
theorem gv_loop (N : Nat) (hN : 100000 ≤ N) {T : Nat → Nat → Nat} {D : Nat → Nat} {wc n k : Nat} {xm ym : Nat → Nat → Int32} (H : gvH T D wc n k xm ym) {m i lo : Nat} {left : Nat → Int32} {r4 r5 : Int32} (hk : i + m + 1 = k) (hlo : lo % n ^ (m + 1) = 0) (hlt : lo + n ^ (m + 1) ≤ n ^ k) (hleft : ∀ w, w < wc → (left w).toInt = (D w : Int) - pO T n k lo w i) (hR : ∀ w, w < wc → rO T k w i = 0 → D w = pO T n k lo w i) (h4 : ∀ g : Int, g ≤ r4.toInt ↔ (g ≤ n ∧ ∀ u, u < wc → 0 < T u i → g * T u i ≤ (left u).toInt - rO T k u (i + 1))) (h5 : ∀ g : Int, r5.toInt ≤ g ↔ (1 ≤ g ∧ ∀ u, u < wc → 0 < T u i → (left u).toInt - (rO T k u (i + 1) * n : Nat) ≤ g * T u i)) (given0 : Nat → Int32) (hgiven : ∀ j, j < i → given0 j = nI (dgO n k lo j)) (self : (Int32) → (Int32) → (Nat → Int32) → (Int32) → (Nat → Int32) → (Nat → Int32) → (Int32) → (Nat → Nat → Int32) → (Nat → Nat → Int32) → (Int32) → Option ((Int32) × (Nat → Int32) × (Nat → Int32) × (Nat → Int32))) (hself : ∀ lo', lo' % n ^ m = 0 → lo' + n ^ m ≤ n ^ k → ∀ (ways : Int32) (left1 given first : Nat → Int32), iW T D wc n k lo' ways first → (∀ w, w < wc → (left1 w).toInt = (D w : Int) - pO T n k lo' w (i + 1)) → (∀ j, j < i + 1 → given j = nI (dgO n k lo' j)) → (∀ w, w < wc → rO T k w (i + 1) = 0 → D w = pO T n k lo' w (i + 1)) → ∃ ways' left' given' first', self ways (nI k) left1 (nI wc) given first (nI n) xm ym (nI (i + 1)) = some (ways', left', given', first') ∧ iW T D wc n k (lo' + n ^ m) ways' first' ∧ (∀ w, w < wc → left' w = left1 w) ∧ ∀ j, j < i + 1 → given' j = given j) (K : (Int32) → (Nat → Int32) → (Nat → Int32) → (Nat → Int32) → Option ((Int32) × (Nat → Int32) × (Nat → Int32) × (Nat → Int32))) : ∀ (d g f : Nat) (v3 ways : Int32) (left1 given first : Nat → Int32), g + d = n + 1 → d < f → 1 ≤ g → v3.toInt = g → r5.toInt ≤ g → iW T D wc n k (lo + (g - 1) * n ^ m) ways first → (∀ w, w < wc → left1 w = left w) → (∀ j, j < i → given j = given0 j) → ∃ ways' left' given' first', f_X1_give_L25 N K self (nI k) (nI wc) (nI n) xm ym (nI i) r4 f v3 ways left1 given first = K ways' left' given' first' ∧ iW T D wc n k (lo + n ^ (m + 1)) ways' first' ∧ (∀ w, w < wc → left' w = left w) ∧ ∀ j, j < i → given' j = given0 j := by
  obtain ⟨hwc, hn1, hn9, hk5, hH⟩ := id H
  have hn : 0 < n := by omega
  have hp : 0 < n ^ m := Nat.pow_pos hn
  have hr4 : r4.toInt ≤ n := ((h4 r4.toInt).mp (Int.le_refl _)).1
  have fin : ∀ (e g : Nat) (ways : Int32) (first : Nat → Int32), g + e = n + 1 → 1 ≤ g → r4.toInt < g → iW T D wc n k (lo + (g - 1) * n ^ m) ways first → iW T D wc n k (lo + n ^ (m + 1)) ways first := by
    intro e
    induction e with
    | zero =>
      intro g ways first hg _ _ h
      rw [show g - 1 = n by omega, Nat.mul_comm, ← Nat.pow_succ] at h
      exact h
    | succ e ih =>
      intro g ways first hg hg1 hr h
      have h2 := iW_empty (n ^ m) _ h (fun v v1 v2 => gv_empty H hk hlo hleft h4 h5 hg1 (by omega) (by omega) v v1 (by
        have eg : g * n ^ m = (g - 1) * n ^ m + n ^ m := by
          rw [← Nat.succ_mul]
          congr 1
          omega
        omega))
      have eg : lo + (g - 1) * n ^ m + n ^ m = lo + (g + 1 - 1) * n ^ m := by
        rw [Nat.add_sub_cancel, Nat.add_assoc, ← Nat.succ_mul]
        congr 2
        omega
      rw [eg] at h2
      exact ih (g + 1) ways first (by omega) (by omega) (by omega) h2
  intro d
  induction d with
  | zero =>
    intro g f v3 ways left1 given first hg hf hg1 hv3 h5g hI hl hgv
    obtain ⟨f, rfl⟩ : ∃ g, f = g + 1 := ⟨f - 1, by omega⟩
    rw [f_X1_give_L25_s, if_pos (by rw [fa_lt, hv3]; omega)]
    exact ⟨_, _, _, _, rfl, fin 0 g ways first (by omega) hg1 (by omega) hI, hl, hgv⟩
  | succ d ih =>
    intro g f v3 ways left1 given first hg hf hg1 hv3 h5g hI hl hgv
    obtain ⟨f, rfl⟩ : ∃ g, f = g + 1 := ⟨f - 1, by omega⟩
    have ev3 : v3 = nI g := by rw [fa_eq, hv3, nI_toInt (by omega)]
    rw [f_X1_give_L25_s]
    by_cases c : r4.toInt < g
    · rw [if_pos (by rw [fa_lt, hv3]; exact c)]
      exact ⟨_, _, _, _, rfl, fin (d + 1) g ways first (by omega) hg1 c hI, hl, hgv⟩
    · rw [if_neg (by rw [fa_lt, hv3]; exact c), zl_gd (zl_inN (show i < 5 by omega) (by decide)), zl_let, zl_cl (show i < 2 ^ 31 by omega), ev3, nI_1]
      have hgl := (h4 g).mp (by omega)
      have hgm := (h5 g).mp h5g
      have hlo' : (lo + (g - 1) * n ^ m) % n ^ m = 0 := by
        rw [Nat.add_mul_mod_self_right]
        have : n ^ m ∣ n ^ (m + 1) := ⟨n, Nat.pow_succ ..⟩
        exact Nat.mod_eq_zero_of_dvd (Nat.dvd_trans this (Nat.dvd_of_mod_eq_zero hlo))
      have hdg : dgO n k (lo + (g - 1) * n ^ m) i = g := by
        rw [dgO_at hn hlo hk (by omega)]
        omega
      have hgs : (g - 1) * n ^ m < n ^ (m + 1) := by
        rw [Nat.pow_succ, Nat.mul_comm (n ^ m)]
        exact Nat.mul_lt_mul_of_pos_right (by omega) hp
      have hdl : ∀ j, j < i → dgO n k (lo + (g - 1) * n ^ m) j = dgO n k lo j := fun j hj => dgO_blk hn hlo (by omega) (by omega) (by omega)
      have hpi : ∀ w, pO T n k (lo + (g - 1) * n ^ m) w i = pO T n k lo w i := fun w => fb_sm_cong (fun j hj => by rw [hdl j hj])
      have hpi2 : ∀ w, pO T n k (lo + (g - 1) * n ^ m) w (i + 1) = pO T n k lo w i + T w i * g := fun w => by
        have e : pO T n k (lo + (g - 1) * n ^ m) w (i + 1) = pO T n k (lo + (g - 1) * n ^ m) w i + T w i * dgO n k (lo + (g - 1) * n ^ m) i := fb_sm_succ _ _
        rw [e, hpi, hdg]
      have bnd : ∀ w, w < wc → T w i * g ≤ 81 := fun w hw => by
        have h1 := (hH w hw).2.1 i (by omega)
        have h2 := rO_s (T := T) (w := w) (show i < k by omega)
        have h3 : T w i * g ≤ 9 * 9 := Nat.mul_le_mul (by omega) (by omega)
        omega
      have exg : ∀ w, w < wc → (xm w i * nI g) = nI (T w i * g) := fun w hw => by
        rw [((hH w hw).2.2 i (by omega)).1, pk_mul]
      obtain ⟨left2, t1, t2⟩ := tk_loop N hwc (show i < 5 by omega) (nI g) (xm := xm) (fun t => some t) wc 0 N left1 (by omega) (by omega)
      have t1' : f_X1_take N left1 (nI wc) xm (nI i) (nI g) = some left2 := by
        unfold f_X1_take
        rw [zl_let]
        exact t1
      have hleft2 : ∀ w, w < wc → left2 w = left w - nI (T w i * g) ∧ (left2 w).toInt = (D w : Int) - pO T n k (lo + (g - 1) * n ^ m) w (i + 1) := fun w hw => by
        have e1 : left2 w = left w - nI (T w i * g) := by
          rw [t2 w, if_pos (by omega), hl w hw, exg w hw]
        have e2 := nI_toInt (n := T w i * g) (by
          have := bnd w hw
          omega)
        have b1 := gv_left H (lo := lo) hw (show i ≤ k by omega)
        have b2 := (hH w hw).1
        have b3 := bnd w hw
        have e3 := hleft w hw
        refine ⟨e1, ?_⟩
        rw [e1, fb_subI (by rw [e2, e3]; omega) (by rw [e2, e3]; omega), e2, e3, hpi2 w]
        omega
      obtain ⟨ways', left3, given', first', s1, s2, s3, s4⟩ := hself (lo + (g - 1) * n ^ m) hlo' (by
        have eg : g * n ^ m = (g - 1) * n ^ m + n ^ m := by
          rw [← Nat.succ_mul]
          congr 1
          omega
        have : g * n ^ m ≤ n ^ (m + 1) := by
          rw [Nat.pow_succ, Nat.mul_comm (n ^ m)]
          exact Nat.mul_le_mul_right _ (by omega)
        omega) ways left2 (upd given i (nI g)) first hI (fun w hw => (hleft2 w hw).2) (fun j hj => by
        by_cases e : j = i
        · rw [e, pk_us, hdg]
        · rw [pk_un e, hgv j (by omega), hgiven j (by omega), hdl j (by omega)]) (fun w hw h0 => by
        rw [hpi2 w]
        by_cases cT : 0 < T w i
        · have q1 := hgl.2 w hw cT
          have q2 := hgm.2 w hw cT
          rw [h0] at q1 q2
          have e3 := hleft w hw
          have : ((g : Int) * (T w i : Int)) = ((T w i * g : Nat) : Int) := by
            rw [Int.natCast_mul, Int.mul_comm]
          rw [this] at q1 q2
          rw [Nat.zero_mul] at q2
          omega
        · have h1 := hR w hw (by
            rw [rO_s (show i < k by omega), h0]
            omega)
          rw [show T w i = 0 by omega, Nat.zero_mul]
          exact h1)
      obtain ⟨left4, u1, u2⟩ := tk_loop N hwc (show i < 5 by omega) (-(nI g)) (xm := xm) (fun t => some t) wc 0 N left3 (by omega) (by omega)
      have u1' : f_X1_take N left3 (nI wc) xm (nI i) (-(nI g)) = some left4 := by
        unfold f_X1_take
        rw [zl_let]
        exact u1
      rw [zl_b1 t1']
      simp only [zz_b4, s1, Option.bind_some]
      rw [zl_b1 u1', zl_let, nI_1]
      have eg : lo + (g - 1) * n ^ m + n ^ m = lo + (g + 1 - 1) * n ^ m := by
        rw [Nat.add_sub_cancel, Nat.add_assoc, ← Nat.succ_mul]
        congr 2
        omega
      rw [eg] at s2
      refine ih (g + 1) f (nI (g + 1)) ways' left4 given' first' (by omega) (by omega) (by omega) (by rw [nI_toInt (by omega)]) (by omega) s2 (fun w hw => ?_) (fun j hj => ?_)
      · have b1 := gv_left H (lo := lo) hw (show i ≤ k by omega)
        have b2 := (hH w hw).1
        have b3 := bnd w hw
        have e3 := hleft w hw
        have e2 := nI_toInt (n := T w i * g) (by omega)
        have eng : (-(nI g)).toInt = -(g : Int) := by
          have e := nI_toInt (n := g) (by omega)
          rw [fb_negI (by rw [e]; omega), e]
        have exm : (xm w i).toInt = T w i := by
          have h1 := (hH w hw).2.1 i (by omega)
          have h2 := rO_s (T := T) (w := w) (show i < k by omega)
          rw [((hH w hw).2.2 i (by omega)).1, nI_toInt (by omega)]
        have em : (xm w i * -(nI g)).toInt = -((T w i * g : Nat) : Int) := by
          have ee : (T w i : Int) * -(g : Int) = -((T w i * g : Nat) : Int) := by
            rw [Int.mul_neg, Int.natCast_mul]
          rw [fb_mulI (by rw [exm, eng, ee]; omega) (by rw [exm, eng, ee]; omega), exm, eng, ee]
        have el3 : (left3 w).toInt = (left w).toInt - (T w i * g : Nat) := by
          rw [s3 w hw, (hleft2 w hw).1, fb_subI (by rw [e2, e3]; omega) (by rw [e2, e3]; omega), e2]
        rw [u2 w, if_pos (by omega), fa_eq, fb_subI (by rw [em, el3]; omega) (by rw [em, el3]; omega), em, el3]
        omega
      · rw [s4 j (by omega), pk_un (by omega)]
        exact hgv j hj
theorem gv_eq (N : Nat) (hN : 100000 ≤ N) {T : Nat → Nat → Nat} {D : Nat → Nat} {wc n k : Nat} {xm ym : Nat → Nat → Int32} (H : gvH T D wc n k xm ym) : ∀ (m i e : Nat), i + m = k → ∀ lo, lo % n ^ m = 0 → lo + n ^ m ≤ n ^ k → ∀ (ways : Int32) (left given first : Nat → Int32), iW T D wc n k lo ways first → (∀ w, w < wc → (left w).toInt = (D w : Int) - pO T n k lo w i) → (∀ j, j < i → given j = nI (dgO n k lo j)) → (∀ w, w < wc → rO T k w i = 0 → D w = pO T n k lo w i) → ∃ ways' left' given' first', f_X1_give N (m + 1 + e) ways (nI k) left (nI wc) given first (nI n) xm ym (nI i) = some (ways', left', given', first') ∧ iW T D wc n k (lo + n ^ m) ways' first' ∧ (∀ w, w < wc → left' w = left w) ∧ ∀ j, j < i → given' j = given j := by
  obtain ⟨hwc, hn1, hn9, hk5, hH⟩ := id H
  have hn : 0 < n := by omega
  intro m
  induction m with
  | zero =>
    intro i e hi lo _ hlt ways left given first hI hleft hgiven hR
    have hi : i = k := by omega
    subst hi
    rw [show 0 + 1 + e = e + 1 by omega, f_X1_give_s, if_neg (nI_nlt (Nat.le_refl _) (by omega))]
    have hs : sO T D wc n i lo = true := sO_iff.mpr (fun w hw => (hR w hw rO_k).symm)
    have ecnt : fb_ct (sO T D wc n i) (lo + 1) = fb_ct (sO T D wc n i) lo + 1 := by
      rw [fb_ct_succ, hs, if_pos rfl]
    obtain ⟨i1, i2⟩ := hI
    have hadd : ∃ first', f_X1_addWay N ways (nI i) given first = some (nI (fb_ct (sO T D wc n i) lo + 1), first') ∧ (0 < fb_ct (sO T D wc n i) lo → first' = first) ∧ (fb_ct (sO T D wc n i) lo = 0 → ∀ j, j < i → first' j = given j) := by
      unfold f_X1_addWay
      rw [zl_let, i1]
      by_cases c : fb_ct (sO T D wc n i) lo = 0
      · rw [c, if_pos (show nI 0 = 0 from rfl)]
        have hcp : zz_cp (0 : Int32) (0 : Int32) (nI i) 5 5 = true := decide_eq_true (by
          have e := nI_toInt (n := i) (by omega)
          have h0 : (0 : Int32).toInt = 0 := rfl
          rw [e, h0]
          omega)
        rw [zl_gd hcp, zl_let]
        dsimp only
        rw [zl_let]
        refine ⟨_, rfl, fun q => by omega, fun _ j hj => ?_⟩
        rw [zl_cl (show i < 2 ^ 31 by omega)]
        have := pk_cpy_in (f := given) (g := first) (sp := 0) (dp := 0) (n := i) (j := j) (by omega) (by omega)
        rw [Nat.zero_add, Nat.sub_zero] at this
        exact this
      · have hb : fb_ct (sO T D wc n i) lo ≤ lo := fb_ct_le _ _
        have hpk : n ^ i ≤ 9 ^ 5 := Nat.le_trans (Nat.pow_le_pow_left hn9 i) (Nat.pow_le_pow_right (by decide) hk5)
        have h95 : (9 : Nat) ^ 5 = 59049 := rfl
        rw [if_neg (nI_ne0 (by omega) (by omega))]
        dsimp only
        rw [zl_let, nI_1]
        exact ⟨first, rfl, fun _ => rfl, fun q => absurd q c⟩
    obtain ⟨first', a1, a2, a3⟩ := hadd
    rw [zl_b2 a1]
    refine ⟨_, _, _, _, rfl, ⟨?_, fun _ => ?_⟩, fun _ _ => rfl, fun _ _ => rfl⟩
    · rw [Nat.pow_zero, ecnt]
    · by_cases c : fb_ct (sO T D wc n i) lo = 0
      · refine ⟨lo, by rw [Nat.pow_zero]; omega, hs, fun u hu => fb_ct_zero.mp c u hu, fun j hj => ?_⟩
        rw [a3 c j hj, hgiven j hj]
      · obtain ⟨v, v1, v2, v3, v4⟩ := i2 (by omega)
        refine ⟨v, by rw [Nat.pow_zero]; omega, v2, v3, ?_⟩
        rw [a2 (by omega)]
        exact v4
  | succ m ih =>
    intro i e hi lo hlo hlt ways left given first hI hleft hgiven hR
    have hx : ∀ w, w < wc → xm w i = nI (T w i) ∧ ym w i = nI (rO T k w (i + 1)) ∧ T w i ≤ 9 ∧ rO T k w (i + 1) ≤ 9 ∧ -1000 ≤ (left w).toInt ∧ (left w).toInt ≤ 1000 := fun w hw => by
      obtain ⟨b0, b1, b2⟩ := hH w hw
      obtain ⟨c1, c2⟩ := b2 i (by omega)
      have h1 := b1 i (by omega)
      have h2 := rO_s (T := T) (w := w) (show i < k by omega)
      have h3 := gv_left H (lo := lo) hw (show i ≤ k by omega)
      have h4 := hleft w hw
      exact ⟨c1, c2, by omega, by omega, by omega, by omega⟩
    have e1 : (1 : Int32).toInt = 1 := rfl
    have en : (nI n).toInt = n := nI_toInt (by omega)
    obtain ⟨r4, q1, q2⟩ := gf_loop N (T := T) (n := n) hwc (show i < k by omega) hk5 hx (fun v => some v) wc 0 N (nI n) (by omega) (by omega) (by rw [en]; omega) (by rw [en]; omega) (fun g => by
      rw [en]
      exact ⟨fun h => ⟨h, fun u hu => by omega⟩, fun h => h.1⟩)
    obtain ⟨r5, p1, p3, p4, p2⟩ := lf_loop N (T := T) (n := n) hwc (show i < k by omega) hk5 hn9 hx (fun v => some v) wc 0 N 1 (by omega) (by omega) (by rw [e1]; omega) (by rw [e1]; omega) (fun g => by
      rw [e1]
      exact ⟨fun h => ⟨h, fun u hu => by omega⟩, fun h => h.1⟩)
    have q1' : f_X1_greatestFor N left (nI wc) (nI n) xm ym (nI i) = some r4 := by
      unfold f_X1_greatestFor
      rw [zl_let]
      exact q1
    have p1' : f_X1_leastFor N left (nI wc) (nI n) xm ym (nI i) = some r5 := by
      unfold f_X1_leastFor
      rw [zl_let]
      exact p1
    have h51 : 1 ≤ r5.toInt := ((p2 r5.toInt).mp (Int.le_refl _)).1
    have h4n : r4.toInt ≤ n := ((q2 r4.toInt).mp (Int.le_refl _)).1
    have hself := fun lo' (hl' : lo' % n ^ m = 0) (hl2 : lo' + n ^ m ≤ n ^ k) ways (left1 given first : Nat → Int32) h1 h2 h3 h4 => ih (i + 1) e (by omega) lo' hl' hl2 ways left1 given first h1 h2 h3 h4
    rw [show m + 1 + 1 + e = (m + 1 + e) + 1 by omega, f_X1_give_s, if_pos (nI_lt (by omega) (by omega)), zl_b1 q1', zl_b1 p1', zl_let]
    by_cases c : r4.toInt < r5.toInt
    · obtain ⟨g, hg⟩ : ∃ g, N = g + 1 := ⟨N - 1, by omega⟩
      have hz : ∀ K self, f_X1_give_L25 N K self (nI k) (nI wc) (nI n) xm ym (nI i) r4 N r5 ways left given first = K ways left given first := fun K self => by
        have h : ∀ g, f_X1_give_L25 N K self (nI k) (nI wc) (nI n) xm ym (nI i) r4 (g + 1) r5 ways left given first = K ways left given first := fun g => by
          rw [f_X1_give_L25_s, if_pos (by rw [fa_lt]; exact c)]
        have h2 := h g
        rw [← hg] at h2
        exact h2
      rw [hz]
      refine ⟨_, _, _, _, rfl, iW_empty (n ^ (m + 1)) lo hI (fun v v1 v2 => ?_), fun _ _ => rfl, fun _ _ => rfl⟩
      have hp : 0 < n ^ m := Nat.pow_pos hn
      have hdiv := Nat.div_add_mod (v - lo) (n ^ m)
      have hmod := Nat.mod_lt (v - lo) hp
      have epw : n ^ (m + 1) = n ^ m * n := Nat.pow_succ ..
      obtain ⟨q, hqe⟩ : ∃ q, q = (v - lo) / n ^ m := ⟨_, rfl⟩
      have hq : q < n := by
        rw [hqe, Nat.div_lt_iff_lt_mul hp, Nat.mul_comm, ← epw]
        omega
      obtain ⟨rr, hrr⟩ : ∃ r, r = (v - lo) % n ^ m := ⟨_, rfl⟩
      rw [← hqe, ← hrr] at hdiv
      rw [← hrr] at hmod
      clear hqe hrr
      have hcm : n ^ m * q = q * n ^ m := Nat.mul_comm _ _
      have hsm : (q + 1) * n ^ m = q * n ^ m + n ^ m := Nat.succ_mul _ _
      exact gv_empty H (show i + m + 1 = k by omega) hlo hleft q2 p2 (g := q + 1) (by omega) (by omega) (by omega) v (by rw [Nat.add_sub_cancel]; omega) (by omega)
    · obtain ⟨g5, hg5⟩ : ∃ g5 : Nat, r5.toInt = g5 := ⟨r5.toInt.toNat, by omega⟩
      have hpre : ∀ t, t + 1 ≤ g5 → iW T D wc n k (lo + t * n ^ m) ways first := by
        intro t
        induction t with
        | zero =>
          intro _
          rw [Nat.zero_mul, Nat.add_zero]
          exact hI
        | succ t iht =>
          intro ht
          have h1 := iW_empty (n ^ m) _ (iht (by omega)) (fun v v1 v2 => gv_empty H (show i + m + 1 = k by omega) hlo hleft q2 p2 (g := t + 1) (by omega) (by omega) (by omega) v (by rw [Nat.add_sub_cancel]; exact v1) (by
            rw [Nat.succ_mul]
            omega))
          rw [show lo + (t + 1) * n ^ m = lo + t * n ^ m + n ^ m by rw [Nat.succ_mul]; omega]
          exact h1
      exact gv_loop N hN H (show i + m + 1 = k by omega) hlo hlt hleft hR q2 p2 given hgiven (f_X1_give N (m + 1 + e)) hself (fun (t_ways_22 : Int32) (t_left_23 : Nat → Int32) (t_given_24 : Nat → Int32) (t_first_25 : Nat → Int32) => (some (t_ways_22, t_left_23, t_given_24, t_first_25))) (n + 1 - g5) g5 N r5 ways left given first (by omega) (by omega) (by omega) hg5 (by omega) (hpre (g5 - 1) (by omega)) (fun _ _ => rfl) (fun _ _ => rfl)
