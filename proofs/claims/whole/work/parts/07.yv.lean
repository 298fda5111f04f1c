/-! ===== the readers of a line's parts, both programs at once ===== -/
theorem zl_b5 {A1 A2 A3 A4 A5 B : Type} {x : Option (A1 × A2 × A3 × A4 × A5)} {a1 : A1} {a2 : A2} {a3 : A3} {a4 : A4} {a5 : A5} {k : A1 → A2 → A3 → A4 → A5 → Option B} (h : x = some (a1, a2, a3, a4, a5)) : zz_b5 x k = k a1 a2 a3 a4 a5 := by rw [h]; rfl
theorem zl_b6 {A1 A2 A3 A4 A5 A6 B : Type} {x : Option (A1 × A2 × A3 × A4 × A5 × A6)} {a1 : A1} {a2 : A2} {a3 : A3} {a4 : A4} {a5 : A5} {a6 : A6} {k : A1 → A2 → A3 → A4 → A5 → A6 → Option B} (h : x = some (a1, a2, a3, a4, a5, a6)) : zz_b6 x k = k a1 a2 a3 a4 a5 a6 := by rw [h]; rfl
theorem zl_b7 {A1 A2 A3 A4 A5 A6 A7 B : Type} {x : Option (A1 × A2 × A3 × A4 × A5 × A6 × A7)} {a1 : A1} {a2 : A2} {a3 : A3} {a4 : A4} {a5 : A5} {a6 : A6} {a7 : A7} {k : A1 → A2 → A3 → A4 → A5 → A6 → A7 → Option B} (h : x = some (a1, a2, a3, a4, a5, a6, a7)) : zz_b7 x k = k a1 a2 a3 a4 a5 a6 a7 := by rw [h]; rfl
section
variable {N : Nat} {text textM : Nat → Int32} {B : Nat → Nat} {n p b e k : Nat} {V : Int64}
theorem num_ln (hN : 100000 ≤ N) (ht : TX text textM B n) (h : TP N text textM B n p b e k V) (read : Nat → Int32) {m s : Nat} (hm : m < 8) (hs : s ≤ 2) (lo hi nt : Int32) :
    (f_X3_readNumber N text (nI n) (nI p) lo hi = some (0, nI e, nI k, nI b, nI (e - b), V) ∧ f_X7_reads N textM (nI n) read (nI m) (nI e) (nI b) (nI e) (nI s) lo hi nt = some (0, read, nI e, nI b, nI e)) ∨
    (∃ v, v < 1000 ∧ lo.toInt ≤ (v : Nat) ∧ ((v : Nat) : Int) ≤ hi.toInt ∧ f_X3_readNumber N text (nI n) (nI p) lo hi = some (1, nI e, nI k, nI b, nI (e - b), lN v) ∧
      ((nI v = nt ∧ f_X7_reads N textM (nI n) read (nI m) (nI e) (nI b) (nI e) (nI s) lo hi nt = some (0, read, nI e, nI b, nI e)) ∨
       (¬ nI v = nt ∧ ∃ b' e' k' V', TP N text textM B n e b' e' k' V' ∧ f_X7_reads N textM (nI n) read (nI m) (nI e) (nI b) (nI e) (nI s) lo hi nt = some (1, upd read (5 * m + 1 + s) (nI v), nI e', nI b', nI e')))) := by
  obtain ⟨ok, o1, o2⟩ := num6 h ht.1.1 lo hi
  obtain ⟨r1, r2⟩ := reads7 hN h ht read hm hs lo hi nt
  cases ok with
  | false =>
    refine Or.inl ⟨o1, r2 (fun q => ?_)⟩
    exact absurd (o2.mpr ⟨q.1, q.2.1, q.2.2.1, q.2.2.2.1⟩) (by decide)
  | true =>
    obtain ⟨q1, q2, q3, q4⟩ := o2.mp rfl
    have hV := h.2.2.2.1 q1
    subst q1
    have hv := tp_num h.1 q2
    refine Or.inr ⟨_, hv, q3, q4, by rw [o1, hV]; rfl, ?_⟩
    by_cases c : nI (cvB B 10 48 0 b (e - b)) = nt
    · exact Or.inl ⟨c, r2 (fun q => q.2.2.2.2 c)⟩
    · exact Or.inr ⟨c, r1 ⟨rfl, q2, q3, q4, c⟩⟩
theorem tp_bd (ht : TX text textM B n) (h : TP N text textM B n p b e k V) : b < 1000 := by
  have := Tok_le h.1
  have := ht.1.1
  omega
theorem nI_nm1 {v : Nat} (hv : v < 1000) : ¬ nI v = (-1 : Int32) := fun q => by
  have := congrArg Int32.toInt q
  rw [nI_toInt (by omega)] at this
  have e : (-1 : Int32).toInt = -1 := by decide
  omega
theorem num_l1 (hN : 100000 ≤ N) (ht : TX text textM B n) (h : TP N text textM B n p b e k V) (read : Nat → Int32) {m s : Nat} (hm : m < 8) (hs : s ≤ 2) (lo hi : Int32) :
    (f_X3_readNumber N text (nI n) (nI p) lo hi = some (0, nI e, nI k, nI b, nI (e - b), V) ∧ f_X7_reads N textM (nI n) read (nI m) (nI e) (nI b) (nI e) (nI s) lo hi (-1) = some (0, read, nI e, nI b, nI e)) ∨
    (∃ v b' e' k' V', v < 1000 ∧ lo.toInt ≤ (v : Nat) ∧ ((v : Nat) : Int) ≤ hi.toInt ∧ f_X3_readNumber N text (nI n) (nI p) lo hi = some (1, nI e, nI k, nI b, nI (e - b), lN v) ∧ TP N text textM B n e b' e' k' V' ∧ f_X7_reads N textM (nI n) read (nI m) (nI e) (nI b) (nI e) (nI s) lo hi (-1) = some (1, upd read (5 * m + 1 + s) (nI v), nI e', nI b', nI e')) := by
  rcases num_ln hN ht h read hm hs lo hi (-1) with q | ⟨v, v1, v2, v3, v4, q | ⟨_, b', e', k', V', q1, q2⟩⟩
  · exact Or.inl q
  · exact absurd q.1 (nI_nm1 v1)
  · exact Or.inr ⟨v, b', e', k', V', v1, v2, v3, v4, q1, q2⟩
theorem wn_ln (hN : 100000 ≤ N) (ht : TX text textM B n) (h : TP N text textM B n p b e k V) (rw_ : Nat → Int64) {m : Nat} (hm : m < 8) :
    (f_X3_readWordOrNothing N text (nI n) (nI p) = some (0, nI e, nI k, nI b, nI (e - b), V) ∧ f_X7_readsWord N textM (nI n) rw_ (nI m) (nI e) (nI b) (nI e) = some (0, rw_, nI e, nI b, nI e)) ∨
    (∃ w b' e' k' V', (w = 0 ∨ isW 9 w) ∧ f_X3_readWordOrNothing N text (nI n) (nI p) = some (1, nI e, nI k, nI b, nI (e - b), lN w) ∧ TP N text textM B n e b' e' k' V' ∧ f_X7_readsWord N textM (nI n) rw_ (nI m) (nI e) (nI b) (nI e) = some (1, vp_updL rw_ m (lN w), nI e', nI b', nI e')) := by
  obtain ⟨a1, a2⟩ := wn6 h ht.1.1 (fun i hi => (ht.1.2 i hi).2)
  obtain ⟨r1, r2⟩ := wn7 hN h ht rw_ hm
  by_cases c : wnO B b e k
  · obtain ⟨b', e', k', V', q1, q2⟩ := r1 c
    exact Or.inr ⟨_, b', e', k', V', wn_ok h.1 c, a1 c, q1, q2⟩
  · exact Or.inl ⟨a2 c, r2 c⟩
theorem wd_ln (hN : 100000 ≤ N) (ht : TX text textM B n) (h : TP N text textM B n p b e k V) {L : Nat} (hL : L ≤ 9) :
    (f_X3_readWord N text (nI n) (nI p) (nI L) = some (0, nI e, nI k, nI b, nI (e - b), V) ∧ f_X7_codeHere N textM (nI n) (nI b) (nI e) (nI L) = some (-1)) ∨
    (∃ c, isW L c ∧ f_X3_readWord N text (nI n) (nI p) (nI L) = some (1, nI e, nI k, nI b, nI (e - b), lN c) ∧ f_X7_codeHere N textM (nI n) (nI b) (nI e) (nI L) = some (lN c)) := by
  obtain ⟨ok, o1, o2⟩ := word6 h ht.1.1 hL
  obtain ⟨r1, r2⟩ := code7 hN h ht hL
  cases ok with
  | false => exact Or.inl ⟨o1, r2 (fun q => absurd (o2.mpr q) (by decide))⟩
  | true =>
    have q := o2.mp rfl
    have hV := h.2.2.1 q.1
    have hk := q.1
    subst hk
    exact Or.inr ⟨_, isW_up (tp_code h.1 (Nat.le_trans q.2 hL)) q.2, by rw [o1, hV]; rfl, r1 q⟩
theorem lN_nm1 {c : Nat} (h : c < 2 ^ 63) : ¬ lN c = (-1 : Int64) := fun q => by
  have := congrArg Int64.toInt q
  rw [pk_lT h] at this
  have e : (-1 : Int64).toInt = -1 := by decide
  omega
theorem ln_let (hN : 100000 ≤ N) (ht : TX text textM B n) (h : TP N text textM B n p b e k V) (n1 read : Nat → Int32) (rw_ : Nat → Int64) {m : Nat} (hm : m < 8) (P S : Int32) (syl : Nat → Int32) :
    (∃ p' t' bf y' v' read' at' en', bf < 1000 ∧ f_X3_readLetter N text (nI n) (nI p) n1 = some (0, p', t', nI bf, y', v', n1) ∧ f_X7_readsRest N textM (nI n) read rw_ (nI m) (nI e) (nI b) (nI e) P S syl 0 = some (0, read', rw_, at', nI bf, en', S, syl)) ∨
    (∃ l v pe t' bg y' v' b' e' k' V', l < 26 ∧ v ≤ 99 ∧ f_X3_readLetter N text (nI n) (nI p) n1 = some (1, nI pe, t', bg, y', v', upd n1 l (nI v)) ∧ TP N text textM B n pe b' e' k' V' ∧ f_X7_readsRest N textM (nI n) read rw_ (nI m) (nI e) (nI b) (nI e) P S syl 0 = some (1, upd (upd read (5 * m + 1) (nI l)) (5 * m + 2) (nI v), rw_, nI e', nI b', nI e', S, syl)) := by
  obtain ⟨l1, l2, l3, l4⟩ := Tok_le h.1
  have hn := ht.1.1
  have m5 : (5 : Int32) * nI m = nI (5 * m) := pk_mul 5 m
  unfold f_X3_readLetter f_X7_readsRest f_X7_readsLetter
  rw [zl_let, zl_let, if_pos rfl]
  rcases wd_ln hN ht h (L := 1) (by decide) with ⟨q1, q2⟩ | ⟨c, hc, q1, q2⟩
  · rw [zl_b6 (show f_X3_readWord N text (nI n) (nI p) (1 : Int32) = _ from q1), if_pos rfl, zl_b1 (show f_X7_codeHere N textM (nI n) (nI b) (nI e) (1 : Int32) = _ from q2), if_pos rfl]
    exact Or.inl ⟨_, _, b, _, _, _, _, _, tp_bd ht h, rfl, rfl⟩
  · have hc27 : c < 27 := hc.2.1
    have hc0 : c ≠ 0 := hc.1
    obtain ⟨b1, e1, k1, V1, h1⟩ := TP_at N hN ht l3
    obtain ⟨g1, g2, g3, g4⟩ := Tok_le h1.1
    rw [zl_b6 (show f_X3_readWord N text (nI n) (nI p) (1 : Int32) = _ from q1), if_neg (by decide), zl_b1 (cd_last (by omega) (by omega)), show c % 27 - 1 = c - 1 by omega, zl_b1 (zl_isLetter hc0 hc27), if_neg (by decide), zl_b1 (show f_X7_codeHere N textM (nI n) (nI b) (nI e) (1 : Int32) = _ from q2), if_neg (lN_nm1 (by omega)), m5, nI_1, zl_gd (zl_inN (show 5 * m + 1 < 40 by omega) (by decide)), zl_let, lN_i, zl_cl (show 5 * m + 1 < 2 ^ 31 by omega), zl_b3 h1.2.2.2.2.2, show nI c - (1 : Int32) = nI (c - 1) from pk_sub (show 1 ≤ c by omega), zl_b5 rfl, if_neg (by decide)]
    rcases num_l1 hN ht h1 (upd read (5 * m + 1) (nI (c - 1))) hm (s := 1) (by decide) 0 99 with ⟨r1, r2⟩ | ⟨v, b', e', k', V', v1, v2, v3, r1, hq, r2⟩
    · rw [zl_b6 r1, if_pos rfl, zl_b5 (show f_X7_reads N textM (nI n) (upd read (5 * m + 1) (nI (c - 1))) (nI m) (nI e1) (nI b1) (nI e1) (1 : Int32) 0 99 (-1) = _ from r2), if_pos rfl]
      exact Or.inl ⟨_, _, b1, _, _, _, _, _, tp_bd ht h1, rfl, rfl⟩
    · rw [zl_b6 r1, if_neg (by decide), zl_gd (zl_inN (show c - 1 < 26 by omega) (by decide)), zl_let, zl_cl (show c - 1 < 2 ^ 31 by omega), lN_i, zl_b5 (show f_X7_reads N textM (nI n) (upd read (5 * m + 1) (nI (c - 1))) (nI m) (nI e1) (nI b1) (nI e1) (1 : Int32) 0 99 (-1) = _ from r2), if_neg (by decide)]
      exact Or.inr ⟨c - 1, v, e1, _, _, _, _, b', e', k', V', by omega, (show v ≤ 99 by
        have : (99 : Int32).toInt = 99 := by decide
        omega), rfl, hq, rfl⟩
theorem sy32 {a : AW} {syl : Nat → Int32} (hok : zOK a) (hs : ∀ i, i < aSC a → syl i = nI (aS a i)) {c : Nat} (hc : c < 27 ^ 3) (K) : ∀ (d i f : Nat), i + d = aSC a → d < f → ∃ z : Bool, f_X7_readsSyl_L32 N K (nI (aSC a)) syl (lN c) f 1 (nI i) = K (zBo z) ∧ (z = true ↔ ¬ ∃ j, i ≤ j ∧ j < aSC a ∧ aS a j = c) := by
  have h10 : aSC a ≤ 10 := hok.2.1
  intro d
  induction d with
  | zero =>
    intro i f hi hf
    obtain ⟨f, rfl⟩ : ∃ g, f = g + 1 := ⟨f - 1, by omega⟩
    rw [f_X7_readsSyl_L32_s, if_pos (nI_le (by omega) (by omega))]
    exact ⟨true, rfl, fun _ ⟨j, j1, j2, _⟩ => by omega, fun _ => rfl⟩
  | succ d ih =>
    intro i f hi hf
    obtain ⟨f, rfl⟩ : ∃ g, f = g + 1 := ⟨f - 1, by omega⟩
    have hb : aS a i < 27 ^ 3 := (hok.2.2.1 i (by omega)).2.1
    obtain ⟨z, z1, z2⟩ := ih (i + 1) f (by omega) (by omega)
    rw [f_X7_readsSyl_L32_s, if_neg (nI_ge (by omega) (by omega)), if_neg (by decide), zl_gd (zl_inN (show i < 18 by omega) (by decide)), zl_let, zl_cl (show i < 2 ^ 31 by omega), hs i (by omega), lN_i]
    by_cases q : aS a i = c
    · rw [if_pos (by rw [q])]
      dsimp only
      rw [zl_let]
      obtain ⟨f, rfl⟩ : ∃ g, f = g + 1 := ⟨f - 1, by omega⟩
      rw [f_X7_readsSyl_L32_s, if_pos rfl, ite_self]
      exact ⟨false, rfl, fun w => by (cases w), fun w => absurd ⟨i, Nat.le_refl _, by omega, q⟩ w⟩
    · rw [if_neg (fun w => q ((nI_eq (by omega) (by omega)).mp w))]
      dsimp only
      rw [zl_let, nI_1, z1]
      refine ⟨z, rfl, z2.trans ⟨fun w ⟨j, j1, j2, j3⟩ => ?_, fun w ⟨j, j1, j2, j3⟩ => w ⟨j, by omega, j2, j3⟩⟩⟩
      by_cases ej : j = i
      · rw [ej] at j3
        exact q j3
      · exact w ⟨j, by omega, j2, j3⟩
end
