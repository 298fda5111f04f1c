/-! ===== nicknames ===== -/
def cdl : List Nat → Nat
  | [] => 0
  | x :: xs => x + 27 * cdl xs
theorem cdl_lt : ∀ {L : List Nat}, (∀ x ∈ L, x < 27) → cdl L < 27 ^ L.length := by
  intro L
  induction L with
  | nil =>
    intro _
    decide
  | cons x xs ih =>
    intro h
    have h1 := ih (fun y hy => h y (List.mem_cons_of_mem _ hy))
    have h2 := h x List.mem_cons_self
    rw [List.length_cons, Nat.pow_succ, cdl]
    omega
theorem p13 : (27 : Nat) ^ 13 < 2 ^ 63 := by decide
theorem zL_cdl : ∀ {L : List Nat}, (∀ x ∈ L, x ≠ 0 ∧ x < 27) → L.length ≤ 13 → zL (cdl L) = L := by
  intro L
  induction L with
  | nil =>
    intro _ _
    rfl
  | cons x xs ih =>
    intro h hl
    have h0 := h x List.mem_cons_self
    have hlt := cdl_lt (L := x :: xs) (fun y hy => (h y hy).2)
    rw [List.length_cons] at hl
    have hp : 27 ^ (x :: xs).length ≤ 27 ^ 13 := Nat.pow_le_pow_right (by decide) (by rw [List.length_cons]; exact hl)
    have h63 : cdl (x :: xs) < 2 ^ 63 := Nat.lt_trans (Nat.lt_of_lt_of_le hlt hp) p13
    rw [cdl] at h63 ⊢
    rw [zL_s (by omega) h63, show (x + 27 * cdl xs) % 27 = x by omega, show (x + 27 * cdl xs) / 27 = cdl xs by omega, ih (fun y hy => h y (List.mem_cons_of_mem _ hy)) (by omega)]
theorem cdl_zL : ∀ (k n : Nat), (zL n).length ≤ k → n < 2 ^ 63 → cdl (zL n) = n := by
  intro k
  induction k with
  | zero =>
    intro n hk h
    by_cases c : n = 0
    · rw [c]
      rfl
    · rw [zL_s c h, List.length_cons] at hk
      omega
  | succ k ih =>
    intro n hk h
    by_cases c : n = 0
    · rw [c]
      rfl
    · rw [zL_s c h, List.length_cons] at hk
      rw [zL_s c h, cdl, ih (n / 27) (by omega) (by omega)]
      omega
theorem zL_inj {x y : Nat} (hx : x < 2 ^ 63) (hy : y < 2 ^ 63) (h : zL x = zL y) : x = y := by
  rw [← cdl_zL _ x (Nat.le_refl _) hx, ← cdl_zL _ y (Nat.le_refl _) hy, h]
def pkm : Nat → List Nat → List Nat
  | _, [] => []
  | m, x :: xs => if m % 2 = 1 then x :: pkm (m / 2) xs else pkm (m / 2) xs
theorem pkm_sub : ∀ (L : List Nat) (m : Nat), (pkm m L).Sublist L := by
  intro L
  induction L with
  | nil =>
    intro m
    exact List.Sublist.slnil
  | cons x xs ih =>
    intro m
    rw [pkm]
    by_cases c : m % 2 = 1
    · rw [if_pos c]
      exact (ih _).cons_cons x
    · rw [if_neg c]
      exact (ih _).cons x
theorem pkm_all : ∀ {S L : List Nat}, S.Sublist L → ∃ m, m < 2 ^ L.length ∧ pkm m L = S := by
  intro S L h
  induction h with
  | slnil => exact ⟨0, by decide, rfl⟩
  | @cons l1 l2 a h ih =>
    obtain ⟨m, m1, m2⟩ := ih
    refine ⟨2 * m, by rw [List.length_cons, Nat.pow_succ]; omega, ?_⟩
    rw [pkm, if_neg (by omega), show 2 * m / 2 = m by omega, m2]
  | @cons_cons l1 l2 a h ih =>
    obtain ⟨m, m1, m2⟩ := ih
    refine ⟨2 * m + 1, by rw [List.length_cons, Nat.pow_succ]; omega, ?_⟩
    rw [pkm, if_pos (by omega), show (2 * m + 1) / 2 = m by omega, m2]
theorem pkm_0 : ∀ (L : List Nat), pkm 0 L = [] := by
  intro L
  induction L with
  | nil => rfl
  | cons x xs ih =>
    rw [pkm, if_neg (by decide)]
    exact ih
theorem pkm_full : ∀ (L : List Nat), pkm (2 ^ L.length - 1) L = L := by
  intro L
  induction L with
  | nil => rfl
  | cons x xs ih =>
    have hp : 0 < 2 ^ xs.length := Nat.pow_pos (by decide)
    have e : 2 ^ (x :: xs).length - 1 = 2 * (2 ^ xs.length - 1) + 1 := by
      rw [List.length_cons, Nat.pow_succ]
      omega
    rw [e, pkm, if_pos (by omega), show (2 * (2 ^ xs.length - 1) + 1) / 2 = 2 ^ xs.length - 1 by omega, ih]
theorem pkm_len : ∀ (L : List Nat) (m : Nat), m < 2 ^ L.length → (0 < m → 0 < (pkm m L).length) ∧ (m < 2 ^ L.length - 1 → (pkm m L).length < L.length) := by
  intro L
  induction L with
  | nil =>
    intro m hm
    have : m < 1 := hm
    exact ⟨fun h => by omega, fun h => by
      have : m < 1 - 1 := h
      omega⟩
  | cons x xs ih =>
    intro m hm
    rw [List.length_cons, Nat.pow_succ] at hm
    obtain ⟨i1, i2⟩ := ih (m / 2) (by omega)
    have hs := (pkm_sub xs (m / 2)).length_le
    rw [pkm, List.length_cons, Nat.pow_succ]
    by_cases c : m % 2 = 1
    · rw [if_pos c, List.length_cons]
      exact ⟨fun _ => by omega, fun h => by
        have := i2 (by omega)
        omega⟩
    · rw [if_neg c]
      exact ⟨fun h => i1 (by omega), fun h => by omega⟩
theorem bt_nat {n i : Nat} (hi : i < 32) : bt (nI n) i = decide (n / 2 ^ i % 2 = 1) := by
  show (BitVec.ofNat 32 n).getLsbD i = _
  rw [BitVec.getLsbD_ofNat, decide_eq_true hi, Bool.true_and, Nat.testBit_eq_decide_div_mod_eq]
theorem nk89 (N m r : Nat) (hr : r ≤ 9) (K) : ∀ (L : List Nat) (n i f v8 v12 : Nat), zL n = L → n < 2 ^ 63 → i + L.length = r → L.length < f → f_X7_nicknames_L89 N K (nI r) (nI m) f (lN v8) (lN n) (lN v12) (nI i) = K (lN (v8 + v12 * cdl (pkm (m / 2 ^ i) L))) := by
  intro L
  induction L with
  | nil =>
    intro n i f v8 v12 hz hn hi hf
    obtain ⟨f', rfl⟩ : ∃ f', f = f' + 1 := ⟨f - 1, by omega⟩
    rw [List.length_nil] at hi
    rw [f_X7_nicknames_L89_s, if_pos (nI_le (by omega) (by omega))]
    rfl
  | cons x xs ih =>
    intro n i f v8 v12 hz hn hi hf
    rw [List.length_cons] at hi hf
    obtain ⟨f', rfl⟩ : ∃ f', f = f' + 1 := ⟨f - 1, by omega⟩
    have c : n ≠ 0 := fun e => by
      rw [e] at hz
      cases hz
    rw [zL_s c hn] at hz
    have e1 : n % 27 = x := (List.cons.inj hz).1
    have e2 : zL (n / 27) = xs := (List.cons.inj hz).2
    have e3 : m / 2 ^ i / 2 = m / 2 ^ (i + 1) := by rw [Nat.div_div_eq_div_mul, ← Nat.pow_succ]
    rw [f_X7_nicknames_L89_s, if_neg (nI_ge (by omega) (by omega)), zl_b1 (has_eq (show i < 32 by omega)), bt_nat (show i < 32 by omega), zl_let, pkm, e3]
    by_cases c2 : m / 2 ^ i % 2 = 1
    · rw [decide_eq_true c2, if_neg (show ¬ (if true = true then (1 : Int32) else 0) = 0 by decide), zl_let, zl_let, cd_rem hn, if_pos c2]
      dsimp only
      rw [zl_let, zl_let, cd_div hn, nI_1, lN_mul, lN_add, show (27 : Int64) = lN 27 from rfl, lN_mul, ih (n / 27) (i + 1) f' _ _ e2 (by omega) (by omega) (by omega), cdl, e1, Nat.mul_add, Nat.mul_comm x v12, Nat.mul_assoc, Nat.add_assoc]
    · rw [decide_eq_false c2, if_pos (show (if false = true then (1 : Int32) else 0) = 0 from rfl), if_neg c2]
      dsimp only
      rw [zl_let, zl_let, cd_div hn, nI_1, ih (n / 27) (i + 1) f' _ _ e2 (by omega) (by omega) (by omega)]
theorem nk147 (N : Nat) {found : Nat → Int64} {fl : List Nat} (hl : zLi found fl) (hlen : fl.length ≤ 512) (h63 : ∀ y ∈ fl, y < 2 ^ 63) {y : Nat} (hy : y < 2 ^ 63) (K) : ∀ (suf pre : List Nat) (f : Nat), fl = pre ++ suf → suf.length + 1 < f → ∃ b : Bool, f_X7_nicknames_L147 N K (nI fl.length) found (lN y) f 1 (nI pre.length) = K (zBo b) ∧ (b = true ↔ ¬ y ∈ suf) := by
  intro suf
  induction suf with
  | nil =>
    intro pre f e hf
    obtain ⟨f', rfl⟩ : ∃ f', f = f' + 1 := ⟨f - 1, by omega⟩
    have e2 : fl.length = pre.length := by rw [e, List.append_nil]
    rw [f_X7_nicknames_L147_s, e2, if_pos (nI_le (Nat.le_refl _) (by omega))]
    exact ⟨true, rfl, fun _ q => by (cases q), fun _ => rfl⟩
  | cons x suf ih =>
    intro pre f e hf
    rw [List.length_cons] at hf
    obtain ⟨f', rfl⟩ : ∃ f', f = f' + 1 := ⟨f - 1, by omega⟩
    have e2 : fl.length = pre.length + (suf.length + 1) := by rw [e, List.length_append, List.length_cons]
    have hx : x < 2 ^ 63 := h63 x (by rw [e]; exact List.mem_append_right _ List.mem_cons_self)
    rw [f_X7_nicknames_L147_s, if_neg (nI_ge (by omega) (by omega)), if_neg (show ¬ (1 : Int32) = 0 by decide), zl_gd (zl_inN (show pre.length < 512 by omega) (by decide)), zl_let, zl_cl (show pre.length < 2 ^ 31 by omega), li_at hl e]
    by_cases c : x = y
    · rw [if_pos (show lN x = lN y by rw [c])]
      dsimp only
      rw [zl_let, nI_1]
      obtain ⟨f'', rfl⟩ : ∃ f'', f' = f'' + 1 := ⟨f' - 1, by omega⟩
      refine ⟨false, ?_, fun q => by (cases q), fun q => absurd (by rw [c]; exact List.mem_cons_self) q⟩
      rw [f_X7_nicknames_L147_s]
      by_cases c2 : nI fl.length ≤ nI (pre.length + 1)
      · rw [if_pos c2]
        rfl
      · rw [if_neg c2, if_pos rfl]
        rfl
    · rw [if_neg (show ¬ lN x = lN y from fun q => c ((pk_lEQ hx hy).mp q))]
      dsimp only
      rw [zl_let, nI_1]
      have ih2 := ih (pre ++ [x]) f' (by rw [e, List.append_assoc]; rfl) (by omega)
      rw [List.length_append, List.length_singleton] at ih2
      obtain ⟨b, b1, b2⟩ := ih2
      refine ⟨b, b1, b2.trans ?_⟩
      rw [List.mem_cons]
      constructor
      · rintro q (r | r)
        · exact c r.symm
        · exact q r
      · intro q r
        exact q (Or.inr r)
def nkG (a : AW) (D y : Nat) : Prop := aB a y = true ∧ aNm a y ∧ D % aSum a y = 0
def nkM (fl : List Nat) (v5 : Int64) : Prop := (fl = [] ∧ v5 = -1) ∨ ∃ x, x ∈ fl ∧ v5 = lN x ∧ ∀ z ∈ fl, x ≤ z
theorem sub_w {y W : Nat} (hW : isW 9 W) {m : Nat} (hm0 : 0 < m) (hm : m < 2 ^ (zL W).length - 1) (e : y = cdl (pkm m (zL W))) : isW 9 y ∧ zL y = pkm m (zL W) ∧ (zL y).length < (zL W).length := by
  obtain ⟨h0, h9, hD⟩ := isW_iff.mp hW
  have h63 := w_63 hW
  have hl := zL_lt h9 h63
  have hsub := pkm_sub (zL W) m
  have hd : ∀ x ∈ pkm m (zL W), x ≠ 0 ∧ x < 27 := fun x hx => ⟨zDg_iff.mp hD x (hsub.subset hx), zL_low W x (hsub.subset hx)⟩
  obtain ⟨l1, l2⟩ := pkm_len (zL W) m (by omega)
  have l1 := l1 hm0
  have l2 := l2 hm
  have ez : zL y = pkm m (zL W) := by
    rw [e]
    exact zL_cdl hd (by omega)
  have hlt : y < 27 ^ 9 := by
    have h1 := cdl_lt (L := pkm m (zL W)) (fun x hx => (hd x hx).2)
    rw [← e] at h1
    exact Nat.lt_of_lt_of_le h1 (Nat.pow_le_pow_right (by decide) (by omega))
  refine ⟨isW_iff.mpr ⟨?_, hlt, ?_⟩, ez, by rw [ez]; exact l2⟩
  · intro e0
    rw [e0] at ez
    rw [← ez] at l1
    exact absurd l1 (by decide)
  · rw [ez]
    exact zDg_iff.mpr (fun x hx => (hd x hx).1)
theorem nk62 (N : Nat) (hN : 100000 ≤ N) {a : AW} {row : Nat → Int32} {w : Nat → Int64} (hok : zOK a) (hra : zRA a row w 0) {p : Nat} (hp : p < aPC a) (hW : isW 9 (aW a p)) (K) : ∀ (d t f : Nat) (fl : List Nat) (v5 : Int64) (found : Nat → Int64), t + d = 2 ^ (zL (aW a p)).length - 1 → 1 ≤ t → d < f → zLi found fl → fl.length + 1 ≤ t → fl.Nodup → (∀ y, y ∈ fl ↔ ∃ m, 1 ≤ m ∧ m < t ∧ y = cdl (pkm m (zL (aW a p))) ∧ nkG a (aD a p) y) → nkM fl v5 → ∃ fl' v5' found', f_X7_nicknames_L62 N K row w (nI p) (nI (zL (aW a p)).length) f (nI fl.length) v5 (nI t) found = K (nI fl'.length) v5' found' ∧ fl'.length < 512 ∧ fl'.Nodup ∧ (∀ y, y ∈ fl' ↔ ∃ m, 1 ≤ m ∧ m < 2 ^ (zL (aW a p)).length - 1 ∧ y = cdl (pkm m (zL (aW a p))) ∧ nkG a (aD a p) y) ∧ nkM fl' v5' := by
  have hpc : aPC a ≤ 16 := hok.2.2.2.2.1
  have h63 := w_63 hW
  have hr : (zL (aW a p)).length ≤ 9 := zL_lt (isW_iff.mp hW).2.1 h63
  have hp2 : 2 ^ (zL (aW a p)).length ≤ 2 ^ 9 := Nat.pow_le_pow_right (by decide) hr
  have e9 : (2 : Nat) ^ 9 = 512 := rfl
  have hp0 : 0 < 2 ^ (zL (aW a p)).length := Nat.pow_pos (by decide)
  have hsh : ((1 : Int32) <<< (nI (zL (aW a p)).length &&& 31)) - (1 : Int32) = nI (2 ^ (zL (aW a p)).length - 1) := by
    have : ∀ h, h < 10 → ((1 : Int32) <<< (nI h &&& 31)) = nI (2 ^ h) := by decide +kernel
    rw [this _ (by omega), show (1 : Int32) = nI 1 from rfl, pk_sub hp0]
  have hd := hok.2.2.2.2.2.1 p hp
  obtain ⟨g0, _, _, g3⟩ := zl_p55 hra hp
  intro d
  induction d with
  | zero =>
    intro t f fl v5 found ht ht1 hf hl hlen hnd hmem hmin
    obtain ⟨f', rfl⟩ : ∃ f', f = f' + 1 := ⟨f - 1, by omega⟩
    rw [f_X7_nicknames_L62_s, hsh, if_pos (nI_le (by omega) (by omega))]
    rw [show t = 2 ^ (zL (aW a p)).length - 1 by omega] at hmem
    exact ⟨fl, v5, found, rfl, by omega, hnd, hmem, hmin⟩
  | succ d ih =>
    intro t f fl v5 found ht ht1 hf hl hlen hnd hmem hmin
    obtain ⟨f', rfl⟩ : ∃ f', f = f' + 1 := ⟨f - 1, by omega⟩
    obtain ⟨y, hy⟩ : ∃ y, y = cdl (pkm t (zL (aW a p))) := ⟨_, rfl⟩
    obtain ⟨yW, yz, yl⟩ := sub_w hW (show 0 < t by omega) (show t < 2 ^ (zL (aW a p)).length - 1 by omega) hy
    have y63 := w_63 yW
    obtain ⟨y0, y9, yD⟩ := isW_iff.mp yW
    have ysl := aSum_le hok y63
    have fl63 : ∀ z ∈ fl, z < 2 ^ 63 := fun z hz => by
      obtain ⟨m, m1, m2, m3, _⟩ := (hmem z).mp hz
      exact w_63 (sub_w hW (show 0 < m by omega) (show m < 2 ^ (zL (aW a p)).length - 1 by omega) m3).1
    have skip : (nkG a (aD a p) y → y ∈ fl) → ∃ fl' v5' found', f_X7_nicknames_L62 N K row w (nI p) (nI (zL (aW a p)).length) f' (nI fl.length) v5 (nI (t + 1)) found = K (nI fl'.length) v5' found' ∧ fl'.length < 512 ∧ fl'.Nodup ∧ (∀ y, y ∈ fl' ↔ ∃ m, 1 ≤ m ∧ m < 2 ^ (zL (aW a p)).length - 1 ∧ y = cdl (pkm m (zL (aW a p))) ∧ nkG a (aD a p) y) ∧ nkM fl' v5' := fun hno => by
      refine ih (t + 1) f' fl v5 found (by omega) (by omega) (by omega) hl (by omega) hnd (fun z => ?_) hmin
      constructor
      · intro hz
        obtain ⟨m, m1, m2, m3⟩ := (hmem z).mp hz
        exact ⟨m, m1, by omega, m3⟩
      · rintro ⟨m, m1, m2, m3, m4⟩
        by_cases e : m = t
        · rw [e, ← hy] at m3
          rw [m3] at m4 ⊢
          exact hno m4
        · exact (hmem z).mpr ⟨m, m1, by omega, m3, m4⟩
    rw [f_X7_nicknames_L62_s, hsh, if_neg (nI_ge (by omega) (by omega)), zl_let, zl_let, zl_cl (show p < 2 ^ 31 by omega), g3]
    have e89 := fun K => nk89 N t (zL (aW a p)).length hr K (zL (aW a p)) (aW a p) 0 N 0 1 rfl h63 (by omega) (by omega)
    rw [show ∀ K, f_X7_nicknames_L89 N K (nI (zL (aW a p)).length) (nI t) N 0 (lN (aW a p)) 1 0 = K (lN y) from fun K => by
      refine (e89 K).trans ?_
      rw [Nat.zero_add, Nat.one_mul, Nat.pow_zero, Nat.div_one, ← hy]]
    rw [zl_let]
    obtain ⟨b, b1, b2⟩ := nk147 N hl (by omega) fl63 y63 (fun (v14_41 : Int32) => zz_let (fun (v4_57 : Int32) (v5_58 : Int64) (t_found_59 : Nat → Int64) => zz_let (nI t + (1 : Int32)) (fun v7_60 => (f_X7_nicknames_L62 N K row w (nI p) (nI (zL (aW a p)).length) f' v4_57 v5_58 v7_60 t_found_59))) (fun k_56 => (if v14_41 = 0 then (k_56 (nI fl.length) v5 found) else zz_b1 (f_X7_isName N row (lN y)) (fun r_43 => (if r_43 = 0 then (k_56 (nI fl.length) v5 found) else zz_gd (zz_in ((39 : Int32) + nI p) 300) (zz_b1 (f_X7_sumOf N row (lN y)) (fun r_46 => zz_gd (zz_nz r_46) ((if ((row ((39 : Int32) + nI p).toNatClampNeg) - (row ((39 : Int32) + nI p).toNatClampNeg) / r_46 * r_46) = 0 then zz_gd (zz_in (nI fl.length) 512) (zz_let (vp_updL found (nI fl.length).toNatClampNeg (lN y)) (fun t_found_50 => zz_let (nI fl.length + (1 : Int32)) (fun v4_51 => zz_let (fun (q_55 : Int64) => (k_56 v4_51 q_55 t_found_50)) (fun k_54 => (if v5 = (-1 : Int64) then (k_54 (lN y)) else (if v5 ≤ lN y then (k_54 v5) else (k_54 (lN y)))))))) else (k_56 (nI fl.length) v5 found)))))))))) fl [] N rfl (by omega)
    rw [show f_X7_nicknames_L147 N _ (nI fl.length) found (lN y) N 1 0 = _ from b1, zl_let]
    cases b with
    | false =>
      rw [if_pos (show zBo false = 0 from rfl)]
      dsimp only
      rw [zl_let, nI_1]
      refine skip (fun _ => ?_)
      by_cases c : y ∈ fl
      · exact c
      · exact absurd (b2.mpr c) (by decide)
    | true =>
      have hny : ¬ y ∈ fl := b2.mp rfl
      rw [if_neg (show ¬ zBo true = 0 by decide)]
      rcases name7 N hN hok hra yW with ⟨r1, r2⟩ | ⟨r1, r2⟩
      · have hpos := aSum_pos y0 y63 r1.1
        rw [zl_bT r2, show (39 : Int32) = nI 39 from rfl, nI_add, zl_gd (zl_inN (show 39 + p < 300 by omega) (by decide)), zl_b1 (sum7 N hN (zl_row0 hra) y63 yD), zl_cl (show 39 + p < 2 ^ 31 by omega), g0, zl_gd (show zz_nz (nI (aSum a y)) = true from decide_eq_true (nI_ne0 hpos (by omega))), pk_rem (by omega) hpos (by omega)]
        by_cases c : aD a p % aSum a y = 0
        · rw [if_pos (show nI (aD a p % aSum a y) = 0 by rw [c]; rfl), zl_gd (zl_inN (show fl.length < 512 by omega) (by decide)), zl_let, zl_let, zl_let, nI_1, zl_cl (show fl.length < 2 ^ 31 by omega)]
          have take : ∀ v5', nkM (fl ++ [y]) v5' → ∃ fl' v5'' found', f_X7_nicknames_L62 N K row w (nI p) (nI (zL (aW a p)).length) f' (nI (fl.length + 1)) v5' (nI (t + 1)) (vp_updL found fl.length (lN y)) = K (nI fl'.length) v5'' found' ∧ fl'.length < 512 ∧ fl'.Nodup ∧ (∀ y, y ∈ fl' ↔ ∃ m, 1 ≤ m ∧ m < 2 ^ (zL (aW a p)).length - 1 ∧ y = cdl (pkm m (zL (aW a p))) ∧ nkG a (aD a p) y) ∧ nkM fl' v5'' := fun v5' hm => by
            have hi := ih (t + 1) f' (fl ++ [y]) v5' (vp_updL found fl.length (lN y)) (by omega) (by omega) (by omega) (li_snoc hl) (by rw [List.length_append, List.length_singleton]; omega) (by
              rw [List.nodup_append]
              refine ⟨hnd, ?_, fun u hu v hv => ?_⟩
              · rw [List.nodup_cons]
                exact ⟨fun q => by (cases q), List.nodup_nil⟩
              · rw [List.mem_singleton] at hv
                rw [hv]
                exact fun e => hny (e ▸ hu)) (fun z => by
              rw [List.mem_append, List.mem_singleton]
              constructor
              · rintro (hz | hz)
                · obtain ⟨m, m1, m2, m3⟩ := (hmem z).mp hz
                  exact ⟨m, m1, by omega, m3⟩
                · rw [hz]
                  exact ⟨t, ht1, by omega, hy, r1.1, r1.2, c⟩
              · rintro ⟨m, m1, m2, m3, m4⟩
                by_cases e : m = t
                · rw [e, ← hy] at m3
                  exact Or.inr m3
                · exact Or.inl ((hmem z).mpr ⟨m, m1, by omega, m3, m4⟩)) hm
            rw [List.length_append, List.length_singleton] at hi
            exact hi
          rcases hmin with ⟨m1, m2⟩ | ⟨x, x1, x2, x3⟩
          · rw [if_pos m2]
            dsimp only
            rw [zl_let, nI_1]
            refine take _ (Or.inr ⟨y, List.mem_append_right _ (List.mem_singleton.mpr rfl), rfl, fun z hz => ?_⟩)
            rw [m1, List.nil_append, List.mem_singleton] at hz
            omega
          · have x63 := fl63 x x1
            rw [if_neg (show ¬ v5 = (-1 : Int64) from fun q => by
              rw [x2] at q
              have := congrArg Int64.toInt q
              rw [pk_lT x63] at this
              have h1 : (-1 : Int64).toInt = -1 := rfl
              omega), x2]
            by_cases c5 : x ≤ y
            · rw [if_pos ((pk_lLE x63 y63).mpr c5)]
              dsimp only
              rw [zl_let, nI_1]
              refine take _ (Or.inr ⟨x, List.mem_append_left _ x1, rfl, fun z hz => ?_⟩)
              rcases List.mem_append.mp hz with hz | hz
              · exact x3 z hz
              · rw [List.mem_singleton] at hz
                omega
            · rw [if_neg (fun q => c5 ((pk_lLE x63 y63).mp q))]
              dsimp only
              rw [zl_let, nI_1]
              refine take _ (Or.inr ⟨y, List.mem_append_right _ (List.mem_singleton.mpr rfl), rfl, fun z hz => ?_⟩)
              rcases List.mem_append.mp hz with hz | hz
              · have := x3 z hz
                omega
              · rw [List.mem_singleton] at hz
                omega
        · rw [if_neg (nI_ne0 (by omega) (Nat.lt_of_le_of_lt (Nat.mod_le _ _) (by omega)))]
          dsimp only
          rw [zl_let, nI_1]
          exact skip (fun q => absurd q.2.2 c)
      · rw [zl_bF r2]
        dsimp only
        rw [zl_let, nI_1]
        exact skip (fun q => absurd ⟨q.1, q.2.1⟩ r1)
