/-! ===== pure rows: hope ===== -/
def aSet (a : AW) (f : Nat) (g : Nat → Nat) : AW := fun f' i => if f' = f then g i else a f' i
def nup (g : Nat → Nat) (i x : Nat) : Nat → Nat := fun k => if k = i then x else g k
theorem nup_s {g : Nat → Nat} {i x : Nat} : nup g i x i = x := if_pos rfl
theorem nup_n {g : Nat → Nat} {i x k : Nat} (h : k ≠ i) : nup g i x k = g k := if_neg h
theorem zRA_far {a : AW} {row row' : Nat → Int32} {w w' : Nat → Int64} {o : Nat} (ho : 1 ≤ o) (hok : zOK a) (h : ∀ x, 100 ≤ x → row' x = row x) (h' : ∀ x, 16 ≤ x → w' x = w x) (q : zRA a row w o) : zRA a row' w' o := by
  obtain ⟨q1, q2, q3, q4, q5, q6, q7, q8⟩ := q
  refine ⟨fun i hi => by rw [h _ (by omega)]; exact q1 i hi, by rw [h _ (by omega)]; exact q2, fun i hi => by rw [h _ (by omega)]; exact q3 i hi, by rw [h _ (by omega)]; exact q4, by rw [h _ (by omega)]; exact q5, fun p hp => ?_, by rw [h _ (by omega)]; exact q7, fun i hi => ?_⟩
  · rw [h _ (by omega), h _ (by omega), h _ (by omega), h' _ (by omega)]
    exact q6 p hp
  · rw [h _ (by omega), h _ (by omega)]
    exact q8 i hi
theorem zIm_far {c : Nat → ClassId} {k : Nat} {ir : Option Nat} {g : va_W} {kept : Int32} {row row' : Nat → Int32} {w w' : Nat → Int64} (h : ∀ x, 100 ≤ x → row' x = row x) (h' : ∀ x, 16 ≤ x → w' x = w x) (q : zIm c k ir g kept row w) : zIm c k ir g kept row' w' := by
  rcases q with q | ⟨v, ak, b1, b2, b3, b4, b5, b6, b7, b8, b9, b10, b11, b12, b13, e1, e2, e3, e4, e5, e6⟩
  · exact Or.inl q
  · exact Or.inr ⟨v, ak, b1, b2, b3, b4, b5, b6, b7, b8, b9, b10, b11, b12, b13, e1, e2, e3, e4, e5, zRA_far (by omega) e4 h h' e6⟩
def aHope (a : AW) (d t : Nat) : AW := aSet (aSet (aSet a 8 (fun _ => aHC a + 1)) 9 (nup (a 9) (aHC a) d)) 10 (nup (a 10) (aHC a) t)
theorem ho_step (N : Nat) {a : AW} {n1 : Nat → Int32} {n2 : Nat → Int64} {n3 : Int32} {n4 : Nat → Int32} {n5 : Nat → Int64} {n6 n7 n8 : Nat → Int32} {n9 : Int32} {hd ht : Nat → Int32} {hc n13 : Int32} {row : Nat → Int32} {w : Nat → Int64} (hok : zOK a) (hw : zWA a n1 n2 n3 n4 n5 n6 n7 n8 n9 hd ht hc n13) (hra : zRA a row w 0) (hh : aHC a < 6) {d t : Nat} (d1 : 1 ≤ d) (d2 : d ≤ 400) (ht10 : t ≤ 10) : ∃ row', f_X5_addHope N hd ht hc (nI d) (nI t) = some (upd hd (aHC a) (nI d), upd ht (aHC a) (nI t), nI (aHC a + 1)) ∧ f_X7_hopeFor N row (nI d) (nI t) = some row' ∧ zOK (aHope a d t) ∧ zWA (aHope a d t) n1 n2 n3 n4 n5 n6 n7 n8 n9 (upd hd (aHC a) (nI d)) (upd ht (aHC a) (nI t)) (nI (aHC a + 1)) n13 ∧ zRA (aHope a d t) row' w 0 ∧ ∀ x, 100 ≤ x → row' x = row x := by
  obtain ⟨k1, k2, k3, k4, k5, k6, k7, k8, k9, k10⟩ := hok
  obtain ⟨w1, w2, w3, w4, w5, w6, w7, w8⟩ := hw
  obtain ⟨r1, r2, r3, r4, r5, r6, r7, r8⟩ := hra
  have e87 : row 87 = nI (aHC a) := r7
  have hat : ∀ i, i < aHC a + 1 → nup (a 9) (aHC a) d i = (if i = aHC a then d else aHD a i) ∧ nup (a 10) (aHC a) t i = (if i = aHC a then t else aHT a i) := fun i hi => ⟨rfl, rfl⟩
  refine ⟨upd (upd (upd row (88 + aHC a) (nI d)) (94 + aHC a) (nI t)) 87 (nI (aHC a + 1)), ?_, ?_, ⟨k1, k2, k3, k4, k5, k6, hh, fun i hi => ?_, k9, k10⟩, ⟨w1, w2, w3, w4, w5, rfl, fun i hi => ?_, w8⟩, ⟨fun i hi => ?_, ?_, fun i hi => ?_, ?_, ?_, fun p hp => ?_, ?_, fun i hi => ?_⟩, fun x hx => ?_⟩
  · unfold f_X5_addHope
    rw [w6, if_pos (show nI (aHC a) < 6 from nI_lt (b := 6) hh (by decide)), zl_gd (zl_inN hh (by decide)), zl_let, zl_let, zl_let, zl_cl (by omega), nI_1]
  · unfold f_X7_hopeFor
    rw [show (87 : Int32).toNatClampNeg = 87 from rfl, e87, show (88 : Int32) = nI 88 from rfl, nI_add, zl_gd (zl_inN (by omega) (by decide)), zl_let, zl_cl (by omega), pk_un (show (87 : Nat) ≠ 88 + aHC a by omega), e87, show (94 : Int32) = nI 94 from rfl, nI_add, zl_gd (zl_inN (by omega) (by decide)), zl_let, zl_cl (by omega), pk_un (show (87 : Nat) ≠ 94 + aHC a by omega), pk_un (show (87 : Nat) ≠ 88 + aHC a by omega), e87, nI_1, zl_let]
  · have hi : i < aHC a + 1 := hi
    show 1 ≤ nup (a 9) (aHC a) d i ∧ nup (a 9) (aHC a) d i ≤ 400 ∧ nup (a 10) (aHC a) t i ≤ 10
    by_cases e : i = aHC a
    · subst e
      rw [nup_s, nup_s]
      omega
    · rw [nup_n e, nup_n e]
      exact k8 i (by omega)
  · have hi : i < aHC a + 1 := hi
    show upd hd (aHC a) (nI d) i = nI (nup (a 9) (aHC a) d i) ∧ upd ht (aHC a) (nI t) i = nI (nup (a 10) (aHC a) t i)
    by_cases e : i = aHC a
    · subst e
      rw [nup_s, nup_s, pk_us, pk_us]
      exact ⟨rfl, rfl⟩
    · rw [nup_n e, nup_n e, pk_un e, pk_un e]
      exact w7 i (by omega)
  · rw [pk_un (by omega), pk_un (by omega), pk_un (by omega)]
    exact r1 i hi
  · rw [pk_un (by omega), pk_un (by omega), pk_un (by omega)]
    exact r2
  · have hi : i < aSC a := hi
    rw [pk_un (by omega), pk_un (by omega), pk_un (by omega)]
    exact r3 i hi
  · rw [pk_un (by omega), pk_un (by omega), pk_un (by omega)]
    exact r4
  · rw [pk_un (by omega), pk_un (by omega), pk_un (by omega)]
    exact r5
  · have hp : p < aPC a := hp
    rw [pk_un (by omega), pk_un (by omega), pk_un (by omega), pk_un (by omega), pk_un (by omega), pk_un (by omega), pk_un (by omega), pk_un (by omega), pk_un (by omega)]
    exact r6 p hp
  · rw [show 100 * 0 + 87 = 87 from rfl, pk_us]
    rfl
  · have hi : i < aHC a + 1 := hi
    show _ = nI (nup (a 9) (aHC a) d i) ∧ _ = nI (nup (a 10) (aHC a) t i)
    rw [pk_un (show 100 * 0 + 88 + i ≠ 87 by omega), pk_un (show 100 * 0 + 94 + i ≠ 87 by omega), pk_un (show 100 * 0 + 88 + i ≠ 94 + aHC a by omega)]
    by_cases e : i = aHC a
    · subst e
      rw [nup_s, nup_s, show 100 * 0 + 88 + aHC a = 88 + aHC a by omega, show 100 * 0 + 94 + aHC a = 94 + aHC a by omega, pk_us, pk_us]
      exact ⟨rfl, rfl⟩
    · rw [nup_n e, nup_n e, pk_un (by omega), pk_un (by omega), pk_un (by omega)]
      exact r8 i (by omega)
  · rw [pk_un (by omega), pk_un (by omega), pk_un (by omega)]
theorem ho_loop (N j p m t : Nat) (hj : j < 3) (hp : p + m ≤ 20) (ht10 : t ≤ 10) (s_items : Nat → Nat → Int32) (z_items : Nat → Int32) {n1 : Nat → Int32} {n2 : Nat → Int64} {n3 : Int32} {n4 : Nat → Int32} {n5 : Nat → Int64} {n6 n7 n8 : Nat → Int32} {n9 n13 : Int32} {w : Nat → Int64} (hit : ∀ i, i < m → ∃ d : Nat, 1 ≤ d ∧ d ≤ 400 ∧ s_items j (p + i) = nI d ∧ z_items (20 * j + p + i) = nI d) (k : (Nat → Int32) → (Nat → Int32) → Int32 → Option (Int32 × (Nat → Int32) × (Nat → Int32) × Int32)) (k7 : (Nat → Int32) → Option (Int32 × (Nat → Int32))) : ∀ (dd v f : Nat) (a : AW) (hd ht : Nat → Int32) (row : Nat → Int32), v + dd = m → dd < f → aHC a + dd ≤ 6 → zOK a → zWA a n1 n2 n3 n4 n5 n6 n7 n8 n9 hd ht (nI (aHC a)) n13 → zRA a row w 0 → ∃ a' hd' ht' row', f_X6_hope_L125 N k s_items (nI j) (nI p) (nI m) (nI t) f (nI v) hd ht (nI (aHC a)) = k hd' ht' (nI (aHC a')) ∧ f_X7_hope_L181 N k7 z_items (nI j) (nI p) (nI m) (nI t) f (nI v) row = k7 row' ∧ zOK a' ∧ zWA a' n1 n2 n3 n4 n5 n6 n7 n8 n9 hd' ht' (nI (aHC a')) n13 ∧ zRA a' row' w 0 ∧ ∀ x, 100 ≤ x → row' x = row x := by
  intro dd
  induction dd with
  | zero =>
    intro v f a hd ht row hv hf hc hok hw hra
    obtain ⟨f', rfl⟩ : ∃ f', f = f' + 1 := ⟨f - 1, by omega⟩
    refine ⟨a, hd, ht, row, ?_, ?_, hok, hw, hra, fun _ _ => rfl⟩
    · rw [f_X6_hope_L125_s, if_pos (nI_le (by omega) (by omega))]
    · rw [f_X7_hope_L181_s, if_pos (nI_le (by omega) (by omega))]
  | succ dd ih =>
    intro v f a hd ht row hv hf hc hok hw hra
    obtain ⟨f', rfl⟩ : ∃ f', f = f' + 1 := ⟨f - 1, by omega⟩
    obtain ⟨d, d1, d2, d3, d4⟩ := hit v (by omega)
    obtain ⟨row1, s1, s2, s3, s4, s5, s6⟩ := ho_step N hok hw hra (by omega) d1 d2 ht10
    obtain ⟨a', hd', ht', row', e1, e2, e3, e4, e5, e6⟩ := ih (v + 1) f' (aHope a d t) _ _ row1 (by omega) (by omega) (by show aHC a + 1 + dd ≤ 6; omega) s3 s4 s5
    refine ⟨a', hd', ht', row', ?_, ?_, e3, e4, e5, fun x hx => by rw [e6 x hx, s6 x hx]⟩
    · rw [f_X6_hope_L125_s, if_neg (nI_ge (by omega) (by omega)), nI_add, zl_gd (zl_inN (by omega) (by decide)), zl_cl (by omega), zl_cl (by omega), d3, zl_b3 s1, zl_let, nI_1]
      exact e1
    · rw [f_X7_hope_L181_s, if_neg (nI_ge (by omega) (by omega)), zl_20, nI_add, nI_add, zl_gd (zl_inN (by omega) (by decide)), zl_cl (by omega), d4, zl_b1 s2, zl_let, nI_1]
      exact e2
theorem zl_isDay (N : Nat) (p : Int32) : f_X6_isDay N p = some (if 1 ≤ p.toInt ∧ p.toInt ≤ 400 then 1 else 0) := by
  unfold f_X6_isDay
  have e1 : (1 : Int32).toInt = 1 := rfl
  have e4 : (400 : Int32).toInt = 400 := rfl
  by_cases c : 1 ≤ p.toInt ∧ p.toInt ≤ 400
  · rw [if_neg (show ¬ p < 1 by rw [fa_lt]; omega), if_neg (show ¬ 400 < p by rw [fa_lt]; omega), if_pos c]
  · rw [if_neg c]
    by_cases c1 : p < 1
    · rw [if_pos c1]
    · rw [if_neg c1, if_pos (show 400 < p by rw [fa_lt] at c1 ⊢; omega)]
theorem zl_7isDay (N : Nat) (p : Int32) : f_X7_isDay N p = some (if 1 ≤ p.toInt ∧ p.toInt ≤ 400 then 1 else 0) := by
  unfold f_X7_isDay
  by_cases c : 1 ≤ p.toInt ∧ p.toInt ≤ 400
  · rw [zl_b1 (zl_in7t (by rw [zl_wide]; exact c)), if_pos c]
    rfl
  · rw [zl_b1 (zl_in7f (by rw [zl_wide]; exact c)), if_neg c]
    rfl
theorem od_loop (N j p m : Nat) (hp : p + m ≤ 20) (s_items : Nat → Nat → Int32) : ∀ (dd v f : Nat), v + dd = m → dd < f → f_X4_hasOnlyDays_L2 N (some 1) s_items j (nI p) (nI m) f (nI v) = some (if (∀ i, i < m → v ≤ i → 1 ≤ (s_items j (p + i)).toInt ∧ (s_items j (p + i)).toInt ≤ 400) then 1 else 0) := by
  intro dd
  induction dd with
  | zero =>
    intro v f hv hf
    obtain ⟨f', rfl⟩ : ∃ f', f = f' + 1 := ⟨f - 1, by omega⟩
    rw [f_X4_hasOnlyDays_L2_s, if_pos (nI_le (by omega) (by omega)), if_pos (fun i h1 h2 => absurd h1 (by omega))]
  | succ dd ih =>
    intro v f hv hf
    obtain ⟨f', rfl⟩ : ∃ f', f = f' + 1 := ⟨f - 1, by omega⟩
    rw [f_X4_hasOnlyDays_L2_s, if_neg (nI_ge (by omega) (by omega)), nI_add, zl_gd (zl_inN (by omega) (by decide)), zl_cl (by omega)]
    by_cases c : 1 ≤ (s_items j (p + v)).toInt ∧ (s_items j (p + v)).toInt ≤ 400
    · rw [zl_bT (show f_X6_isDay N (s_items j (p + v)) = some 1 by rw [zl_isDay, if_pos c]), zl_let, nI_1, ih (v + 1) f' (by omega) (by omega)]
      congr 1
      by_cases q : ∀ i, i < m → v + 1 ≤ i → 1 ≤ (s_items j (p + i)).toInt ∧ (s_items j (p + i)).toInt ≤ 400
      · rw [if_pos q, if_pos]
        intro i h1 h2
        by_cases e : i = v
        · subst e
          exact c
        · exact q i h1 (by omega)
      · rw [if_neg q, if_neg (fun r => q (fun i h1 h2 => r i h1 (by omega)))]
    · rw [zl_bF (show f_X6_isDay N (s_items j (p + v)) = some 0 by rw [zl_isDay, if_neg c]), if_neg (fun r => c (r v (by omega) (Nat.le_refl v)))]
theorem od7_loop (N j p m : Nat) (hj : j < 3) (hp : p + m ≤ 20) (z_items : Nat → Int32) (k : Int32 → Option (Int32 × (Nat → Int32))) : ∀ (dd v f : Nat) (b : Prop) [Decidable b], v + dd = m → dd < f → f_X7_hope_L107 N k z_items (nI j) (nI p) (nI m) f (if b then 1 else 0) (nI v) = k (if (b ∧ ∀ i, i < m → v ≤ i → 1 ≤ (z_items (20 * j + p + i)).toInt ∧ (z_items (20 * j + p + i)).toInt ≤ 400) then 1 else 0) := by
  intro dd
  induction dd with
  | zero =>
    intro v f b _ hv hf
    obtain ⟨f', rfl⟩ : ∃ f', f = f' + 1 := ⟨f - 1, by omega⟩
    rw [f_X7_hope_L107_s, if_pos (nI_le (by omega) (by omega))]
    congr 1
    by_cases hb : b
    · rw [if_pos hb, if_pos ⟨hb, fun i h1 h2 => absurd h1 (by omega)⟩]
    · rw [if_neg hb, if_neg (fun q => hb q.1)]
  | succ dd ih =>
    intro v f b _ hv hf
    obtain ⟨f', rfl⟩ : ∃ f', f = f' + 1 := ⟨f - 1, by omega⟩
    rw [f_X7_hope_L107_s, if_neg (nI_ge (by omega) (by omega)), zl_let, nI_1]
    by_cases hb : b
    · rw [if_pos hb, if_neg (show ¬ (1 : Int32) = 0 by decide), zl_20, nI_add, nI_add, zl_gd (zl_inN (by omega) (by decide)), zl_cl (by omega)]
      by_cases c : 1 ≤ (z_items (20 * j + p + v)).toInt ∧ (z_items (20 * j + p + v)).toInt ≤ 400
      · rw [zl_bT (show f_X7_isDay N (z_items (20 * j + p + v)) = some 1 by rw [zl_7isDay, if_pos c])]
        have := ih (v + 1) f' True (by omega) (by omega)
        rw [if_pos trivial] at this
        refine this.trans ?_
        congr 1
        by_cases q : ∀ i, i < m → v + 1 ≤ i → 1 ≤ (z_items (20 * j + p + i)).toInt ∧ (z_items (20 * j + p + i)).toInt ≤ 400
        · rw [if_pos ⟨trivial, q⟩, if_pos]
          refine ⟨hb, fun i h1 h2 => ?_⟩
          by_cases e : i = v
          · subst e
            exact c
          · exact q i h1 (by omega)
        · rw [if_neg (fun r => q r.2), if_neg (fun r => q (fun i h1 h2 => r.2 i h1 (by omega)))]
      · rw [zl_bF (show f_X7_isDay N (z_items (20 * j + p + v)) = some 0 by rw [zl_7isDay, if_neg c])]
        have := ih (v + 1) f' False (by omega) (by omega)
        rw [if_neg (fun h => h)] at this
        refine this.trans ?_
        rw [if_neg (fun q => q.1), if_neg (fun r => c (r.2 v (by omega) (Nat.le_refl v)))]
    · rw [if_neg hb, if_pos rfl]
      have := ih (v + 1) f' False (by omega) (by omega)
      rw [if_neg (fun h => h)] at this
      refine this.trans ?_
      rw [if_neg (fun q => q.1), if_neg (fun r => hb r.1)]
