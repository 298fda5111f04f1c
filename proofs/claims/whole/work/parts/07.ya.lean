/-! ===== hopes: the sum of cases, the rooms ===== -/
theorem sh_pow : ∀ h, h < 7 → ((1 : Int32) <<< (nI h &&& 31)) = nI (2 ^ h) := by decide +kernel
theorem ws_both (N : Nat) (hN : 100000 ≤ N) {a : AW} {row room rooms hd ht : Nat → Int32} {w : Nat → Int64} {R : Nat → Nat} (hok : zOK a) (hra : zRA a row w 0) (hh : ∀ i, i < aHC a → hd i = nI (aHD a i)) (hh2 : ∀ i, i < aHC a → ht i = nI (aHT a i)) (hR : ∀ i, i < aHC a → room i = nI (R i) ∧ R i ≤ 1110) (hR' : ∀ i, i < aHC a → rooms i = nI (R i) ∧ R i ≤ 1110) (hRd : ∀ i j, i < aHC a → j < aHC a → aHD a i = aHD a j → R i = R j) (K6 : Int64 → Option Int64) (K7) : ∀ (d t f f' acc : Nat), t + d = 2 ^ aHC a → d < f → d < f' → ∃ A, A ≤ acc + d * 10 ^ aHC a ∧ f_X6_waysWithNames_L4 N K6 rooms hd ht (nI (aHC a)) f (lN acc) (nI t) = K6 (lN A) ∧ f_X7_hopes_L218 N K7 row room f' (lN acc) (nI t) = K7 (lN A) := by
  have hhc : aHC a ≤ 6 := hok.2.2.2.2.2.2.1
  have h87 : row (87 : Int32).toNatClampNeg = nI (aHC a) := hra.2.2.2.2.2.2.1
  have hp : 2 ^ aHC a ≤ 2 ^ 6 := Nat.pow_le_pow_right (by decide) hhc
  have hp6 : (2 : Nat) ^ 6 = 64 := rfl
  intro d
  induction d with
  | zero =>
    intro t f f' acc ht' hf hf'
    obtain ⟨f, rfl⟩ : ∃ g, f = g + 1 := ⟨f - 1, by omega⟩
    obtain ⟨f', rfl⟩ : ∃ g, f' = g + 1 := ⟨f' - 1, by omega⟩
    refine ⟨acc, by omega, ?_, ?_⟩
    · rw [f_X6_waysWithNames_L4_s, sh_pow _ (by omega), if_pos (nI_le (by omega) (by omega))]
    · rw [f_X7_hopes_L218_s, h87, sh_pow _ (by omega), if_pos (nI_le (by omega) (by omega))]
  | succ d ih =>
    intro t f f' acc ht' hf hf'
    obtain ⟨f, rfl⟩ : ∃ g, f = g + 1 := ⟨f - 1, by omega⟩
    obtain ⟨f', rfl⟩ : ∃ g, f' = g + 1 := ⟨f' - 1, by omega⟩
    obtain ⟨z, z1, z2⟩ := an_both N hN hok hra hh hR hR' hRd (nI t)
    obtain ⟨P, p1, p2, p3⟩ := wc_both N hok hra hh2 (nI t) (fun v => some v) (fun (v10_61 : Int64) => zz_b1 (f_X7_allNamed N row room (nI t)) (fun r_62 => zz_let (fun (q_65 : Int64) => zz_let (lN acc + q_65) (fun v5_66 => zz_let (nI t + (1 : Int32)) (fun v9_67 => (f_X7_hopes_L218 N K7 row room f' v5_66 v9_67)))) (fun k_64 => (if r_62 = 0 then (k_64 (0 : Int64)) else (k_64 v10_61))))) (aHC a) 0 N N 1 (by omega) (by omega) (by omega)
    rw [Nat.one_mul] at p1
    have hmul : (d + 1) * 10 ^ aHC a = d * 10 ^ aHC a + 10 ^ aHC a := Nat.succ_mul _ _
    have e6 : f_X6_waysOfComing N ht (nI (aHC a)) (nI t) = some (lN P) := by
      unfold f_X6_waysOfComing
      rw [zl_let]
      exact p2
    rw [f_X6_waysWithNames_L4_s, f_X7_hopes_L218_s, h87, sh_pow _ (by omega), if_neg (nI_ge (by omega) (by omega)), if_neg (nI_ge (by omega) (by omega)), zl_b1 z1, zl_let, zl_let]
    rw [show f_X7_hopes_L238 N _ row (nI t) N 1 0 = _ from p3, zl_b1 z2, zl_let]
    cases z with
    | false =>
      rw [if_pos (show zBo false = 0 from rfl), if_pos (show zBo false = 0 from rfl)]
      dsimp only
      obtain ⟨A, a1, a2, a3⟩ := ih (t + 1) f f' acc (by omega) (by omega) (by omega)
      rw [zl_let, zl_let, zl_let, nI_1]
      refine ⟨A, by omega, a2, ?_⟩
      have e0 : lN acc + (0 : Int64) = lN acc := lN_add acc 0
      rw [e0]
      exact a3
    | true =>
      rw [if_neg (show ¬ zBo true = 0 by decide), if_neg (show ¬ zBo true = 0 by decide), zl_b1 e6, zl_let]
      dsimp only
      obtain ⟨A, a1, a2, a3⟩ := ih (t + 1) f f' (acc + P) (by omega) (by omega) (by omega)
      rw [zl_let, zl_let, zl_let, nI_1, lN_add]
      exact ⟨A, by omega, a2, a3⟩
theorem bl6 (N : Nat) {hc : Nat} (hhc : hc ≤ 6) (K) : ∀ (d i f acc : Nat), i + d = hc → d < f → f_X6_hopes_L67 N K (nI hc) f (lN acc) (nI i) = K (lN (acc * 10 ^ d)) := by
  intro d
  induction d with
  | zero =>
    intro i f acc hi hf
    obtain ⟨f, rfl⟩ : ∃ g, f = g + 1 := ⟨f - 1, by omega⟩
    rw [f_X6_hopes_L67_s, if_pos (nI_le (by omega) (by omega)), Nat.pow_zero, Nat.mul_one]
  | succ d ih =>
    intro i f acc hi hf
    obtain ⟨f, rfl⟩ : ∃ g, f = g + 1 := ⟨f - 1, by omega⟩
    rw [f_X6_hopes_L67_s, if_neg (nI_ge (by omega) (by omega)), zl_let, zl_let, nI_1, show (10 : Int64) = lN 10 from rfl, lN_mul, ih (i + 1) f (acc * 10) (by omega) (by omega), Nat.pow_succ, Nat.mul_comm (10 ^ d), ← Nat.mul_assoc]
theorem bl7 (N : Nat) {a : AW} {row : Nat → Int32} {w : Nat → Int64} (hok : zOK a) (hra : zRA a row w 0) (K) : ∀ (d i f acc : Nat), i + d = aHC a → d < f → f_X7_hopes_L189 N K row f (lN acc) (nI i) = K (lN (acc * 10 ^ d)) := by
  have hhc : aHC a ≤ 6 := hok.2.2.2.2.2.2.1
  have h87 : row (87 : Int32).toNatClampNeg = nI (aHC a) := hra.2.2.2.2.2.2.1
  intro d
  induction d with
  | zero =>
    intro i f acc hi hf
    obtain ⟨f, rfl⟩ : ∃ g, f = g + 1 := ⟨f - 1, by omega⟩
    rw [f_X7_hopes_L189_s, h87, if_pos (nI_le (by omega) (by omega)), Nat.pow_zero, Nat.mul_one]
  | succ d ih =>
    intro i f acc hi hf
    obtain ⟨f, rfl⟩ : ∃ g, f = g + 1 := ⟨f - 1, by omega⟩
    rw [f_X7_hopes_L189_s, h87, if_neg (nI_ge (by omega) (by omega)), zl_let, zl_let, nI_1, show (10 : Int64) = lN 10 from rfl, lN_mul, ih (i + 1) f (acc * 10) (by omega) (by omega), Nat.pow_succ, Nat.mul_comm (10 ^ d), ← Nat.mul_assoc]
def rmN (a : AW) (l : List Nat) (m : Int32) (i : Nat) : Nat := (l.filter (fun y => fre a m y && (aSum a y == aHD a i))).length
theorem rm104 (N : Nat) (hN : 100000 ≤ N) {a : AW} {row : Nat → Int32} {w : Nat → Int64} (hok : zOK a) (hra : zRA a row w 0) (m : Int32) {names : Nat → Int64} {l : List Nat} (hl : zLi names l) (hlen : l.length ≤ 1110) (hw : ∀ y ∈ l, isW 9 y) {i : Nat} (hi : i < aHC a) (K) : ∀ (suf pre : List Nat) (f c : Nat) (room : Nat → Int32), l = pre ++ suf → suf.length < f → room i = nI c → ∃ room', f_X7_hopes_L104 N K row w m names (nI l.length) (nI i) f (nI pre.length) room = K room' ∧ room' i = nI (c + (suf.filter (fun y => fre a m y && (aSum a y == aHD a i))).length) ∧ ∀ j, j ≠ i → room' j = room j := by
  have hhc : aHC a ≤ 6 := hok.2.2.2.2.2.2.1
  have hd := hok.2.2.2.2.2.2.2.1 i hi
  intro suf
  induction suf with
  | nil =>
    intro pre f c room e hf hc
    obtain ⟨f', rfl⟩ : ∃ f', f = f' + 1 := ⟨f - 1, by omega⟩
    have e2 : l.length = pre.length := by rw [e, List.append_nil]
    rw [f_X7_hopes_L104_s, e2, if_pos (nI_le (Nat.le_refl _) (by omega))]
    exact ⟨room, rfl, hc, fun _ _ => rfl⟩
  | cons y suf ih =>
    intro pre f c room e hf hc
    rw [List.length_cons] at hf
    obtain ⟨f', rfl⟩ : ∃ f', f = f' + 1 := ⟨f - 1, by omega⟩
    have e2 : l.length = pre.length + (suf.length + 1) := by rw [e, List.length_append, List.length_cons]
    have hy : isW 9 y := hw y (by rw [e]; exact List.mem_append_right _ List.mem_cons_self)
    have h63 := w_63 hy
    have hsl := aSum_le hok h63
    have step : ∀ x : Nat, ∃ room', zz_let (upd room i (nI c + nI x)) (fun t_room_33 => zz_let (nI pre.length + (1 : Int32)) (fun v6_34 => (f_X7_hopes_L104 N K row w m names (nI l.length) (nI i) f' v6_34 t_room_33))) = K room' ∧ room' i = nI (c + x + (suf.filter (fun y => fre a m y && (aSum a y == aHD a i))).length) ∧ ∀ j, j ≠ i → room' j = room j := fun x => by
      have ih2 := ih (pre ++ [y]) f' (c + x) (upd room i (nI c + nI x)) (by rw [e, List.append_assoc]; rfl) (by omega) (by rw [pk_us, nI_add])
      rw [List.length_append, List.length_singleton] at ih2
      obtain ⟨room', q1, q2, q3⟩ := ih2
      rw [zl_let, zl_let, nI_1]
      exact ⟨room', q1, q2, fun j hj => by rw [q3 j hj, pk_un hj]⟩
    rw [f_X7_hopes_L104_s, if_neg (nI_ge (by omega) (by omega)), zl_gd (zl_inN (show pre.length < 1110 by omega) (by decide)), zl_cl (show pre.length < 2 ^ 31 by omega), li_at hl e, zl_b1 (sum7 N hN (zl_row0 hra) h63 (isW_iff.mp hy).2.2), show (88 : Int32) = nI 88 from rfl, nI_add, zl_gd (zl_inN (show 88 + i < 300 by omega) (by decide)), zl_let, zl_cl (show 88 + i < 2 ^ 31 by omega), (zl_row88 hra hi).1, zl_cl (show i < 2 ^ 31 by omega), hc]
    by_cases c1 : aSum a y = aHD a i
    · rw [if_pos (show nI (aSum a y) = nI (aHD a i) by rw [c1]), zl_b1 (if_eq N hN hok hra m h63)]
      cases c2 : fre a m y with
      | false =>
        rw [if_pos (show zBo false = 0 from rfl), List.filter_cons_of_neg (p := fun y => fre a m y && (aSum a y == aHD a i)) (by rw [c2]; exact fun q => by cases q)]
        exact step 0
      | true =>
        rw [if_neg (show ¬ zBo true = 0 by decide), List.filter_cons_of_pos (p := fun y => fre a m y && (aSum a y == aHD a i)) (by rw [c2, beq_iff_eq.mpr c1]; rfl), List.length_cons]
        obtain ⟨room', q1, q2, q3⟩ := step 1
        exact ⟨room', q1, by rw [q2]; congr 1; omega, q3⟩
    · have hno : ¬ (fre a m y && (aSum a y == aHD a i)) = true := fun q => by
        rw [Bool.and_eq_true, beq_iff_eq] at q
        exact c1 q.2
      rw [if_neg (show ¬ nI (aSum a y) = nI (aHD a i) from fun r => c1 ((nI_eq (by omega) (by omega)).mp r)), List.filter_cons_of_neg (p := fun y => fre a m y && (aSum a y == aHD a i)) hno]
      exact step 0
theorem rm81 (N : Nat) (hN : 100000 ≤ N) {a : AW} {row : Nat → Int32} {w : Nat → Int64} (hok : zOK a) (hra : zRA a row w 0) (m : Int32) {names : Nat → Int64} {l : List Nat} (hl : zLi names l) (hlen : l.length ≤ 1110) (hw : ∀ y ∈ l, isW 9 y) (K) : ∀ (d i f : Nat) (room : Nat → Int32), i + d = aHC a → d < f → (∀ j, j < i → room j = nI (rmN a l m j)) → ∃ room', f_X7_hopes_L81 N K row w m names (nI l.length) f (nI i) room = K room' ∧ ∀ j, j < aHC a → room' j = nI (rmN a l m j) := by
  have hhc : aHC a ≤ 6 := hok.2.2.2.2.2.2.1
  have h87 : row (87 : Int32).toNatClampNeg = nI (aHC a) := hra.2.2.2.2.2.2.1
  intro d
  induction d with
  | zero =>
    intro i f room hi hf h
    obtain ⟨f', rfl⟩ : ∃ f', f = f' + 1 := ⟨f - 1, by omega⟩
    rw [f_X7_hopes_L81_s, h87, if_pos (nI_le (by omega) (by omega))]
    exact ⟨room, rfl, fun j hj => h j (by omega)⟩
  | succ d ih =>
    intro i f room hi hf h
    obtain ⟨f', rfl⟩ : ∃ f', f = f' + 1 := ⟨f - 1, by omega⟩
    have hi2 : i < aHC a := by omega
    rw [f_X7_hopes_L81_s, h87, if_neg (nI_ge (by omega) (by omega)), zl_gd (zl_inN (show i < 6 by omega) (by decide)), zl_let, zl_let, zl_cl (show i < 2 ^ 31 by omega)]
    obtain ⟨room1, q1, q2, q3⟩ := rm104 N hN hok hra m hl hlen hw hi2 (fun (t_room_35 : Nat → Int32) => zz_let (nI i + (1 : Int32)) (fun v5_36 => (f_X7_hopes_L81 N K row w m names (nI l.length) f' v5_36 t_room_35))) l [] N 0 (upd room i 0) rfl (by omega) (by rw [pk_us]; rfl)
    rw [show f_X7_hopes_L104 N _ row w m names (nI l.length) (nI i) N 0 (upd room i 0) = _ from q1, zl_let, nI_1]
    refine ih (i + 1) f' room1 (by omega) (by omega) (fun j hj => ?_)
    by_cases e : j = i
    · rw [e, q2, Nat.zero_add]
      rfl
    · rw [q3 j e, pk_un e]
      exact h j (by omega)
theorem rm6 (N : Nat) (hN : 100000 ≤ N) {a : AW} {num : Nat → Int32} {syl words : Nat → Int64} {hd : Nat → Int32} (hok : zOK a) (hwo : ∀ p, p < aPC a → words p = lN (aW a p)) (hh : ∀ i, i < aHC a → hd i = nI (aHD a i)) (m : Int32) {l : List Nat} (hlen : l.length ≤ 1110) (hw : ∀ y ∈ l, isW 9 y) (hg : ∀ (codes pc ps : Nat → Int64) (pm : Nat → Int32) (D : Nat), 1 ≤ D → D ≤ 400 → ∃ codes' pc' ps' pm' pk', f_X0_gather N codes pc ps pm num syl (nI (aSC a)) (nI D) 0 = some (codes', nI (l.filter (fun y => aSum a y == D)).length, pc', ps', pm', pk', nI D, 0) ∧ zLi codes' (l.filter (fun y => aSum a y == D))) (K) : ∀ (d i f : Nat) (rooms : Nat → Int32) (codes : Nat → Int64) (size : Int32) (pc ps : Nat → Int64) (pm : Nat → Int32) (pk wd dw : Int32), i + d = aHC a → d < f → (∀ j, j < i → rooms j = nI (rmN a l m j)) → ∃ rooms' codes' size' pc' ps' pm' pk' wd' dw', f_X6_findRooms_L2 N K num syl (nI (aSC a)) words (nI (aPC a)) hd (nI (aHC a)) m f (nI i) rooms codes size pc ps pm pk wd dw = K rooms' codes' size' pc' ps' pm' pk' wd' dw' ∧ ∀ j, j < aHC a → rooms' j = nI (rmN a l m j) := by
  have hhc : aHC a ≤ 6 := hok.2.2.2.2.2.2.1
  have hb := hok.2.2.2.2.2.2.2.1
  intro d
  induction d with
  | zero =>
    intro i f rooms codes size pc ps pm pk wd dw hi hf h
    obtain ⟨f', rfl⟩ : ∃ f', f = f' + 1 := ⟨f - 1, by omega⟩
    rw [f_X6_findRooms_L2_s, if_pos (nI_le (by omega) (by omega))]
    exact ⟨_, _, _, _, _, _, _, _, _, rfl, fun j hj => h j (by omega)⟩
  | succ d ih =>
    intro i f rooms codes size pc ps pm pk wd dw hi hf h
    obtain ⟨f', rfl⟩ : ∃ f', f = f' + 1 := ⟨f - 1, by omega⟩
    have hi2 : i < aHC a := by omega
    have bi := hb i hi2
    obtain ⟨c1, pc1, ps1, pm1, pk1, g1, g2⟩ := hg codes pc ps pm (aHD a i) bi.1 bi.2.1
    have hle : (l.filter (fun y => aSum a y == aHD a i)).length ≤ 1110 := Nat.le_trans (List.length_filter_le _ _) hlen
    obtain ⟨t', t1, t2⟩ := dc_eq N hN hok hwo m hle (fun y hy => w_63 (hw y (List.mem_filter.mp hy).1)) g2
    rw [List.filter_filter] at t1 t2
    rw [f_X6_findRooms_L2_s, if_neg (nI_ge (by omega) (by omega)), zl_gd (zl_inN (show i < 6 by omega) (by decide)), zl_cl (show i < 2 ^ 31 by omega), hh i hi2]
    simp only [zz_b8, g1, Option.bind_some]
    rw [zl_b2 t1, zl_let, zl_let, nI_1]
    refine ih (i + 1) f' _ _ _ _ _ _ _ _ _ (by omega) (by omega) (fun j hj => ?_)
    by_cases e : j = i
    · rw [e, pk_us]
      rfl
    · rw [pk_un e]
      exact h j (by omega)
