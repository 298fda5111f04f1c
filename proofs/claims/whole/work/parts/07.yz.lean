/-! ===== reading a text to its first fault ===== -/
theorem zl_b13 {A1 A2 A3 A4 A5 A6 A7 A8 A9 A10 A11 A12 A13 B : Type} {x : Option (A1 × A2 × A3 × A4 × A5 × A6 × A7 × A8 × A9 × A10 × A11 × A12 × A13)} {a1 : A1} {a2 : A2} {a3 : A3} {a4 : A4} {a5 : A5} {a6 : A6} {a7 : A7} {a8 : A8} {a9 : A9} {a10 : A10} {a11 : A11} {a12 : A12} {a13 : A13} {k : A1 → A2 → A3 → A4 → A5 → A6 → A7 → A8 → A9 → A10 → A11 → A12 → A13 → Option B} (h : x = some (a1, a2, a3, a4, a5, a6, a7, a8, a9, a10, a11, a12, a13)) : zz_b13 x k = k a1 a2 a3 a4 a5 a6 a7 a8 a9 a10 a11 a12 a13 := by rw [h]; rfl
theorem zl_b22 {A1 A2 A3 A4 A5 A6 A7 A8 A9 A10 A11 A12 A13 A14 A15 A16 A17 A18 A19 A20 A21 A22 B : Type} {x : Option (A1 × A2 × A3 × A4 × A5 × A6 × A7 × A8 × A9 × A10 × A11 × A12 × A13 × A14 × A15 × A16 × A17 × A18 × A19 × A20 × A21 × A22)} {a1 : A1} {a2 : A2} {a3 : A3} {a4 : A4} {a5 : A5} {a6 : A6} {a7 : A7} {a8 : A8} {a9 : A9} {a10 : A10} {a11 : A11} {a12 : A12} {a13 : A13} {a14 : A14} {a15 : A15} {a16 : A16} {a17 : A17} {a18 : A18} {a19 : A19} {a20 : A20} {a21 : A21} {a22 : A22} {k : A1 → A2 → A3 → A4 → A5 → A6 → A7 → A8 → A9 → A10 → A11 → A12 → A13 → A14 → A15 → A16 → A17 → A18 → A19 → A20 → A21 → A22 → Option B} (h : x = some (a1, a2, a3, a4, a5, a6, a7, a8, a9, a10, a11, a12, a13, a14, a15, a16, a17, a18, a19, a20, a21, a22)) : zz_b22 x k = k a1 a2 a3 a4 a5 a6 a7 a8 a9 a10 a11 a12 a13 a14 a15 a16 a17 a18 a19 a20 a21 a22 := by rw [h]; rfl
def chn (read : Nat → Int32) (rw_ : Nat → Int64) (M : Nat) (a0 a : AW) : Prop := ∃ A : Nat → AW, A 0 = a0 ∧ A M = a ∧ ∀ i, i < M → stp read rw_ i (A i) (A (i + 1))
theorem chn_0 (read : Nat → Int32) (rw_ : Nat → Int64) (a : AW) : chn read rw_ 0 a a := ⟨fun _ => a, rfl, rfl, fun i hi => absurd hi (Nat.not_lt_zero _)⟩
theorem chn_s {read read' : Nat → Int32} {rw_ rw' : Nat → Int64} {m : Nat} {a0 a a' : AW} (hm : m < 8) (h : chn read rw_ m a0 a) (h1 : ∀ i, i < 5 * m → read' i = read i) (h2 : ∀ i, i < m → rw' i = rw_ i) (hs : stp read' rw' m a a') : chn read' rw' (m + 1) a0 a' := by
  obtain ⟨A, A0, Am, As⟩ := h
  refine ⟨fun i => if i ≤ m then A i else a', ?_, ?_, fun i hi => ?_⟩
  · show (if 0 ≤ m then A 0 else a') = a0
    rw [if_pos (Nat.zero_le _)]
    exact A0
  · show (if m + 1 ≤ m then A (m + 1) else a') = a'
    rw [if_neg (by omega)]
  · dsimp only
    by_cases c : i = m
    · rw [if_pos (by omega), if_neg (by omega), c, Am]
      exact hs
    · rw [if_pos (by omega), if_pos (by omega)]
      exact stp_congr (by omega) (As i (by omega)) (fun x hx => h1 x (by omega)) (h2 i (by omega))
def FRes (a0 : AW) (x : Option (Int32 × Int32 × Int32 × Int32 × Int32 × Int32 × Int64 × Int32 × Int32 × (Nat → Int32) × (Nat → Int64) × (Int32) × (Nat → Int32) × (Nat → Int64) × (Nat → Int32) × (Nat → Int32) × (Nat → Int32) × (Int32) × (Nat → Int32) × (Nat → Int32) × (Int32) × (Int32))) (y : Option (Int32 × (Nat → Int32) × (Nat → Int64) × Int32 × Int32 × Int32 × Int32 × Int32 × Int32 × Int32 × (Nat → Int32))) : Prop := ∃ (rr lines place tok beg byt : Int32) (val : Int64) (par oth : Int32) (d1 : Nat → Int32) (d2 : Nat → Int64) (d3 : Int32) (d4 : Nat → Int32) (d5 : Nat → Int64) (d6 : Nat → Int32) (d7 : Nat → Int32) (d8 : Nat → Int32) (d9 : Int32) (d10 : Nat → Int32) (d11 : Nat → Int32) (d12 : Int32) (d13 : Int32) (read' : Nat → Int32) (rw' : Nat → Int64) (mm at' pl en pp hh ss : Int32) (syl' : Nat → Int32), x = some (rr, lines, place, tok, beg, byt, val, par, oth, d1, d2, d3, d4, d5, d6, d7, d8, d9, d10, d11, d12, d13) ∧ y = some (rr, read', rw', mm, at', pl, en, pp, hh, ss, syl') ∧ (rr = -1 → ∃ (a' : AW) (M : Nat), M ≤ 8 ∧ lines = nI M ∧ mm = nI M ∧ zOK a' ∧ zWA a' d1 d2 d3 d4 d5 d6 d7 d8 d9 d10 d11 d12 d13 ∧ chn read' rw' M a0 a')
def K6 : (Int32) → (Int32) → (Int32) → (Int32) → (Int32) → (Int64) → (Int32) → (Int32) → (Nat → Int32) → (Nat → Int64) → (Int32) → (Nat → Int32) → (Nat → Int64) → (Nat → Int32) → (Nat → Int32) → (Nat → Int32) → (Int32) → (Nat → Int32) → (Nat → Int32) → (Int32) → (Int32) → Option (Int32 × Int32 × Int32 × Int32 × Int32 × Int32 × Int64 × Int32 × Int32 × (Nat → Int32) × (Nat → Int64) × (Int32) × (Nat → Int32) × (Nat → Int64) × (Nat → Int32) × (Nat → Int32) × (Nat → Int32) × (Int32) × (Nat → Int32) × (Nat → Int32) × (Int32) × (Int32)) := (fun (t_lines_69 : Int32) (t_place_70 : Int32) (t_token_71 : Int32) (t_begin_72 : Int32) (t_bytes_73 : Int32) (t_value_74 : Int64) (t_parent_75 : Int32) (t_otherParent_76 : Int32) (d_numbers_77 : Nat → Int32) (d_syllables_78 : Nat → Int64) (d_syllableCount_79 : Int32) (d_days_80 : Nat → Int32) (d_words_81 : Nat → Int64) (d_parents_82 : Nat → Int32) (d_otherParents_83 : Nat → Int32) (d_kinds_84 : Nat → Int32) (d_personCount_85 : Int32) (d_hopeDays_86 : Nat → Int32) (d_hopeTenths_87 : Nat → Int32) (d_hopeCount_88 : Int32) (d_degreesTold_89 : Int32) => (some (t_begin_72, t_lines_69, t_place_70, t_token_71, t_begin_72, t_bytes_73, t_value_74, t_parent_75, t_otherParent_76, d_numbers_77, d_syllables_78, d_syllableCount_79, d_days_80, d_words_81, d_parents_82, d_otherParents_83, d_kinds_84, d_personCount_85, d_hopeDays_86, d_hopeTenths_87, d_hopeCount_88, d_degreesTold_89)))
def K7 : (Nat → Int32) → (Nat → Int64) → (Int32) → (Int32) → (Int32) → (Int32) → (Int32) → (Int32) → (Int32) → (Nat → Int32) → Option (Int32 × (Nat → Int32) × (Nat → Int64) × Int32 × Int32 × Int32 × Int32 × Int32 × Int32 × Int32 × (Nat → Int32)) := (fun (t_read_74 : Nat → Int32) (t_readWord_75 : Nat → Int64) (t_readMany_76 : Int32) (t_at_77 : Int32) (t_place_78 : Int32) (t_end_79 : Int32) (t_readPersons_80 : Int32) (t_readHopes_81 : Int32) (t_readSyls_82 : Int32) (t_readSyl_83 : Nat → Int32) => (some ((-1 : Int32), t_read_74, t_readWord_75, t_readMany_76, t_at_77, t_place_78, t_end_79, t_readPersons_80, t_readHopes_81, t_readSyls_82, t_readSyl_83)))
section
variable {N : Nat} {text textM : Nat → Int32} {B : Nat → Nat} {n : Nat} {a0 : AW}
theorem flt_loop (hN : 100000 ≤ N) (ht : TX text textM B n) : ∀ (r m f6 f7 : Nat), m + r = 8 → 1 ≤ m → r < f6 → r < f7 → ∀ (a : AW) (d1 : Nat → Int32) (d2 : Nat → Int64) (d3 : Int32) (d4 : Nat → Int32) (d5 : Nat → Int64) (d6 : Nat → Int32) (d7 : Nat → Int32) (d8 : Nat → Int32) (d9 : Int32) (d10 : Nat → Int32) (d11 : Nat → Int32) (d12 : Int32) (d13 : Int32) (pe b e k : Nat) (V : Int64) (read : Nat → Int32) (rw_ : Nat → Int64) (syl : Nat → Int32) (z1 z2 : Int32), zOK a → zWA a d1 d2 d3 d4 d5 d6 d7 d8 d9 d10 d11 d12 d13 → TP N text textM B n pe b e k V → (∀ i, i < aSC a → syl i = nI (aS a i)) → chn read rw_ m a0 a → FRes a0 (zz_b5 (f_X3_readToken N text (nI n) (nI pe)) (fun t_place_60 t_token_61 t_begin_62 t_bytes_63 t_value_64 => (if t_token_61 = 0 then (some ((-1 : Int32), (nI m), t_place_60, t_token_61, t_begin_62, t_bytes_63, t_value_64, z1, z2, d1, d2, d3, d4, d5, d6, d7, d8, d9, d10, d11, d12, d13)) else (if t_token_61 = (3 : Int32) then (if t_value_64 = (59 : Int64) then zz_let ((nI m) + (1 : Int32)) (fun v2_68 => (f_X3_read_L15 N K6 text (nI n) f6 v2_68 (nI m) t_place_60 t_token_61 t_begin_62 t_bytes_63 t_value_64 z1 z2 d1 d2 d3 d4 d5 d6 d7 d8 d9 d10 d11 d12 d13)) else (some (t_begin_62, (nI m), t_place_60, t_token_61, t_begin_62, t_bytes_63, t_value_64, z1, z2, d1, d2, d3, d4, d5, d6, d7, d8, d9, d10, d11, d12, d13))) else (some (t_begin_62, (nI m), t_place_60, t_token_61, t_begin_62, t_bytes_63, t_value_64, z1, z2, d1, d2, d3, d4, d5, d6, d7, d8, d9, d10, d11, d12, d13)))))) (f_X7_fault_L88 N K7 textM (nI n) f7 read rw_ (nI m) (nI e) (nI b) (nI e) (nI (aPC a)) (nI (aHC a)) (nI (aSC a)) syl) := by
  have hn := ht.1.1
  have m1 : ∀ x, x < 1000 → ¬ nI x = (-1 : Int32) := fun x hx => nI_nm1 hx
  intro r
  induction r with
  | zero =>
    intro m f6 f7 hm h1m hf6 hf7 a d1 d2 d3 d4 d5 d6 d7 d8 d9 d10 d11 d12 d13 pe b e k V read rw_ syl z1 z2 hok hw h hs hc
    obtain ⟨f6, rfl⟩ : ∃ g, f6 = g + 1 := ⟨f6 - 1, by omega⟩
    obtain ⟨f7, rfl⟩ : ∃ g, f7 = g + 1 := ⟨f7 - 1, by omega⟩
    obtain rfl : m = 8 := by omega
    obtain ⟨l1, l2, l3, l4⟩ := Tok_le h.1
    have hbd := tp_bd ht h
    rw [zl_b5 h.2.1, f_X7_fault_L88_s]
    by_cases k0 : k = 0
    · have hb : b = n := by
        obtain ⟨_, _, _, q⟩ := h.1
        rcases q with q | q
        · exact q.1
        · have := kdB_rng (B b)
          omega
      rw [if_pos (show nI k = 0 by rw [k0]; rfl), if_pos (nI_le (by omega) (by omega))]
      exact ⟨_, _, _, _, _, _, _, _, _, _, _, _, _, _, _, _, _, _, _, _, _, _, _, _, _, _, _, _, _, _, _, _, rfl, rfl, fun _ => ⟨a, 8, Nat.le_refl _, rfl, rfl, hok, hw, hc⟩⟩
    · obtain ⟨t1, t2, t3, t4, t5⟩ := tp_letters h.1 (by omega)
      have tM := (ht.2.2 b t1)
      rw [if_neg (show ¬ nI k = 0 from fun q => k0 ((nI_eq (b := 0) (by omega) (by decide)).mp q)), if_neg (nI_ge t1 (by omega)), zl_let, pk_sub l2]
      have no7 : ∀ (z : Int32), z = 0 → (zz_let (fun (v1_62 : Int32) (t_read_63 : Nat → Int32) (t_readWord_64 : Nat → Int64) (t_readMany_65 : Int32) (t_at_66 : Int32) (t_place_67 : Int32) (t_end_68 : Int32) (t_readPersons_69 : Int32) (t_readHopes_70 : Int32) (t_readSyls_71 : Int32) (t_readSyl_72 : Nat → Int32) => (if v1_62 = 0 then (some (t_place_67, t_read_63, t_readWord_64, t_readMany_65, t_at_66, t_place_67, t_end_68, t_readPersons_69, t_readHopes_70, t_readSyls_71, t_readSyl_72)) else (f_X7_fault_L88 N K7 textM (nI n) f7 t_read_63 t_readWord_64 t_readMany_65 t_at_66 t_place_67 t_end_68 t_readPersons_69 t_readHopes_70 t_readSyls_71 t_readSyl_72))) (fun k_61 => (if z = 0 then (k_61 z read rw_ (nI 8) (nI e) (nI b) (nI e) (nI (aPC a)) (nI (aHC a)) (nI (aSC a)) syl) else zz_b3 (f_X7_token N textM (nI n) (nI e)) (fun t_at_47 t_place_48 t_end_49 => zz_b11 (f_X7_readsLine N textM (nI n) read rw_ (nI 8) t_at_47 t_place_48 t_end_49 (nI (aPC a)) (nI (aHC a)) (nI (aSC a)) syl) (fun r_50 t_read_51 t_readWord_52 t_readMany_53 t_at_54 t_place_55 t_end_56 t_readPersons_57 t_readHopes_58 t_readSyls_59 t_readSyl_60 => (k_61 r_50 t_read_51 t_readWord_52 t_readMany_53 t_at_54 t_place_55 t_end_56 t_readPersons_57 t_readHopes_58 t_readSyls_59 t_readSyl_60)))))) = some (nI b, read, rw_, nI 8, nI e, nI b, nI e, nI (aPC a), nI (aHC a), nI (aSC a), syl) := fun z hz => by
        rw [zl_let, if_pos hz]
        dsimp only
        rw [if_pos hz]
      by_cases c59 : B b = 59
      · have k3 : k = 3 := by
          rw [t4, c59]
          decide
        have e1 : e = b + 1 := by
          obtain ⟨_, _, _, q⟩ := h.1
          rcases q with q | q
          · omega
          · exact q.2.2.2.2.2.2.1 k3
        have hV := h.2.2.2.2.1 k3
        rw [if_pos (show nI k = (3 : Int32) by rw [k3]; rfl), if_pos (show V = (59 : Int64) by rw [hV, c59]; rfl), zl_let, f_X3_read_L15_s, if_pos (show (8 : Int32) < nI 8 + 1 by decide), if_pos (show nI (e - b) = (1 : Int32) by rw [e1, show b + 1 - b = 1 by omega]; rfl), zl_gd (zl_inN (show b < 200 by omega) (by decide)), zl_cl (show b < 2 ^ 31 by omega), tM.1, if_pos (show nI (B b) = (59 : Int32) by rw [c59]; rfl), if_pos (show (8 : Int32) ≤ nI 8 by decide)]
        dsimp only
        rw [no7 0 rfl]
        exact ⟨nI b, nI 8, _, _, _, _, _, _, _, _, _, _, _, _, _, _, _, _, _, _, _, _, _, _, _, _, _, _, _, _, _, _, rfl, rfl, fun q => absurd q (m1 b hbd)⟩
      · have x6 : (if nI k = (3 : Int32) then (if V = (59 : Int64) then ((f_X3_read_L15 N K6 text (nI n) (f6 + 1) (nI 8 + (1 : Int32)) (nI 8) (nI e) (nI k) (nI b) (nI (e - b)) V z1 z2 d1 d2 d3 d4 d5 d6 d7 d8 d9 d10 d11 d12 d13)) else (some (nI b, nI 8, nI e, nI k, nI b, nI (e - b), V, z1, z2, d1, d2, d3, d4, d5, d6, d7, d8, d9, d10, d11, d12, d13))) else (some (nI b, nI 8, nI e, nI k, nI b, nI (e - b), V, z1, z2, d1, d2, d3, d4, d5, d6, d7, d8, d9, d10, d11, d12, d13))) = some (nI b, nI 8, nI e, nI k, nI b, nI (e - b), V, z1, z2, d1, d2, d3, d4, d5, d6, d7, d8, d9, d10, d11, d12, d13) := by
          by_cases k3 : k = 3
          · rw [if_pos (show nI k = (3 : Int32) by rw [k3]; rfl), if_neg (show ¬ V = (59 : Int64) from fun q => c59 (by
              rw [h.2.2.2.2.1 k3] at q
              have q2 := congrArg Int64.toInt q
              rw [pk_lT (by omega)] at q2
              have : (59 : Int64).toInt = 59 := by decide
              omega))]
          · rw [if_neg (show ¬ nI k = (3 : Int32) from fun q => k3 ((nI_eq (b := 3) (by omega) (by decide)).mp q))]
        rw [x6]
        have n59 : ¬ nI (B b) = (59 : Int32) := fun q => c59 ((nI_eq (b := 59) (by omega) (by decide)).mp q)
        rw [zl_let, zl_gd (zl_inN (show b < 200 by omega) (by decide)), zl_cl (show b < 2 ^ 31 by omega), tM.1, if_neg n59, ite_self]
        dsimp only
        rw [no7 0 rfl]
        exact ⟨nI b, nI 8, _, _, _, _, _, _, _, _, _, _, _, _, _, _, _, _, _, _, _, _, _, _, _, _, _, _, _, _, _, _, rfl, rfl, fun q => absurd q (m1 b hbd)⟩
  | succ r ih =>
    intro m f6 f7 hm h1m hf6 hf7 a d1 d2 d3 d4 d5 d6 d7 d8 d9 d10 d11 d12 d13 pe b e k V read rw_ syl z1 z2 hok hw h hs hc
    obtain ⟨f6, rfl⟩ : ∃ g, f6 = g + 1 := ⟨f6 - 1, by omega⟩
    obtain ⟨f7, rfl⟩ : ∃ g, f7 = g + 1 := ⟨f7 - 1, by omega⟩
    obtain ⟨l1, l2, l3, l4⟩ := Tok_le h.1
    have hbd := tp_bd ht h
    rw [zl_b5 h.2.1, f_X7_fault_L88_s]
    by_cases k0 : k = 0
    · have hb : b = n := by
        obtain ⟨_, _, _, q⟩ := h.1
        rcases q with q | q
        · exact q.1
        · have := kdB_rng (B b)
          omega
      rw [if_pos (show nI k = 0 by rw [k0]; rfl), if_pos (nI_le (by omega) (by omega))]
      exact ⟨_, _, _, _, _, _, _, _, _, _, _, _, _, _, _, _, _, _, _, _, _, _, _, _, _, _, _, _, _, _, _, _, rfl, rfl, fun _ => ⟨a, m, by omega, rfl, rfl, hok, hw, hc⟩⟩
    · obtain ⟨t1, t2, t3, t4, t5⟩ := tp_letters h.1 (by omega)
      have tM := (ht.2.2 b t1)
      rw [if_neg (show ¬ nI k = 0 from fun q => k0 ((nI_eq (b := 0) (by omega) (by decide)).mp q)), if_neg (nI_ge t1 (by omega)), zl_let, pk_sub l2]
      by_cases c59 : B b = 59
      · have k3 : k = 3 := by
          rw [t4, c59]
          decide
        have e1 : e = b + 1 := by
          obtain ⟨_, _, _, q⟩ := h.1
          rcases q with q | q
          · omega
          · exact q.2.2.2.2.2.2.1 k3
        have hV := h.2.2.2.2.1 k3
        obtain ⟨b2, e2, k2, V2, h2⟩ := TP_at N hN ht l3
        rw [if_pos (show nI k = (3 : Int32) by rw [k3]; rfl), if_pos (show V = (59 : Int64) by rw [hV, c59]; rfl), zl_let, nI_1, f_X3_read_L15_s, if_neg (show ¬ (8 : Int32) < nI (m + 1) from nI_nlt (a := 8) (by omega) (by decide)), if_pos (show nI (e - b) = (1 : Int32) by rw [e1, show b + 1 - b = 1 by omega]; rfl), zl_gd (zl_inN (show b < 200 by omega) (by decide)), zl_cl (show b < 2 ^ 31 by omega), tM.1, if_pos (show nI (B b) = (59 : Int32) by rw [c59]; rfl), if_neg (show ¬ (8 : Int32) ≤ nI m from nI_ge (b := 8) (by omega) (by decide))]
        dsimp only
        rw [zl_let, if_neg (show ¬ (1 : Int32) = 0 by decide), zl_b3 h2.2.2.2.2.2]
        rcases ln_line hN ht h2 hok hw z1 z2 read rw_ (show m < 8 by omega) hs with ⟨p', t', bf, y', v', g1, g2, x1, x2, x3, x4, x5, x6, x7, x8, x9, x10, x11, x12, x13, read', rw', mm, at', en', pp, hh, ss, syl', hbf, q1, q2⟩ | ⟨a', pe', t', bg, y', v', g1, g2, x1, x2, x3, x4, x5, x6, x7, x8, x9, x10, x11, x12, x13, read', rw', b', e', k', V', syl', q1, q2, w1, w2, w3, w4, w5, w6, w7⟩
        · rw [zl_b21 q1, if_pos rfl, zl_b11 q2]
          dsimp only
          rw [if_pos rfl]
          exact ⟨nI bf, nI m, _, _, _, _, _, _, _, _, _, _, _, _, _, _, _, _, _, _, _, _, _, _, _, _, _, _, _, _, _, _, rfl, rfl, fun q => absurd q (m1 bf hbf)⟩
        · rw [zl_b21 q1, if_neg (show ¬ (1 : Int32) = 0 by decide), zl_b11 q2]
          dsimp only
          rw [if_neg (show ¬ (1 : Int32) = 0 by decide)]
          exact ih (m + 1) f6 f7 (by omega) (by omega) (by omega) (by omega) a' x1 x2 x3 x4 x5 x6 x7 x8 x9 x10 x11 x12 x13 pe' b' e' k' V' read' rw' syl' g1 g2 w1 w2 w3 w4 (chn_s (by omega) hc w6 w7 w5)
      · have x6 : (if nI k = (3 : Int32) then (if V = (59 : Int64) then ((f_X3_read_L15 N K6 text (nI n) (f6 + 1) (nI m + (1 : Int32)) (nI m) (nI e) (nI k) (nI b) (nI (e - b)) V z1 z2 d1 d2 d3 d4 d5 d6 d7 d8 d9 d10 d11 d12 d13)) else (some (nI b, nI m, nI e, nI k, nI b, nI (e - b), V, z1, z2, d1, d2, d3, d4, d5, d6, d7, d8, d9, d10, d11, d12, d13))) else (some (nI b, nI m, nI e, nI k, nI b, nI (e - b), V, z1, z2, d1, d2, d3, d4, d5, d6, d7, d8, d9, d10, d11, d12, d13))) = some (nI b, nI m, nI e, nI k, nI b, nI (e - b), V, z1, z2, d1, d2, d3, d4, d5, d6, d7, d8, d9, d10, d11, d12, d13) := by
          by_cases k3 : k = 3
          · rw [if_pos (show nI k = (3 : Int32) by rw [k3]; rfl), if_neg (show ¬ V = (59 : Int64) from fun q => c59 (by
              rw [h.2.2.2.2.1 k3] at q
              have q2 := congrArg Int64.toInt q
              rw [pk_lT (by omega)] at q2
              have : (59 : Int64).toInt = 59 := by decide
              omega))]
          · rw [if_neg (show ¬ nI k = (3 : Int32) from fun q => k3 ((nI_eq (b := 3) (by omega) (by decide)).mp q))]
        rw [x6]
        have n59 : ¬ nI (B b) = (59 : Int32) := fun q => c59 ((nI_eq (b := 59) (by omega) (by decide)).mp q)
        rw [zl_let, zl_gd (zl_inN (show b < 200 by omega) (by decide)), zl_cl (show b < 2 ^ 31 by omega), tM.1, if_neg n59, ite_self]
        dsimp only
        rw [zl_let, if_pos rfl]
        dsimp only
        rw [if_pos rfl]
        exact ⟨nI b, nI m, _, _, _, _, _, _, _, _, _, _, _, _, _, _, _, _, _, _, _, _, _, _, _, _, _, _, _, _, _, _, rfl, rfl, fun q => absurd q (m1 b hbd)⟩
theorem tf_eq {a : AW} (hok : zOK a) (t1 : Nat → Int32) (t2 : Nat → Int64) (t3 : Int32) (t4 : Nat → Int32) (t5 : Nat → Int64) (t6 : Nat → Int32) (t7 : Nat → Int32) (t8 : Nat → Int32) (t9 : Int32) (t10 : Nat → Int32) (t11 : Nat → Int32) (t12 : Int32) (t13 : Int32) (w1 : Nat → Int32) (w2 : Nat → Int64) (w3 : Int32) (w4 : Nat → Int32) (w5 : Nat → Int64) (w6 : Nat → Int32) (w7 : Nat → Int32) (w8 : Nat → Int32) (w9 : Int32) (w10 : Nat → Int32) (w11 : Nat → Int32) (w12 : Int32) (w13 : Int32) (hw : zWA a w1 w2 w3 w4 w5 w6 w7 w8 w9 w10 w11 w12 w13) : ∃ (x1 : Nat → Int32) (x2 : Nat → Int64) (x3 : Int32) (x4 : Nat → Int32) (x5 : Nat → Int64) (x6 : Nat → Int32) (x7 : Nat → Int32) (x8 : Nat → Int32) (x9 : Int32) (x10 : Nat → Int32) (x11 : Nat → Int32) (x12 : Int32) (x13 : Int32), f_X5_takeFrom N t1 t2 t4 t5 t6 t7 t8 t10 t11 w1 w2 w3 w4 w5 w6 w7 w8 w9 w10 w11 w12 w13 = some (x1, x2, x3, x4, x5, x6, x7, x8, x9, x10, x11, x12, x13) ∧ zWA a x1 x2 x3 x4 x5 x6 x7 x8 x9 x10 x11 x12 x13 := by
  have h10 : aSC a ≤ 10 := hok.2.1
  have h16 : aPC a ≤ 16 := hok.2.2.2.2.1
  have h6 : aHC a ≤ 6 := hok.2.2.2.2.2.2.1
  have cp : ∀ (α : Type) (f g : Nat → α) (n j : Nat), j < n → va_cpy f g 0 0 n j = f j := fun α f g n j hj => by
    rw [pk_cpy_in (Nat.zero_le _) (by omega), Nat.zero_add, Nat.sub_zero]
  obtain ⟨q1, q2, q3, q4, q5, q6, q7, q8⟩ := hw
  refine ⟨va_cpy w1 t1 0 0 26, va_cpy w2 t2 0 0 10, w3, va_cpy w4 t4 0 0 16, va_cpy w5 t5 0 0 16, va_cpy w6 t6 0 0 16, va_cpy w7 t7 0 0 16, va_cpy w8 t8 0 0 16, w9, va_cpy w10 t10 0 0 6, va_cpy w11 t11 0 0 6, w12, w13, rfl, fun i hi => ?_, q2, fun i hi => ?_, q4, fun i hi => ?_, q6, fun i hi => ?_, q8⟩
  · rw [cp _ _ _ _ _ hi]
    exact q1 i hi
  · rw [cp _ _ _ _ _ (by omega)]
    exact q3 i hi
  · rw [cp _ _ _ _ _ (by omega), cp _ _ _ _ _ (by omega), cp _ _ _ _ _ (by omega), cp _ _ _ _ _ (by omega), cp _ _ _ _ _ (by omega)]
    exact q5 i hi
  · rw [cp _ _ _ _ _ (by omega), cp _ _ _ _ _ (by omega)]
    exact q7 i hi
theorem l45 (row : Nat → Int32) (K) : ∀ (d i f : Nat) (syl : Nat → Int32), i + d = 10 → d < f → ∃ syl', f_X7_fault_L45 N K row f (nI i) syl = K syl' ∧ (∀ j, i ≤ j → j < 10 → syl' j = row (27 + j)) ∧ ∀ j, j < i → syl' j = syl j := by
  intro d
  induction d with
  | zero =>
    intro i f syl hi hf
    obtain ⟨f, rfl⟩ : ∃ g, f = g + 1 := ⟨f - 1, by omega⟩
    rw [f_X7_fault_L45_s, if_pos (show (10 : Int32) ≤ nI i from nI_le (a := 10) (by omega) (by omega))]
    exact ⟨syl, rfl, fun j h1 h2 => by omega, fun _ _ => rfl⟩
  | succ d ih =>
    intro i f syl hi hf
    obtain ⟨f, rfl⟩ : ∃ g, f = g + 1 := ⟨f - 1, by omega⟩
    obtain ⟨syl', s1, s2, s3⟩ := ih (i + 1) f (upd syl i (row (27 + i))) (by omega) (by omega)
    have e27 : (27 : Int32) + nI i = nI (27 + i) := nI_add 27 i
    rw [f_X7_fault_L45_s, if_neg (show ¬ (10 : Int32) ≤ nI i from nI_ge (b := 10) (by omega) (by decide)), e27, zl_gd (zl_inN (show 27 + i < 300 by omega) (by decide)), zl_gd (zl_inN (show i < 18 by omega) (by decide)), zl_let, zl_let, zl_cl (show 27 + i < 2 ^ 31 by omega), zl_cl (show i < 2 ^ 31 by omega), nI_1, s1]
    refine ⟨syl', rfl, fun j h1 h2 => ?_, fun j hj => ?_⟩
    · by_cases c : j = i
      · rw [s3 j (by omega), c, pk_us]
      · exact s2 j (by omega) h2
    · rw [s3 j (by omega), pk_un (by omega)]
theorem fres {a : AW} (hN : 100000 ≤ N) (hok : zOK a) (n1 : Nat → Int32) (n2 : Nat → Int64) (n3 : Int32) (n4 : Nat → Int32) (n5 : Nat → Int64) (n6 : Nat → Int32) (n7 : Nat → Int32) (n8 : Nat → Int32) (n9 : Int32) (n10 : Nat → Int32) (n11 : Nat → Int32) (n12 : Int32) (n13 : Int32) (hw : zWA a n1 n2 n3 n4 n5 n6 n7 n8 n9 n10 n11 n12 n13) {row : Nat → Int32} {words : Nat → Int64} (hra : zRA a row words 0) (ht : TX text textM B n) (z1 z2 z3 z4 : Int32) (z5 : Int64) (z6 z7 : Int32) (t1 : Nat → Int32) (t2 : Nat → Int64) (t3 : Int32) (t4 : Nat → Int32) (t5 : Nat → Int64) (t6 : Nat → Int32) (t7 : Nat → Int32) (t8 : Nat → Int32) (t9 : Int32) (t10 : Nat → Int32) (t11 : Nat → Int32) (t12 : Int32) (t13 : Int32) (read : Nat → Int32) (rw_ : Nat → Int64) (syl : Nat → Int32) : FRes a (f_X3_read N text (nI n) z1 z2 z3 z4 z5 z6 z7 t1 t2 t4 t5 t6 t7 t8 t10 t11 n1 n2 n3 n4 n5 n6 n7 n8 n9 n10 n11 n12 n13) (f_X7_fault N row textM (nI n) read rw_ syl) := by
  have hn := ht.1.1
  have h10 : aSC a ≤ 10 := hok.2.1
  obtain ⟨d1, d2, d3, d4, d5, d6, d7, d8, d9, d10, d11, d12, d13, q1, q2⟩ := tf_eq (N := N) hok t1 t2 t3 t4 t5 t6 t7 t8 t9 t10 t11 t12 t13 n1 n2 n3 n4 n5 n6 n7 n8 n9 n10 n11 n12 n13 hw
  unfold f_X3_read f_X7_fault
  obtain ⟨sl, s1, s2, _⟩ := l45 (N := N) row (fun (t_readSyl_12 : Nat → Int32) => zz_b3 (f_X7_token N textM (nI n) (0 : Int32)) (fun t_at_13 t_place_14 t_end_15 => zz_b11 (f_X7_readsLine N textM (nI n) read rw_ (0 : Int32) t_at_13 t_place_14 t_end_15 (row (38 : Int32).toNatClampNeg) (row (87 : Int32).toNatClampNeg) (row (26 : Int32).toNatClampNeg) t_readSyl_12) (fun r_16 t_read_17 t_readWord_18 t_readMany_19 t_at_20 t_place_21 t_end_22 t_readPersons_23 t_readHopes_24 t_readSyls_25 t_readSyl_26 => (if r_16 = 0 then (some (t_place_21, t_read_17, t_readWord_18, t_readMany_19, t_at_20, t_place_21, t_end_22, t_readPersons_23, t_readHopes_24, t_readSyls_25, t_readSyl_26)) else zz_let K7 (fun k_28 => f_X7_fault_L88 N k_28 textM (nI n) N t_read_17 t_readWord_18 t_readMany_19 t_at_20 t_place_21 t_end_22 t_readPersons_23 t_readHopes_24 t_readSyls_25 t_readSyl_26))))) 10 0 N syl (by omega) (by omega)
  obtain ⟨b, e, k, V, h⟩ := TP_at N hN ht (Nat.zero_le _)
  rw [zl_b13 q1, zl_let, zl_let, zl_let, zl_let, zl_let]
  refine Eq.mpr (congrArg (fun y => FRes a (f_X3_read_L15 N K6 text (nI n) N (1 : Int32) z1 (nI 0) z2 z3 z4 z5 z6 z7 d1 d2 d3 d4 d5 d6 d7 d8 d9 d10 d11 d12 d13) y) s1) ?_
  rw [zl_b3 (show f_X7_token N textM (nI n) (0 : Int32) = _ from h.2.2.2.2.2)]
  obtain ⟨N', rfl⟩ : ∃ g, N = g + 1 := ⟨N - 1, by omega⟩
  rw [f_X3_read_L15_s, if_neg (by decide)]
  have r38 : row (38 : Int32).toNatClampNeg = nI (aPC a) := hra.2.2.2.2.1
  have r87 : row (87 : Int32).toNatClampNeg = nI (aHC a) := hra.2.2.2.2.2.2.1
  have r26 : row (26 : Int32).toNatClampNeg = nI (aSC a) := hra.2.1
  rw [r38, r87, r26]
  have hs7 : ∀ i, i < aSC a → sl i = nI (aS a i) := fun i hi => by
    rw [s2 i (Nat.zero_le _) (by omega)]
    exact hra.2.2.1 i hi
  rcases ln_line hN ht h hok q2 z6 z7 read rw_ (show 0 < 8 by decide) hs7 with ⟨p', t', bf, y', v', g1, g2, x1, x2, x3, x4, x5, x6, x7, x8, x9, x10, x11, x12, x13, read', rw', mm, at', en', pp, hh, ss, syl', hbf, q1, q2⟩ | ⟨a', pe', t', bg, y', v', g1, g2, x1, x2, x3, x4, x5, x6, x7, x8, x9, x10, x11, x12, x13, read', rw', b', e', k', V', syl', q1, q2, w1, w2, w3, w4, w5, w6, w7⟩
  · rw [zl_b21 q1, if_pos rfl, zl_b11 (show f_X7_readsLine (N' + 1) textM (nI n) read rw_ (0 : Int32) (nI e) (nI b) (nI e) (nI (aPC a)) (nI (aHC a)) (nI (aSC a)) sl = _ from q2), if_pos rfl]
    exact ⟨nI bf, z1, _, _, _, _, _, _, _, _, _, _, _, _, _, _, _, _, _, _, _, _, _, _, _, _, _, _, _, _, _, _, rfl, rfl, fun q => absurd q (nI_nm1 hbf)⟩
  · rw [zl_b21 q1, if_neg (show ¬ (1 : Int32) = 0 by decide), zl_b11 (show f_X7_readsLine (N' + 1) textM (nI n) read rw_ (0 : Int32) (nI e) (nI b) (nI e) (nI (aPC a)) (nI (aHC a)) (nI (aSC a)) sl = _ from q2), if_neg (show ¬ (1 : Int32) = 0 by decide), zl_let]
    exact flt_loop hN ht 7 1 N' (N' + 1) (by omega) (by omega) (by omega) (by omega) a' x1 x2 x3 x4 x5 x6 x7 x8 x9 x10 x11 x12 x13 pe' b' e' k' V' read' rw' syl' g1 g2 w1 w2 w3 w4 (chn_s (by omega) (chn_0 read rw_ a) w6 w7 w5)
end
