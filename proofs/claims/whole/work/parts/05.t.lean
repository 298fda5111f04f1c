abbrev wX5 (c : Nat → ClassId) (a0 aA_numbers aA_syllables aA_days aA_words aA_parents aA_otherParents aA_kinds aA_hopeDays aA_hopeTenths : Nat) (a_numbers : Nat → Int32) (a_syllables : Nat → Int64) (a_syllableCount : Int32) (a_days : Nat → Int32) (a_words : Nat → Int64) (a_parents : Nat → Int32) (a_otherParents : Nat → Int32) (a_kinds : Nat → Int32) (a_personCount : Int32) (a_hopeDays : Nat → Int32) (a_hopeTenths : Nat → Int32) (a_hopeCount : Int32) (a_degreesTold : Int32) : va_W := [(a0, .inr (5, [.ref aA_numbers, .ref aA_syllables, .int a_syllableCount, .ref aA_days, .ref aA_words, .ref aA_parents, .ref aA_otherParents, .ref aA_kinds, .int a_personCount, .ref aA_hopeDays, .ref aA_hopeTenths, .int a_hopeCount, .int a_degreesTold])), (aA_numbers, .inl (c 0, 26, .inl a_numbers)), (aA_syllables, .inl (c 1, 10, .inr (.inl a_syllables))), (aA_days, .inl (c 0, 16, .inl a_days)), (aA_words, .inl (c 1, 16, .inr (.inl a_words))), (aA_parents, .inl (c 0, 16, .inl a_parents)), (aA_otherParents, .inl (c 0, 16, .inl a_otherParents)), (aA_kinds, .inl (c 0, 16, .inl a_kinds)), (aA_hopeDays, .inl (c 0, 6, .inl a_hopeDays)), (aA_hopeTenths, .inl (c 0, 6, .inl a_hopeTenths))]
abbrev wX7 (c : Nat → ClassId) (a0 aA_row aA_words aA_isKept aA_text aA_read aA_readWord aA_lanes aA_sizes aA_items aA_readSyl aA_far aA_names aA_room aA_sums aA_named aA_used aA_trial aA_found : Nat) (a_row : Nat → Int32) (a_words : Nat → Int64) (a_isKept : Nat → Int32) (a_text : Nat → Int32) (a_length : Int32) (a_read : Nat → Int32) (a_readWord : Nat → Int64) (a_readMany : Int32) (a_lanes : Nat → Int32) (a_sizes : Nat → Int32) (a_items : Nat → Int32) (a_at : Int32) (a_place : Int32) (a_end : Int32) (a_readPersons : Int32) (a_readHopes : Int32) (a_readSyls : Int32) (a_readSyl : Nat → Int32) (a_far : Nat → Int32) (a_names : Nat → Int64) (a_nameMany : Int32) (a_room : Nat → Int32) (a_sums : Nat → Int32) (a_sumMany : Int32) (a_named : Nat → Int32) (a_used : Nat → Int32) (a_usedMany : Int32) (a_trial : Nat → Int32) (a_found : Nat → Int64) : va_W := [(a0, .inr (7, [.ref aA_row, .ref aA_words, .ref aA_isKept, .ref aA_text, .int a_length, .ref aA_read, .ref aA_readWord, .int a_readMany, .ref aA_lanes, .ref aA_sizes, .ref aA_items, .int a_at, .int a_place, .int a_end, .int a_readPersons, .int a_readHopes, .int a_readSyls, .ref aA_readSyl, .ref aA_far, .ref aA_names, .int a_nameMany, .ref aA_room, .ref aA_sums, .int a_sumMany, .ref aA_named, .ref aA_used, .int a_usedMany, .ref aA_trial, .ref aA_found])), (aA_row, .inl (c 0, 300, .inl a_row)), (aA_words, .inl (c 1, 48, .inr (.inl a_words))), (aA_isKept, .inl (c 2, 2, .inl a_isKept)), (aA_text, .inl (c 0, 200, .inl a_text)), (aA_read, .inl (c 0, 40, .inl a_read)), (aA_readWord, .inl (c 1, 8, .inr (.inl a_readWord))), (aA_lanes, .inl (c 0, 3, .inl a_lanes)), (aA_sizes, .inl (c 0, 3, .inl a_sizes)), (aA_items, .inl (c 0, 60, .inl a_items)), (aA_readSyl, .inl (c 0, 18, .inl a_readSyl)), (aA_far, .inl (c 0, 16, .inl a_far)), (aA_names, .inl (c 1, 1110, .inr (.inl a_names))), (aA_room, .inl (c 0, 6, .inl a_room)), (aA_sums, .inl (c 0, 11, .inl a_sums)), (aA_named, .inl (c 2, 401, .inl a_named)), (aA_used, .inl (c 0, 5, .inl a_used)), (aA_trial, .inl (c 0, 26, .inl a_trial)), (aA_found, .inl (c 1, 512, .inr (.inl a_found)))]
def f_X6_lastLetter (N : Nat) (p0 : Int64) : Option (Int32) := (some (((p0 - p0 / (27 : Int64) * (27 : Int64)).toInt32) - (1 : Int32)))
abbrev rm_X6_lastLetter : Room := { frames := 0, cells := 0, slots := 0, locals := 0 }
theorem mi_X6_lastLetter : zMS yX6_lastLetter cX6_lastLetter 2 (some .int) 1 := ⟨⟨tw_2_144, tw_1_1, tw_2_145⟩, by decide +kernel, by decide +kernel, by decide +kernel⟩
set_option maxHeartbeats 4000000 in
set_option maxRecDepth 100000 in
theorem k_X6_lastLetter (l : Launch) (D : va_G) (c : Nat → ClassId) (N : Nat)  (p0 : Int64) (o : Int32) (hf : f_X6_lastLetter N p0 = some o) : zMPi l D c yX6_lastLetter cX6_lastLetter 2 (some .int) rm_X6_lastLetter ([] : va_W) [.long p0] o := by
  refine zIP (by decide) (Nat.le_of_ble_eq_true rfl) ?_
  intro p e s m args below meth c0 Q hQ hx hb hr hlk hml hts hown hP hE ls hl
  have S : CallFix p m c0 cX6_lastLetter 2 s args zT RX6 := ⟨hx, hb, hml, hown, hts⟩
  have hl : lv_has ls 2 [(0, .long p0)] := hl
  unfold f_X6_lastLetter at hf
  refine lv_lload_n hx hb dX6_lastLetter_0 rfl (lv_at hl 0 rfl) ?_
  refine lv_ldc2 (v := (27 : Int64)) hx hb hown (hts _ tw_2_146) dX6_lastLetter_1 ?_
  refine lv_lrem hx hb dX6_lastLetter_4 (by decide) ?_
  refine lv_l2i (v := (p0 - p0 / (27 : Int64) * (27 : Int64)).toInt32) hx hb dX6_lastLetter_5 rfl ?_
  refine lv_iconst (v := (1 : Int32)) hx hb dX6_lastLetter_6 (by decide) ?_
  refine lv_isub hx hb dX6_lastLetter_7 ?_
  exact zRPi hQ hx hb hr hlk (Option.some.inj hf) dX6_lastLetter_8
def f_X6_isLetter (N : Nat) (p0 : Int32) : Option (Int32) := (if p0 < 0 then (some (0 : Int32)) else (if (26 : Int32) ≤ p0 then (some (0 : Int32)) else (some (1 : Int32))))
abbrev rm_X6_isLetter : Room := { frames := 0, cells := 0, slots := 0, locals := 0 }
theorem mi_X6_isLetter : zMS yX6_isLetter cX6_isLetter 1 (some .boolean) 1 := ⟨⟨tw_2_148, tw_1_1, tw_2_149⟩, by decide +kernel, by decide +kernel, by decide +kernel⟩
set_option maxHeartbeats 4000000 in
set_option maxRecDepth 100000 in
theorem k_X6_isLetter (l : Launch) (D : va_G) (c : Nat → ClassId) (N : Nat)  (p0 : Int32) (o : Int32) (hf : f_X6_isLetter N p0 = some o) : zMPi l D c yX6_isLetter cX6_isLetter 1 (some .boolean) rm_X6_isLetter ([] : va_W) [.int p0] o := by
  refine zIP (by decide) (Nat.le_of_ble_eq_true rfl) ?_
  intro p e s m args below meth c0 Q hQ hx hb hr hlk hml hts hown hP hE ls hl
  have S : CallFix p m c0 cX6_isLetter 1 s args zT RX6 := ⟨hx, hb, hml, hown, hts⟩
  have hl : lv_has ls 1 [(0, .int p0)] := hl
  unfold f_X6_isLetter at hf
  refine lv_iload_n hx hb dX6_isLetter_0 rfl (lv_at hl 0 rfl) ?_
  refine lv_if_lt (tgt := 14) hx hb dX6_isLetter_1 (by decide) (fun hc_1 => ?_) (fun hc_1 => ?_)
  · have hf := zz_it hf hc_1
    refine lv_iconst (v := (0 : Int32)) hx hb dX6_isLetter_14 (by decide) ?_
    exact zRPz hQ hx hb hr hlk rfl (Option.some.inj hf) dX6_isLetter_15
  · have hf := zz_if hf hc_1
    refine lv_iload_n hx hb dX6_isLetter_4 rfl (lv_at hl 0 rfl) ?_
    refine lv_bipush (v := (26 : Int32)) hx hb dX6_isLetter_5 (by decide) ?_
    refine lv_icmp_ge (tgt := 14) hx hb dX6_isLetter_7 (by decide) (fun hc_2 => ?_) (fun hc_2 => ?_)
    · have hf := zz_it hf hc_2
      refine lv_iconst (v := (0 : Int32)) hx hb dX6_isLetter_14 (by decide) ?_
      exact zRPz hQ hx hb hr hlk rfl (Option.some.inj hf) dX6_isLetter_15
    · have hf := zz_if hf hc_2
      refine lv_iconst (v := (1 : Int32)) hx hb dX6_isLetter_10 (by decide) ?_
      refine lv_goto (tgt := 15) hx hb dX6_isLetter_11 (by decide) ?_
      exact zRPz hQ hx hb hr hlk rfl (Option.some.inj hf) dX6_isLetter_15
def f_X5_isSyllable_L2 (N : Nat) (k_1 : Option (Int32)) (t_syllables : Nat → Int64) (t_syllableCount : Int32) (p1 : Int64) : Nat → (Int32) → Option (Int32)
  | 0, _ => none
  | n_1 + 1, v3_2 => (if t_syllableCount ≤ v3_2 then k_1 else zz_gd (zz_in v3_2 10) ((if (t_syllables v3_2.toNatClampNeg) = p1 then (some (1 : Int32)) else zz_let (v3_2 + (1 : Int32)) (fun v3_6 => (f_X5_isSyllable_L2 N k_1 t_syllables t_syllableCount p1 n_1 v3_6)))))
theorem f_X5_isSyllable_L2_s (N : Nat) (k_1 : Option (Int32)) (t_syllables : Nat → Int64) (t_syllableCount : Int32) (p1 : Int64) (n_1 : Nat) (v3_2 : Int32) : f_X5_isSyllable_L2 N k_1 t_syllables t_syllableCount p1 (n_1 + 1) v3_2 = (if t_syllableCount ≤ v3_2 then k_1 else zz_gd (zz_in v3_2 10) ((if (t_syllables v3_2.toNatClampNeg) = p1 then (some (1 : Int32)) else zz_let (v3_2 + (1 : Int32)) (fun v3_6 => (f_X5_isSyllable_L2 N k_1 t_syllables t_syllableCount p1 n_1 v3_6))))) := rfl
def f_X5_isSyllable (N : Nat) (t_syllables : Nat → Int64) (t_syllableCount : Int32) (p1 : Int64) : Option (Int32) := zz_let ((some (0 : Int32))) (fun k_1 => f_X5_isSyllable_L2 N k_1 t_syllables t_syllableCount p1 N (0 : Int32))
abbrev rm_X5_isSyllable : Room := { frames := 0, cells := 0, slots := 0, locals := 0 }
theorem mi_X5_isSyllable : zMI RX5 yX5_isSyllable cX5_isSyllable 4 (some .boolean) 1 := ⟨⟨tw_2_160, tw_2_161, tw_1_2, tw_2_162⟩, by decide +kernel, by decide +kernel, by decide +kernel⟩
set_option maxHeartbeats 4000000 in
set_option maxRecDepth 100000 in
theorem k_X5_isSyllable (l : Launch) (D : va_G) (c : Nat → ClassId) (N : Nat) (t0 : Nat) (tA_numbers : Nat) (tA_syllables : Nat) (tA_days : Nat) (tA_words : Nat) (tA_parents : Nat) (tA_otherParents : Nat) (tA_kinds : Nat) (tA_hopeDays : Nat) (tA_hopeTenths : Nat) (t_numbers : Nat → Int32) (t_syllables : Nat → Int64) (t_syllableCount : Int32) (t_days : Nat → Int32) (t_words : Nat → Int64) (t_parents : Nat → Int32) (t_otherParents : Nat → Int32) (t_kinds : Nat → Int32) (t_personCount : Int32) (t_hopeDays : Nat → Int32) (t_hopeTenths : Nat → Int32) (t_hopeCount : Int32) (t_degreesTold : Int32) (p1 : Int64) (o : Int32) (hf : f_X5_isSyllable N t_syllables t_syllableCount p1 = some o) : zMPi l D c yX5_isSyllable cX5_isSyllable 4 (some .boolean) rm_X5_isSyllable (wX5 c t0 tA_numbers tA_syllables tA_days tA_words tA_parents tA_otherParents tA_kinds tA_hopeDays tA_hopeTenths t_numbers t_syllables t_syllableCount t_days t_words t_parents t_otherParents t_kinds t_personCount t_hopeDays t_hopeTenths t_hopeCount t_degreesTold) [.ref t0, .long p1] o := by
  refine zIP (by decide) (Nat.le_of_ble_eq_true rfl) ?_
  intro p e s m args below meth c0 Q hQ hx hb hr hlk hml hts hown hP hE ls hl
  have S : CallFix p m c0 cX5_isSyllable 4 s args zT RX5 := ⟨hx, hb, hml, hown, hts⟩
  have hl : lv_has ls 4 [(0, .ref t0), (1, .long p1)] := hl
  unfold f_X5_isSyllable at hf
  refine lv_iconst (v := (0 : Int32)) hx hb dX5_isSyllable_0 (by decide) ?_
  refine lv_istore_n (lv' := [(3, .int (0 : Int32)), (0, .ref t0), (1, .long p1)]) hx hb dX5_isSyllable_1 rfl hl (by decide) rfl (fun ls hl => ?_)
  obtain ⟨k_1, hk_1, hf⟩ := zz_let_use hf
  have hX_1 : ∀ (ls : Array Slot), k_1 = some o → lv_has ls 4 [] → W p l e rm_X5_isSyllable s m args below meth c0 s.heap [] 0 0 Q (F0 m 29 ls []) := by
    intro ls hf hl
    subst hk_1
    refine lv_iconst (v := (0 : Int32)) hx hb dX5_isSyllable_29 (by decide) ?_
    exact zRPz hQ hx hb hr hlk rfl (Option.some.inj hf) dX5_isSyllable_30
  have hL_1 : ∀ (n_1 : Nat) (v3_2 : Int32) (ls : Array Slot), f_X5_isSyllable_L2 N k_1 t_syllables t_syllableCount p1 n_1 v3_2 = some o → lv_has ls 4 [(0, .ref t0), (1, .long p1), (3, .int v3_2)] → W p l e rm_X5_isSyllable s m args below meth c0 s.heap [] 0 0 Q (F0 m 2 ls []) := by
    intro n_1
    induction n_1 with
    | zero => intro v3_2 ls hf hl; exact zz_none hf
    | succ n_1 ih_1 =>
      intro v3_2 ls hf hl
      rw [f_X5_isSyllable_L2_s] at hf
      refine lv_iload_n hx hb dX5_isSyllable_2 rfl (lv_at hl 2 rfl) ?_
      refine lv_aload_n hx hb dX5_isSyllable_3 rfl (lv_at hl 0 rfl) ?_
      refine zget S uw_X5 hE hP 0 2 rfl rfl (by decide) tw_1_36 rfl rfl dX5_isSyllable_4 ?_
      refine lv_icmp_ge (tgt := 29) hx hb dX5_isSyllable_7 (by decide) (fun hc_3 => ?_) (fun hc_3 => ?_)
      · have hf := zz_it hf hc_3
        exact hX_1 ls hf (lv_sub hl [] rfl)
      · have hf := zz_if hf hc_3
        refine lv_aload_n hx hb dX5_isSyllable_10 rfl (lv_at hl 0 rfl) ?_
        refine zget S uw_X5 hE hP 0 1 rfl rfl (by decide) tw_1_33 rfl rfl dX5_isSyllable_11 ?_
        refine lv_iload_n hx hb dX5_isSyllable_14 rfl (lv_at hl 2 rfl) ?_
        obtain ⟨hin_4, hf⟩ := zz_gd_use hf
        refine zlld hx hb hE hP 2 rfl (zz_in_ok hin_4) dX5_isSyllable_15 ?_
        refine lv_lload_n hx hb dX5_isSyllable_16 rfl (lv_at hl 1 rfl) ?_
        refine zlc_ne (tgt := 23) hx hb dX5_isSyllable_17 dX5_isSyllable_18 (by decide) (fun hc_5 => ?_) (fun hc_5 => ?_)
        · have hf := zz_if hf hc_5
          obtain ⟨v3_6, ev3_6, hf⟩ := zz_let_use hf
          refine lv_iinc (v := v3_6) (lv' := [(3, .int v3_6), (0, .ref t0), (1, .long p1)]) hx hb dX5_isSyllable_23 hl (k := 2) rfl (by rw [← ev3_6]; rfl) (by decide) rfl (fun ls hl => ?_)
          refine lv_goto (tgt := 2) hx hb dX5_isSyllable_26 (by decide) ?_
          exact ih_1 v3_6 ls hf (lv_sub hl [1, 2, 0] rfl)
        · have hf := zz_it hf hc_5
          refine lv_iconst (v := (1 : Int32)) hx hb dX5_isSyllable_21 (by decide) ?_
          exact zRPz hQ hx hb hr hlk rfl (Option.some.inj hf) dX5_isSyllable_22
  exact hL_1 N (0 : Int32) ls hf (lv_sub hl [1, 2, 0] rfl)
def f_X5_sumOf_L8 (N : Nat) (k_1 : (Int32) → Option (Int32)) (t_numbers : Nat → Int32) : Nat → (Int32) → (Int64) → (Int32) → Option (Int32)
  | 0, _, _, _ => none
  | n_1 + 1, v3_2, v4_3, v6_4 => (if (9 : Int32) ≤ v6_4 then (k_1 v3_2) else (if v4_3 ≤ (0 : Int64) then (k_1 v3_2) else zz_b1 (f_X6_lastLetter N v4_3) (fun r_7 => zz_b1 (f_X6_isLetter N r_7) (fun r_8 => zz_let (fun (v3_13 : Int32) => zz_let (v4_3 / (27 : Int64)) (fun v4_14 => zz_let (v6_4 + (1 : Int32)) (fun v6_15 => (f_X5_sumOf_L8 N k_1 t_numbers n_1 v3_13 v4_14 v6_15)))) (fun k_12 => (if r_8 = 0 then (k_12 v3_2) else zz_gd (zz_in r_7 26) (zz_let (v3_2 + (t_numbers r_7.toNatClampNeg)) (fun v3_11 => (k_12 v3_11)))))))))
theorem f_X5_sumOf_L8_s (N : Nat) (k_1 : (Int32) → Option (Int32)) (t_numbers : Nat → Int32) (n_1 : Nat) (v3_2 : Int32) (v4_3 : Int64) (v6_4 : Int32) : f_X5_sumOf_L8 N k_1 t_numbers (n_1 + 1) v3_2 v4_3 v6_4 = (if (9 : Int32) ≤ v6_4 then (k_1 v3_2) else (if v4_3 ≤ (0 : Int64) then (k_1 v3_2) else zz_b1 (f_X6_lastLetter N v4_3) (fun r_7 => zz_b1 (f_X6_isLetter N r_7) (fun r_8 => zz_let (fun (v3_13 : Int32) => zz_let (v4_3 / (27 : Int64)) (fun v4_14 => zz_let (v6_4 + (1 : Int32)) (fun v6_15 => (f_X5_sumOf_L8 N k_1 t_numbers n_1 v3_13 v4_14 v6_15)))) (fun k_12 => (if r_8 = 0 then (k_12 v3_2) else zz_gd (zz_in r_7 26) (zz_let (v3_2 + (t_numbers r_7.toNatClampNeg)) (fun v3_11 => (k_12 v3_11))))))))) := rfl
def f_X5_sumOf (N : Nat) (t_numbers : Nat → Int32) (p1 : Int64) : Option (Int32) := zz_let (fun (v3_16 : Int32) => (some v3_16)) (fun k_1 => f_X5_sumOf_L8 N k_1 t_numbers N (0 : Int32) p1 (0 : Int32))
abbrev rm_X5_sumOf : Room := { frames := 1, cells := 0, slots := 0, locals := 21 }
theorem mi_X5_sumOf : zMI RX5 yX5_sumOf cX5_sumOf 8 (some .int) 1 := ⟨⟨tw_3_49, tw_3_50, tw_1_2, tw_3_51⟩, by decide +kernel, by decide +kernel, by decide +kernel⟩
set_option maxHeartbeats 4000000 in
set_option maxRecDepth 100000 in
theorem k_X5_sumOf (l : Launch) (D : va_G) (c : Nat → ClassId) (N : Nat) (t0 : Nat) (tA_numbers : Nat) (tA_syllables : Nat) (tA_days : Nat) (tA_words : Nat) (tA_parents : Nat) (tA_otherParents : Nat) (tA_kinds : Nat) (tA_hopeDays : Nat) (tA_hopeTenths : Nat) (t_numbers : Nat → Int32) (t_syllables : Nat → Int64) (t_syllableCount : Int32) (t_days : Nat → Int32) (t_words : Nat → Int64) (t_parents : Nat → Int32) (t_otherParents : Nat → Int32) (t_kinds : Nat → Int32) (t_personCount : Int32) (t_hopeDays : Nat → Int32) (t_hopeTenths : Nat → Int32) (t_hopeCount : Int32) (t_degreesTold : Int32) (p1 : Int64) (o : Int32) (hf : f_X5_sumOf N t_numbers p1 = some o) : zMPi l D c yX5_sumOf cX5_sumOf 8 (some .int) rm_X5_sumOf (wX5 c t0 tA_numbers tA_syllables tA_days tA_words tA_parents tA_otherParents tA_kinds tA_hopeDays tA_hopeTenths t_numbers t_syllables t_syllableCount t_days t_words t_parents t_otherParents t_kinds t_personCount t_hopeDays t_hopeTenths t_hopeCount t_degreesTold) [.ref t0, .long p1] o := by
  refine zIP (by decide) (Nat.le_of_ble_eq_true rfl) ?_
  intro p e s m args below meth c0 Q hQ hx hb hr hlk hml hts hown hP hE ls hl
  have S : CallFix p m c0 cX5_sumOf 8 s args zT RX5 := ⟨hx, hb, hml, hown, hts⟩
  have hl : lv_has ls 8 [(0, .ref t0), (1, .long p1)] := hl
  unfold f_X5_sumOf at hf
  refine lv_iconst (v := (0 : Int32)) hx hb dX5_sumOf_0 (by decide) ?_
  refine lv_istore_n (lv' := [(3, .int (0 : Int32)), (0, .ref t0), (1, .long p1)]) hx hb dX5_sumOf_1 rfl hl (by decide) rfl (fun ls hl => ?_)
  refine lv_lload_n hx hb dX5_sumOf_2 rfl (lv_at hl 2 rfl) ?_
  refine lv_lstore (lv' := [(4, .long p1), (3, .int (0 : Int32)), (0, .ref t0), (1, .long p1)]) hx hb dX5_sumOf_3 hl (by decide) rfl (fun ls hl => ?_)
  refine lv_iconst (v := (0 : Int32)) hx hb dX5_sumOf_5 (by decide) ?_
  refine lv_istore (lv' := [(6, .int (0 : Int32)), (4, .long p1), (3, .int (0 : Int32)), (0, .ref t0), (1, .long p1)]) hx hb dX5_sumOf_6 hl (by decide) rfl (fun ls hl => ?_)
  obtain ⟨k_1, hk_1, hf⟩ := zz_let_use hf
  have hX_1 : ∀ (v3_16 : Int32) (ls : Array Slot), k_1 v3_16 = some o → lv_has ls 8 [(3, .int v3_16)] → W p l e rm_X5_sumOf s m args below meth c0 s.heap [] 0 0 Q (F0 m 61 ls []) := by
    intro v3_16 ls hf hl
    subst hk_1
    refine lv_iload_n hx hb dX5_sumOf_61 rfl (lv_at hl 0 rfl) ?_
    exact zRPi hQ hx hb hr hlk (Option.some.inj hf) dX5_sumOf_62
  have hL_1 : ∀ (n_1 : Nat) (v3_2 : Int32) (v4_3 : Int64) (v6_4 : Int32) (ls : Array Slot), f_X5_sumOf_L8 N k_1 t_numbers n_1 v3_2 v4_3 v6_4 = some o → lv_has ls 8 [(0, .ref t0), (3, .int v3_2), (4, .long v4_3), (6, .int v6_4)] → W p l e rm_X5_sumOf s m args below meth c0 s.heap [] 0 0 Q (F0 m 8 ls []) := by
    intro n_1
    induction n_1 with
    | zero => intro v3_2 v4_3 v6_4 ls hf hl; exact zz_none hf
    | succ n_1 ih_1 =>
      intro v3_2 v4_3 v6_4 ls hf hl
      rw [f_X5_sumOf_L8_s] at hf
      refine lv_iload hx hb dX5_sumOf_8 (lv_at hl 3 rfl) ?_
      refine lv_bipush (v := (9 : Int32)) hx hb dX5_sumOf_10 (by decide) ?_
      refine lv_icmp_ge (tgt := 61) hx hb dX5_sumOf_12 (by decide) (fun hc_5 => ?_) (fun hc_5 => ?_)
      · have hf := zz_it hf hc_5
        exact hX_1 v3_2 ls hf (lv_sub hl [1] rfl)
      · have hf := zz_if hf hc_5
        refine lv_lload hx hb dX5_sumOf_15 (lv_at hl 2 rfl) ?_
        refine lv_lconst (v := (0 : Int64)) hx hb dX5_sumOf_17 (by decide) ?_
        refine zlc_le (tgt := 61) hx hb dX5_sumOf_18 dX5_sumOf_19 (by decide) (fun hc_6 => ?_) (fun hc_6 => ?_)
        · have hf := zz_it hf hc_6
          exact hX_1 v3_2 ls hf (lv_sub hl [1] rfl)
        · have hf := zz_if hf hc_6
          refine lv_lload hx hb dX5_sumOf_22 (lv_at hl 2 rfl) ?_
          obtain ⟨r_7, he_7, hf⟩ := zz_b1_use hf
          refine zcNi (As := [.long v4_3]) (rest := []) S (k_X6_lastLetter l D c N  v4_3 r_7 he_7) mi_X6_lastLetter tn_X5_67 ⟨(Nat.le_of_ble_eq_true rfl), (Nat.le_of_ble_eq_true rfl)⟩ ⟨rfl, rfl⟩ (zpnil) hE rfl hl.1 rfl (Nat.le_of_ble_eq_true rfl) dX5_sumOf_24 ⟨(Nat.le_of_ble_eq_true rfl), (Nat.le_of_ble_eq_true rfl)⟩ ?_
          refine lv_istore (lv' := [(7, .int r_7), (0, .ref t0), (3, .int v3_2), (4, .long v4_3), (6, .int v6_4)]) hx hb dX5_sumOf_27 hl (by decide) rfl (fun ls hl => ?_)
          refine lv_iload hx hb dX5_sumOf_29 (lv_at hl 0 rfl) ?_
          obtain ⟨r_8, he_8, hf⟩ := zz_b1_use hf
          refine zcNi (As := [.int r_7]) (rest := []) S (k_X6_isLetter l D c N  r_7 r_8 he_8) mi_X6_isLetter tn_X5_71 ⟨(Nat.le_of_ble_eq_true rfl), (Nat.le_of_ble_eq_true rfl)⟩ ⟨rfl, rfl⟩ (zpnil) hE rfl hl.1 rfl (Nat.le_of_ble_eq_true rfl) dX5_sumOf_31 ⟨(Nat.le_of_ble_eq_true rfl), (Nat.le_of_ble_eq_true rfl)⟩ ?_
          obtain ⟨k_12, hk_12, hf⟩ := zz_let_use hf
          have hJ_12 : ∀ (v3_13 : Int32) (ls : Array Slot), k_12 v3_13 = some o → lv_has ls 8 [(0, .ref t0), (3, .int v3_13), (4, .long v4_3), (6, .int v6_4)] → W p l e rm_X5_sumOf s m args below meth c0 s.heap [] 0 0 Q (F0 m 47 ls []) := by
            intro v3_13 ls hf hl
            subst hk_12
            refine lv_lload hx hb dX5_sumOf_47 (lv_at hl 2 rfl) ?_
            refine lv_ldc2 (v := (27 : Int64)) hx hb hown (hts _ tw_3_54) dX5_sumOf_49 ?_
            refine lv_ldiv hx hb dX5_sumOf_52 (by decide) ?_
            obtain ⟨v4_14, ev4_14, hf⟩ := zz_let_use hf
            refine ztl ev4_14 ?_
            refine lv_lstore (lv' := [(4, .long v4_14), (0, .ref t0), (3, .int v3_13), (6, .int v6_4)]) hx hb dX5_sumOf_53 hl (by decide) rfl (fun ls hl => ?_)
            obtain ⟨v6_15, ev6_15, hf⟩ := zz_let_use hf
            refine lv_iinc (v := v6_15) (lv' := [(6, .int v6_15), (4, .long v4_14), (0, .ref t0), (3, .int v3_13)]) hx hb dX5_sumOf_55 hl (k := 3) rfl (by rw [← ev6_15]; rfl) (by decide) rfl (fun ls hl => ?_)
            refine lv_goto (tgt := 8) hx hb dX5_sumOf_58 (by decide) ?_
            exact ih_1 v3_13 v4_14 v6_15 ls hf (lv_sub hl [2, 3, 1, 0] rfl)
          refine lv_if_eq (tgt := 47) hx hb dX5_sumOf_34 (by decide) (fun hc_9 => ?_) (fun hc_9 => ?_)
          · have hf := zz_it hf hc_9
            exact hJ_12 v3_2 ls hf (lv_sub hl [1, 2, 3, 4] rfl)
          · have hf := zz_if hf hc_9
            refine lv_iload_n hx hb dX5_sumOf_37 rfl (lv_at hl 2 rfl) ?_
            refine lv_aload_n hx hb dX5_sumOf_38 rfl (lv_at hl 1 rfl) ?_
            refine zget S uw_X5 hE hP 0 0 rfl rfl (by decide) tw_1_30 rfl rfl dX5_sumOf_39 ?_
            refine lv_iload hx hb dX5_sumOf_42 (lv_at hl 0 rfl) ?_
            obtain ⟨hin_10, hf⟩ := zz_gd_use hf
            refine zild hx hb hE hP 1 rfl (zz_in_ok hin_10) dX5_sumOf_44 ?_
            refine lv_iadd hx hb dX5_sumOf_45 ?_
            obtain ⟨v3_11, ev3_11, hf⟩ := zz_let_use hf
            refine zti ev3_11 ?_
            refine lv_istore_n (lv' := [(3, .int v3_11), (7, .int r_7), (0, .ref t0), (4, .long v4_3), (6, .int v6_4)]) hx hb dX5_sumOf_46 rfl hl (by decide) rfl (fun ls hl => ?_)
            exact hJ_12 v3_11 ls hf (lv_sub hl [2, 0, 3, 4] rfl)
  exact hL_1 N (0 : Int32) p1 (0 : Int32) ls hf (lv_sub hl [3, 2, 1, 0] rfl)
def f_X5_isPerson (N : Nat) (t_personCount : Int32) (p1 : Int32) : Option (Int32) := (if p1 < 0 then (some (0 : Int32)) else (if t_personCount ≤ p1 then (some (0 : Int32)) else (some (1 : Int32))))
abbrev rm_X5_isPerson : Room := { frames := 0, cells := 0, slots := 0, locals := 0 }
theorem mi_X5_isPerson : zMI RX5 yX5_isPerson cX5_isPerson 2 (some .boolean) 1 := ⟨⟨tw_2_239, tw_3_0, tw_1_2, tw_3_1⟩, by decide +kernel, by decide +kernel, by decide +kernel⟩
set_option maxHeartbeats 4000000 in
set_option maxRecDepth 100000 in
theorem k_X5_isPerson (l : Launch) (D : va_G) (c : Nat → ClassId) (N : Nat) (t0 : Nat) (tA_numbers : Nat) (tA_syllables : Nat) (tA_days : Nat) (tA_words : Nat) (tA_parents : Nat) (tA_otherParents : Nat) (tA_kinds : Nat) (tA_hopeDays : Nat) (tA_hopeTenths : Nat) (t_numbers : Nat → Int32) (t_syllables : Nat → Int64) (t_syllableCount : Int32) (t_days : Nat → Int32) (t_words : Nat → Int64) (t_parents : Nat → Int32) (t_otherParents : Nat → Int32) (t_kinds : Nat → Int32) (t_personCount : Int32) (t_hopeDays : Nat → Int32) (t_hopeTenths : Nat → Int32) (t_hopeCount : Int32) (t_degreesTold : Int32) (p1 : Int32) (o : Int32) (hf : f_X5_isPerson N t_personCount p1 = some o) : zMPi l D c yX5_isPerson cX5_isPerson 2 (some .boolean) rm_X5_isPerson (wX5 c t0 tA_numbers tA_syllables tA_days tA_words tA_parents tA_otherParents tA_kinds tA_hopeDays tA_hopeTenths t_numbers t_syllables t_syllableCount t_days t_words t_parents t_otherParents t_kinds t_personCount t_hopeDays t_hopeTenths t_hopeCount t_degreesTold) [.ref t0, .int p1] o := by
  refine zIP (by decide) (Nat.le_of_ble_eq_true rfl) ?_
  intro p e s m args below meth c0 Q hQ hx hb hr hlk hml hts hown hP hE ls hl
  have S : CallFix p m c0 cX5_isPerson 2 s args zT RX5 := ⟨hx, hb, hml, hown, hts⟩
  have hl : lv_has ls 2 [(0, .ref t0), (1, .int p1)] := hl
  unfold f_X5_isPerson at hf
  refine lv_iload_n hx hb dX5_isPerson_0 rfl (lv_at hl 1 rfl) ?_
  refine lv_if_lt (tgt := 16) hx hb dX5_isPerson_1 (by decide) (fun hc_1 => ?_) (fun hc_1 => ?_)
  · have hf := zz_it hf hc_1
    refine lv_iconst (v := (0 : Int32)) hx hb dX5_isPerson_16 (by decide) ?_
    exact zRPz hQ hx hb hr hlk rfl (Option.some.inj hf) dX5_isPerson_17
  · have hf := zz_if hf hc_1
    refine lv_iload_n hx hb dX5_isPerson_4 rfl (lv_at hl 1 rfl) ?_
    refine lv_aload_n hx hb dX5_isPerson_5 rfl (lv_at hl 0 rfl) ?_
    refine zget S uw_X5 hE hP 0 8 rfl rfl (by decide) tw_1_53 rfl rfl dX5_isPerson_6 ?_
    refine lv_icmp_ge (tgt := 16) hx hb dX5_isPerson_9 (by decide) (fun hc_2 => ?_) (fun hc_2 => ?_)
    · have hf := zz_it hf hc_2
      refine lv_iconst (v := (0 : Int32)) hx hb dX5_isPerson_16 (by decide) ?_
      exact zRPz hQ hx hb hr hlk rfl (Option.some.inj hf) dX5_isPerson_17
    · have hf := zz_if hf hc_2
      refine lv_iconst (v := (1 : Int32)) hx hb dX5_isPerson_12 (by decide) ?_
      refine lv_goto (tgt := 17) hx hb dX5_isPerson_13 (by decide) ?_
      exact zRPz hQ hx hb hr hlk rfl (Option.some.inj hf) dX5_isPerson_17
def f_X5_forgetAll (N : Nat)  : Option ((Int32) × (Int32) × (Int32)) := (some ((0 : Int32), (0 : Int32), (0 : Int32)))
abbrev rm_X5_forgetAll : Room := { frames := 0, cells := 0, slots := 0, locals := 0 }
theorem mi_X5_forgetAll : zMI RX5 yX5_forgetAll cX5_forgetAll 1 none 0 := ⟨⟨tw_2_219, tw_2_220, tw_1_2, tw_2_221⟩, by decide +kernel, by decide +kernel, by decide +kernel⟩
set_option maxHeartbeats 4000000 in
set_option maxRecDepth 100000 in
theorem k_X5_forgetAll (l : Launch) (D : va_G) (c : Nat → ClassId) (N : Nat) (t0 : Nat) (tA_numbers : Nat) (tA_syllables : Nat) (tA_days : Nat) (tA_words : Nat) (tA_parents : Nat) (tA_otherParents : Nat) (tA_kinds : Nat) (tA_hopeDays : Nat) (tA_hopeTenths : Nat) (t_numbers : Nat → Int32) (t_syllables : Nat → Int64) (t_syllableCount : Int32) (t_days : Nat → Int32) (t_words : Nat → Int64) (t_parents : Nat → Int32) (t_otherParents : Nat → Int32) (t_kinds : Nat → Int32) (t_personCount : Int32) (t_hopeDays : Nat → Int32) (t_hopeTenths : Nat → Int32) (t_hopeCount : Int32) (t_degreesTold : Int32)  (o_t_syllableCount : Int32) (o_t_personCount : Int32) (o_t_hopeCount : Int32) (hf : f_X5_forgetAll N  = some (o_t_syllableCount, o_t_personCount, o_t_hopeCount)) : zMWv l D c yX5_forgetAll cX5_forgetAll 1 none rm_X5_forgetAll (wX5 c t0 tA_numbers tA_syllables tA_days tA_words tA_parents tA_otherParents tA_kinds tA_hopeDays tA_hopeTenths t_numbers t_syllables t_syllableCount t_days t_words t_parents t_otherParents t_kinds t_personCount t_hopeDays t_hopeTenths t_hopeCount t_degreesTold) (wX5 c t0 tA_numbers tA_syllables tA_days tA_words tA_parents tA_otherParents tA_kinds tA_hopeDays tA_hopeTenths t_numbers t_syllables o_t_syllableCount t_days t_words t_parents t_otherParents t_kinds o_t_personCount t_hopeDays t_hopeTenths o_t_hopeCount t_degreesTold) [.ref t0] := by
  intro sz
  refine zIW (by decide) (Nat.le_of_ble_eq_true rfl) ?_
  intro p e s m args below meth c0 Q A hAe hQ hx hb hr hlk hml hts hown hP hE hD hS hA hsz hmn ls hl
  rw [← hAe] at hQ
  have S : CallFix p m c0 cX5_forgetAll 1 s args zT RX5 := ⟨hx, hb, hml, hown, hts⟩
  have hl : lv_has ls 1 [(0, .ref t0)] := hl
  unfold f_X5_forgetAll at hf
  refine lv_aload_n hx hb dX5_forgetAll_0 rfl (lv_at hl 0 rfl) ?_
  refine lv_iconst (v := (0 : Int32)) hx hb dX5_forgetAll_1 (by decide) ?_
  refine zput S uw_X5 tyX5_ok nmX5 hE hP hD hS 0 2 (ty := .int) (wX5 c t0 tA_numbers tA_syllables tA_days tA_words tA_parents tA_otherParents tA_kinds tA_hopeDays tA_hopeTenths t_numbers t_syllables (0 : Int32) t_days t_words t_parents t_otherParents t_kinds t_personCount t_hopeDays t_hopeTenths t_hopeCount t_degreesTold) rfl rfl (by decide) tw_1_36 rfl rfl (by decide +kernel) rfl rfl (Nat.le_of_ble_eq_true rfl) rfl dX5_forgetAll_2 (fun H locs hP hD hS => ?_)
  refine lv_aload_n hx hb dX5_forgetAll_5 rfl (lv_at hl 0 rfl) ?_
  refine lv_iconst (v := (0 : Int32)) hx hb dX5_forgetAll_6 (by decide) ?_
  refine zput S uw_X5 tyX5_ok nmX5 hE hP hD hS 0 8 (ty := .int) (wX5 c t0 tA_numbers tA_syllables tA_days tA_words tA_parents tA_otherParents tA_kinds tA_hopeDays tA_hopeTenths t_numbers t_syllables (0 : Int32) t_days t_words t_parents t_otherParents t_kinds (0 : Int32) t_hopeDays t_hopeTenths t_hopeCount t_degreesTold) rfl rfl (by decide) tw_1_53 rfl rfl (by decide +kernel) rfl rfl (Nat.le_of_ble_eq_true rfl) rfl dX5_forgetAll_7 (fun H locs hP hD hS => ?_)
  refine lv_aload_n hx hb dX5_forgetAll_10 rfl (lv_at hl 0 rfl) ?_
  refine lv_iconst (v := (0 : Int32)) hx hb dX5_forgetAll_11 (by decide) ?_
  refine zput S uw_X5 tyX5_ok nmX5 hE hP hD hS 0 11 (ty := .int) (wX5 c t0 tA_numbers tA_syllables tA_days tA_words tA_parents tA_otherParents tA_kinds tA_hopeDays tA_hopeTenths t_numbers t_syllables (0 : Int32) t_days t_words t_parents t_otherParents t_kinds (0 : Int32) t_hopeDays t_hopeTenths (0 : Int32) t_degreesTold) rfl rfl (by decide) tw_1_61 rfl rfl (by decide +kernel) rfl rfl (Nat.le_of_ble_eq_true rfl) rfl dX5_forgetAll_12 (fun H locs hP hD hS => ?_)
  cases hf
  exact zRWv hQ hx hb hr hlk hP hD hS dX5_forgetAll_15
def f_X5_addSyllable (N : Nat) (t_syllables : Nat → Int64) (t_syllableCount : Int32) (p1 : Int64) : Option (Int32 × (Nat → Int64) × (Int32)) := (if (10 : Int32) ≤ t_syllableCount then (some ((0 : Int32), t_syllables, t_syllableCount)) else zz_b1 (f_X5_isSyllable N t_syllables t_syllableCount p1) (fun r_2 => (if r_2 = 0 then zz_gd (zz_in t_syllableCount 10) (zz_let (vp_updL t_syllables t_syllableCount.toNatClampNeg p1) (fun t_syllables_5 => zz_let (t_syllableCount + (1 : Int32)) (fun t_syllableCount_6 => (some ((1 : Int32), t_syllables_5, t_syllableCount_6))))) else (some ((0 : Int32), t_syllables, t_syllableCount)))))
abbrev rm_X5_addSyllable : Room := { frames := 1, cells := 0, slots := 0, locals := 23 }
theorem mi_X5_addSyllable : zMI RX5 yX5_addSyllable cX5_addSyllable 3 (some .boolean) 1 := ⟨⟨tw_2_156, tw_2_157, tw_1_2, tw_2_158⟩, by decide +kernel, by decide +kernel, by decide +kernel⟩
set_option maxHeartbeats 4000000 in
set_option maxRecDepth 100000 in
theorem k_X5_addSyllable (l : Launch) (D : va_G) (c : Nat → ClassId) (N : Nat) (t0 : Nat) (tA_numbers : Nat) (tA_syllables : Nat) (tA_days : Nat) (tA_words : Nat) (tA_parents : Nat) (tA_otherParents : Nat) (tA_kinds : Nat) (tA_hopeDays : Nat) (tA_hopeTenths : Nat) (t_numbers : Nat → Int32) (t_syllables : Nat → Int64) (t_syllableCount : Int32) (t_days : Nat → Int32) (t_words : Nat → Int64) (t_parents : Nat → Int32) (t_otherParents : Nat → Int32) (t_kinds : Nat → Int32) (t_personCount : Int32) (t_hopeDays : Nat → Int32) (t_hopeTenths : Nat → Int32) (t_hopeCount : Int32) (t_degreesTold : Int32) (p1 : Int64) (o : Int32) (o_t_syllables : Nat → Int64) (o_t_syllableCount : Int32) (hf : f_X5_addSyllable N t_syllables t_syllableCount p1 = some (o, o_t_syllables, o_t_syllableCount)) : zMWi l D c yX5_addSyllable cX5_addSyllable 3 (some .boolean) rm_X5_addSyllable (wX5 c t0 tA_numbers tA_syllables tA_days tA_words tA_parents tA_otherParents tA_kinds tA_hopeDays tA_hopeTenths t_numbers t_syllables t_syllableCount t_days t_words t_parents t_otherParents t_kinds t_personCount t_hopeDays t_hopeTenths t_hopeCount t_degreesTold) (wX5 c t0 tA_numbers tA_syllables tA_days tA_words tA_parents tA_otherParents tA_kinds tA_hopeDays tA_hopeTenths t_numbers o_t_syllables o_t_syllableCount t_days t_words t_parents t_otherParents t_kinds t_personCount t_hopeDays t_hopeTenths t_hopeCount t_degreesTold) [.ref t0, .long p1] o := by
  intro sz
  refine zIW (by decide) (Nat.le_of_ble_eq_true rfl) ?_
  intro p e s m args below meth c0 Q A hAe hQ hx hb hr hlk hml hts hown hP hE hD hS hA hsz hmn ls hl
  rw [← hAe] at hQ
  have S : CallFix p m c0 cX5_addSyllable 3 s args zT RX5 := ⟨hx, hb, hml, hown, hts⟩
  have hl : lv_has ls 3 [(0, .ref t0), (1, .long p1)] := hl
  unfold f_X5_addSyllable at hf
  refine lv_aload_n hx hb dX5_addSyllable_0 rfl (lv_at hl 0 rfl) ?_
  refine zget S uw_X5 hE hP 0 2 rfl rfl (by decide) tw_1_36 rfl rfl dX5_addSyllable_1 ?_
  refine lv_bipush (v := (10 : Int32)) hx hb dX5_addSyllable_4 (by decide) ?_
  refine lv_icmp_ge (tgt := 17) hx hb dX5_addSyllable_6 (by decide) (fun hc_1 => ?_) (fun hc_1 => ?_)
  · have hf := zz_it hf hc_1
    refine lv_iconst (v := (0 : Int32)) hx hb dX5_addSyllable_17 (by decide) ?_
    cases hf
    exact zRWz hQ hx hb hr hlk rfl rfl hP hD hS dX5_addSyllable_18
  · have hf := zz_if hf hc_1
    refine lv_aload_n hx hb dX5_addSyllable_9 rfl (lv_at hl 0 rfl) ?_
    refine lv_lload_n hx hb dX5_addSyllable_10 rfl (lv_at hl 1 rfl) ?_
    obtain ⟨r_2, he_2, hf⟩ := zz_b1_use hf
    refine zcVi (As := [.long p1]) (rest := []) S (k_X5_isSyllable l D c N t0 tA_numbers tA_syllables tA_days tA_words tA_parents tA_otherParents tA_kinds tA_hopeDays tA_hopeTenths t_numbers t_syllables t_syllableCount t_days t_words t_parents t_otherParents t_kinds t_personCount t_hopeDays t_hopeTenths t_hopeCount t_degreesTold p1 r_2 he_2) mi_X5_isSyllable tw_2_159 ⟨(Nat.le_of_ble_eq_true rfl), (Nat.le_of_ble_eq_true rfl)⟩ ⟨rfl, rfl⟩ hP hE (ci := 5) rfl rfl (q0 := 0) rfl rfl hl.1 rfl (Nat.le_of_ble_eq_true rfl) dX5_addSyllable_11 ⟨(Nat.le_of_ble_eq_true rfl), (Nat.le_of_ble_eq_true rfl)⟩ ?_
    refine lv_if_eq (tgt := 19) hx hb dX5_addSyllable_14 (by decide) (fun hc_3 => ?_) (fun hc_3 => ?_)
    · have hf := zz_it hf hc_3
      refine lv_aload_n hx hb dX5_addSyllable_19 rfl (lv_at hl 0 rfl) ?_
      refine zget S uw_X5 hE hP 0 1 rfl rfl (by decide) tw_1_33 rfl rfl dX5_addSyllable_20 ?_
      refine lv_aload_n hx hb dX5_addSyllable_23 rfl (lv_at hl 0 rfl) ?_
      refine zget S uw_X5 hE hP 0 2 rfl rfl (by decide) tw_1_36 rfl rfl dX5_addSyllable_24 ?_
      refine lv_lload_n hx hb dX5_addSyllable_27 rfl (lv_at hl 1 rfl) ?_
      obtain ⟨hin_4, hf⟩ := zz_gd_use hf
      obtain ⟨t_syllables_5, et_syllables_5, hf⟩ := zz_let_use hf
      refine zlst hx hb hE hP hD hS 2 (wX5 c t0 tA_numbers tA_syllables tA_days tA_words tA_parents tA_otherParents tA_kinds tA_hopeDays tA_hopeTenths t_numbers t_syllables_5 t_syllableCount t_days t_words t_parents t_otherParents t_kinds t_personCount t_hopeDays t_hopeTenths t_hopeCount t_degreesTold) rfl rfl et_syllables_5 (zz_in_ok hin_4) dX5_addSyllable_28 (fun H locs hP hD hS => ?_)
      refine lv_aload_n hx hb dX5_addSyllable_29 rfl (lv_at hl 0 rfl) ?_
      refine lv_dup hx hb dX5_addSyllable_30 rfl ?_
      refine zget S uw_X5 hE hP 0 2 rfl rfl (by decide) tw_1_36 rfl rfl dX5_addSyllable_31 ?_
      refine lv_iconst (v := (1 : Int32)) hx hb dX5_addSyllable_34 (by decide) ?_
      refine lv_iadd hx hb dX5_addSyllable_35 ?_
      obtain ⟨t_syllableCount_6, et_syllableCount_6, hf⟩ := zz_let_use hf
      refine zti et_syllableCount_6 ?_
      refine zput S uw_X5 tyX5_ok nmX5 hE hP hD hS 0 2 (ty := .int) (wX5 c t0 tA_numbers tA_syllables tA_days tA_words tA_parents tA_otherParents tA_kinds tA_hopeDays tA_hopeTenths t_numbers t_syllables_5 t_syllableCount_6 t_days t_words t_parents t_otherParents t_kinds t_personCount t_hopeDays t_hopeTenths t_hopeCount t_degreesTold) rfl rfl (by decide) tw_1_36 rfl rfl (by decide +kernel) rfl rfl (Nat.le_of_ble_eq_true rfl) rfl dX5_addSyllable_36 (fun H locs hP hD hS => ?_)
      refine lv_iconst (v := (1 : Int32)) hx hb dX5_addSyllable_39 (by decide) ?_
      cases hf
      exact zRWz hQ hx hb hr hlk rfl rfl hP hD hS dX5_addSyllable_40
    · have hf := zz_if hf hc_3
      refine lv_iconst (v := (0 : Int32)) hx hb dX5_addSyllable_17 (by decide) ?_
      cases hf
      exact zRWz hQ hx hb hr hlk rfl rfl hP hD hS dX5_addSyllable_18
def f_X5_sumInNames_L5 (N : Nat) (k_1 : Option (Int32)) (t_numbers : Nat → Int32) : Nat → (Int64) → (Int32) → Option (Int32)
  | 0, _, _ => none
  | n_1 + 1, v3_2, v5_3 => (if (9 : Int32) ≤ v5_3 then k_1 else (if v3_2 ≤ (0 : Int64) then k_1 else zz_b1 (f_X6_lastLetter N v3_2) (fun r_6 => zz_b1 (f_X6_isLetter N r_6) (fun r_7 => (if r_7 = 0 then (some (0 : Int32)) else zz_gd (zz_in r_6 26) ((if (t_numbers r_6.toNatClampNeg) = 0 then (some (0 : Int32)) else zz_let (v3_2 / (27 : Int64)) (fun v3_11 => zz_let (v5_3 + (1 : Int32)) (fun v5_12 => (f_X5_sumInNames_L5 N k_1 t_numbers n_1 v3_11 v5_12))))))))))
theorem f_X5_sumInNames_L5_s (N : Nat) (k_1 : Option (Int32)) (t_numbers : Nat → Int32) (n_1 : Nat) (v3_2 : Int64) (v5_3 : Int32) : f_X5_sumInNames_L5 N k_1 t_numbers (n_1 + 1) v3_2 v5_3 = (if (9 : Int32) ≤ v5_3 then k_1 else (if v3_2 ≤ (0 : Int64) then k_1 else zz_b1 (f_X6_lastLetter N v3_2) (fun r_6 => zz_b1 (f_X6_isLetter N r_6) (fun r_7 => (if r_7 = 0 then (some (0 : Int32)) else zz_gd (zz_in r_6 26) ((if (t_numbers r_6.toNatClampNeg) = 0 then (some (0 : Int32)) else zz_let (v3_2 / (27 : Int64)) (fun v3_11 => zz_let (v5_3 + (1 : Int32)) (fun v5_12 => (f_X5_sumInNames_L5 N k_1 t_numbers n_1 v3_11 v5_12)))))))))) := rfl
def f_X5_sumInNames (N : Nat) (t_numbers : Nat → Int32) (p1 : Int64) : Option (Int32) := zz_let (zz_b1 (f_X5_sumOf N t_numbers p1) (fun r_13 => (some r_13))) (fun k_1 => f_X5_sumInNames_L5 N k_1 t_numbers N p1 (0 : Int32))
abbrev rm_X5_sumInNames : Room := { frames := 2, cells := 0, slots := 0, locals := 48 }
theorem mi_X5_sumInNames : zMI RX5 yX5_sumInNames cX5_sumInNames 7 (some .int) 1 := ⟨⟨tw_3_64, tw_3_65, tw_1_2, tw_3_66⟩, by decide +kernel, by decide +kernel, by decide +kernel⟩
set_option maxHeartbeats 4000000 in
set_option maxRecDepth 100000 in
theorem k_X5_sumInNames (l : Launch) (D : va_G) (c : Nat → ClassId) (N : Nat) (t0 : Nat) (tA_numbers : Nat) (tA_syllables : Nat) (tA_days : Nat) (tA_words : Nat) (tA_parents : Nat) (tA_otherParents : Nat) (tA_kinds : Nat) (tA_hopeDays : Nat) (tA_hopeTenths : Nat) (t_numbers : Nat → Int32) (t_syllables : Nat → Int64) (t_syllableCount : Int32) (t_days : Nat → Int32) (t_words : Nat → Int64) (t_parents : Nat → Int32) (t_otherParents : Nat → Int32) (t_kinds : Nat → Int32) (t_personCount : Int32) (t_hopeDays : Nat → Int32) (t_hopeTenths : Nat → Int32) (t_hopeCount : Int32) (t_degreesTold : Int32) (p1 : Int64) (o : Int32) (hf : f_X5_sumInNames N t_numbers p1 = some o) : zMPi l D c yX5_sumInNames cX5_sumInNames 7 (some .int) rm_X5_sumInNames (wX5 c t0 tA_numbers tA_syllables tA_days tA_words tA_parents tA_otherParents tA_kinds tA_hopeDays tA_hopeTenths t_numbers t_syllables t_syllableCount t_days t_words t_parents t_otherParents t_kinds t_personCount t_hopeDays t_hopeTenths t_hopeCount t_degreesTold) [.ref t0, .long p1] o := by
  refine zIP (by decide) (Nat.le_of_ble_eq_true rfl) ?_
  intro p e s m args below meth c0 Q hQ hx hb hr hlk hml hts hown hP hE ls hl
  have S : CallFix p m c0 cX5_sumInNames 7 s args zT RX5 := ⟨hx, hb, hml, hown, hts⟩
  have hl : lv_has ls 7 [(0, .ref t0), (1, .long p1)] := hl
  unfold f_X5_sumInNames at hf
  refine lv_lload_n hx hb dX5_sumInNames_0 rfl (lv_at hl 1 rfl) ?_
  refine lv_lstore_n (lv' := [(3, .long p1), (0, .ref t0), (1, .long p1)]) hx hb dX5_sumInNames_1 rfl hl (by decide) rfl (fun ls hl => ?_)
  refine lv_iconst (v := (0 : Int32)) hx hb dX5_sumInNames_2 (by decide) ?_
  refine lv_istore (lv' := [(5, .int (0 : Int32)), (3, .long p1), (0, .ref t0), (1, .long p1)]) hx hb dX5_sumInNames_3 hl (by decide) rfl (fun ls hl => ?_)
  obtain ⟨k_1, hk_1, hf⟩ := zz_let_use hf
  have hX_1 : ∀ (ls : Array Slot), k_1 = some o → lv_has ls 7 [(0, .ref t0), (1, .long p1)] → W p l e rm_X5_sumInNames s m args below meth c0 s.heap [] 0 0 Q (F0 m 56 ls []) := by
    intro ls hf hl
    subst hk_1
    refine lv_aload_n hx hb dX5_sumInNames_56 rfl (lv_at hl 0 rfl) ?_
    refine lv_lload_n hx hb dX5_sumInNames_57 rfl (lv_at hl 1 rfl) ?_
    obtain ⟨r_13, he_13, hf⟩ := zz_b1_use hf
    refine zcVi (As := [.long p1]) (rest := []) S (k_X5_sumOf l D c N t0 tA_numbers tA_syllables tA_days tA_words tA_parents tA_otherParents tA_kinds tA_hopeDays tA_hopeTenths t_numbers t_syllables t_syllableCount t_days t_words t_parents t_otherParents t_kinds t_personCount t_hopeDays t_hopeTenths t_hopeCount t_degreesTold p1 r_13 he_13) mi_X5_sumOf tw_3_67 ⟨(Nat.le_of_ble_eq_true rfl), (Nat.le_of_ble_eq_true rfl)⟩ ⟨rfl, rfl⟩ hP hE (ci := 5) rfl rfl (q0 := 0) rfl rfl hl.1 rfl (Nat.le_of_ble_eq_true rfl) dX5_sumInNames_58 ⟨(Nat.le_of_ble_eq_true rfl), (Nat.le_of_ble_eq_true rfl)⟩ ?_
    exact zRPi hQ hx hb hr hlk (Option.some.inj hf) dX5_sumInNames_61
  have hL_1 : ∀ (n_1 : Nat) (v3_2 : Int64) (v5_3 : Int32) (ls : Array Slot), f_X5_sumInNames_L5 N k_1 t_numbers n_1 v3_2 v5_3 = some o → lv_has ls 7 [(0, .ref t0), (1, .long p1), (3, .long v3_2), (5, .int v5_3)] → W p l e rm_X5_sumInNames s m args below meth c0 s.heap [] 0 0 Q (F0 m 5 ls []) := by
    intro n_1
    induction n_1 with
    | zero => intro v3_2 v5_3 ls hf hl; exact zz_none hf
    | succ n_1 ih_1 =>
      intro v3_2 v5_3 ls hf hl
      rw [f_X5_sumInNames_L5_s] at hf
      refine lv_iload hx hb dX5_sumInNames_5 (lv_at hl 3 rfl) ?_
      refine lv_bipush (v := (9 : Int32)) hx hb dX5_sumInNames_7 (by decide) ?_
      refine lv_icmp_ge (tgt := 56) hx hb dX5_sumInNames_9 (by decide) (fun hc_4 => ?_) (fun hc_4 => ?_)
      · have hf := zz_it hf hc_4
        exact hX_1 ls hf (lv_sub hl [0, 1] rfl)
      · have hf := zz_if hf hc_4
        refine lv_lload_n hx hb dX5_sumInNames_12 rfl (lv_at hl 2 rfl) ?_
        refine lv_lconst (v := (0 : Int64)) hx hb dX5_sumInNames_13 (by decide) ?_
        refine zlc_le (tgt := 56) hx hb dX5_sumInNames_14 dX5_sumInNames_15 (by decide) (fun hc_5 => ?_) (fun hc_5 => ?_)
        · have hf := zz_it hf hc_5
          exact hX_1 ls hf (lv_sub hl [0, 1] rfl)
        · have hf := zz_if hf hc_5
          refine lv_lload_n hx hb dX5_sumInNames_18 rfl (lv_at hl 2 rfl) ?_
          obtain ⟨r_6, he_6, hf⟩ := zz_b1_use hf
          refine zcNi (As := [.long v3_2]) (rest := []) S (k_X6_lastLetter l D c N  v3_2 r_6 he_6) mi_X6_lastLetter tn_X5_67 ⟨(Nat.le_of_ble_eq_true rfl), (Nat.le_of_ble_eq_true rfl)⟩ ⟨rfl, rfl⟩ (zpnil) hE rfl hl.1 rfl (Nat.le_of_ble_eq_true rfl) dX5_sumInNames_19 ⟨(Nat.le_of_ble_eq_true rfl), (Nat.le_of_ble_eq_true rfl)⟩ ?_
          refine lv_istore (lv' := [(6, .int r_6), (0, .ref t0), (1, .long p1), (3, .long v3_2), (5, .int v5_3)]) hx hb dX5_sumInNames_22 hl (by decide) rfl (fun ls hl => ?_)
          refine lv_iload hx hb dX5_sumInNames_24 (lv_at hl 0 rfl) ?_
          obtain ⟨r_7, he_7, hf⟩ := zz_b1_use hf
          refine zcNi (As := [.int r_6]) (rest := []) S (k_X6_isLetter l D c N  r_6 r_7 he_7) mi_X6_isLetter tn_X5_71 ⟨(Nat.le_of_ble_eq_true rfl), (Nat.le_of_ble_eq_true rfl)⟩ ⟨rfl, rfl⟩ (zpnil) hE rfl hl.1 rfl (Nat.le_of_ble_eq_true rfl) dX5_sumInNames_26 ⟨(Nat.le_of_ble_eq_true rfl), (Nat.le_of_ble_eq_true rfl)⟩ ?_
          refine lv_if_eq (tgt := 42) hx hb dX5_sumInNames_29 (by decide) (fun hc_8 => ?_) (fun hc_8 => ?_)
          · have hf := zz_it hf hc_8
            refine lv_iconst (v := (0 : Int32)) hx hb dX5_sumInNames_42 (by decide) ?_
            exact zRPi hQ hx hb hr hlk (Option.some.inj hf) dX5_sumInNames_43
          · have hf := zz_if hf hc_8
            refine lv_aload_n hx hb dX5_sumInNames_32 rfl (lv_at hl 1 rfl) ?_
            refine zget S uw_X5 hE hP 0 0 rfl rfl (by decide) tw_1_30 rfl rfl dX5_sumInNames_33 ?_
            refine lv_iload hx hb dX5_sumInNames_36 (lv_at hl 0 rfl) ?_
            obtain ⟨hin_9, hf⟩ := zz_gd_use hf
            refine zild hx hb hE hP 1 rfl (zz_in_ok hin_9) dX5_sumInNames_38 ?_
            refine lv_if_ne (tgt := 44) hx hb dX5_sumInNames_39 (by decide) (fun hc_10 => ?_) (fun hc_10 => ?_)
            · have hf := zz_if hf hc_10
              refine lv_lload_n hx hb dX5_sumInNames_44 rfl (lv_at hl 3 rfl) ?_
              refine lv_ldc2 (v := (27 : Int64)) hx hb hown (hts _ tw_3_54) dX5_sumInNames_45 ?_
              refine lv_ldiv hx hb dX5_sumInNames_48 (by decide) ?_
              obtain ⟨v3_11, ev3_11, hf⟩ := zz_let_use hf
              refine ztl ev3_11 ?_
              refine lv_lstore_n (lv' := [(3, .long v3_11), (6, .int r_6), (0, .ref t0), (1, .long p1), (5, .int v5_3)]) hx hb dX5_sumInNames_49 rfl hl (by decide) rfl (fun ls hl => ?_)
              obtain ⟨v5_12, ev5_12, hf⟩ := zz_let_use hf
              refine lv_iinc (v := v5_12) (lv' := [(5, .int v5_12), (3, .long v3_11), (6, .int r_6), (0, .ref t0), (1, .long p1)]) hx hb dX5_sumInNames_50 hl (k := 4) rfl (by rw [← ev5_12]; rfl) (by decide) rfl (fun ls hl => ?_)
              refine lv_goto (tgt := 5) hx hb dX5_sumInNames_53 (by decide) ?_
              exact ih_1 v3_11 v5_12 ls hf (lv_sub hl [3, 4, 1, 0] rfl)
            · have hf := zz_it hf hc_10
              refine lv_iconst (v := (0 : Int32)) hx hb dX5_sumInNames_42 (by decide) ?_
              exact zRPi hQ hx hb hr hlk (Option.some.inj hf) dX5_sumInNames_43
  exact hL_1 N p1 (0 : Int32) ls hf (lv_sub hl [2, 3, 1, 0] rfl)
