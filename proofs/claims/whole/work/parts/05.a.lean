def f_X6_isLetter (N : Nat) (p0 : Int32) : Option (Int32) := (if p0 < 0 then (some (0 : Int32)) else (if (26 : Int32) ≤ p0 then (some (0 : Int32)) else (some (1 : Int32))))
abbrev rm_X6_isLetter : Room := { frames := 0, cells := 0, slots := 0, locals := 0 }
theorem mi_X6_isLetter : zMS yX6_isLetter cX6_isLetter 1 (some .boolean) 1 := ⟨⟨tw_2_148, tw_1_1, tw_2_149⟩, by decide +kernel, by decide +kernel, by decide +kernel⟩
set_option maxHeartbeats 4000000 in
set_option maxRecDepth 100000 in
theorem k_X6_isLetter (l : Launch) (D : va_G) (c : Nat → ClassId) (N : Nat)  (p0 : Int32) (o : Int32) (hf : f_X6_isLetter N p0 = some o) : zMPi l D c yX6_isLetter cX6_isLetter 1 (some .boolean) rm_X6_isLetter ([] : va_W) [.int p0] o := by
  refine zIP (by decide) (Nat.le_of_ble_eq_true rfl) ?_
  intro p e s m args below meth c0 Q hQ hx hb hr hlk hml hts hown hP hE hX hS ls hl
  have S : CallFix p m c0 cX6_isLetter 1 s args zT RX6 := ⟨hx, hb, hml, hown, hts⟩
  have hl : lv_has ls 1 [(0, .int p0)] := hl
  unfold f_X6_isLetter at hf
  refine lv_iload_n hx hb dX6_isLetter_0 rfl (lv_at hl 0 rfl) ?_
  refine lv_if_lt (tgt := 14) hx hb dX6_isLetter_1 (by decide) (fun hc_1 => ?_) (fun hc_1 => ?_)
  · have hf := zz_it hf hc_1
    refine lv_iconst (v := (0 : Int32)) hx hb dX6_isLetter_14 (by decide) ?_
    exact zRPz hQ hx hb hr hlk rfl (Option.some.inj hf) dX6_isLetter_15
  · have hf := zz_if hf hc_1
    refine lv_iload_n hx hb dX6_isLetter_4 rfl (lv_at hl 0 rfl) ?_
    refine lv_bipush (v := (26 : Int32)) hx hb dX6_isLetter_5 (by decide) ?_
    refine lv_icmp_ge (tgt := 14) hx hb dX6_isLetter_7 (by decide) (fun hc_2 => ?_) (fun hc_2 => ?_)
    · have hf := zz_it hf hc_2
      refine lv_iconst (v := (0 : Int32)) hx hb dX6_isLetter_14 (by decide) ?_
      exact zRPz hQ hx hb hr hlk rfl (Option.some.inj hf) dX6_isLetter_15
    · have hf := zz_if hf hc_2
      refine lv_iconst (v := (1 : Int32)) hx hb dX6_isLetter_10 (by decide) ?_
      refine lv_goto (tgt := 15) hx hb dX6_isLetter_11 (by decide) ?_
      exact zRPz hQ hx hb hr hlk rfl (Option.some.inj hf) dX6_isLetter_15
def f_X6_lastLetter (N : Nat) (p0 : Int64) : Option (Int32) := (some (((p0 - p0 / (27 : Int64) * (27 : Int64)).toInt32) - (1 : Int32)))
abbrev rm_X6_lastLetter : Room := { frames := 0, cells := 0, slots := 0, locals := 0 }
theorem mi_X6_lastLetter : zMS yX6_lastLetter cX6_lastLetter 2 (some .int) 1 := ⟨⟨tw_2_144, tw_1_1, tw_2_145⟩, by decide +kernel, by decide +kernel, by decide +kernel⟩
set_option maxHeartbeats 4000000 in
set_option maxRecDepth 100000 in
theorem k_X6_lastLetter (l : Launch) (D : va_G) (c : Nat → ClassId) (N : Nat)  (p0 : Int64) (o : Int32) (hf : f_X6_lastLetter N p0 = some o) : zMPi l D c yX6_lastLetter cX6_lastLetter 2 (some .int) rm_X6_lastLetter ([] : va_W) [.long p0] o := by
  refine zIP (by decide) (Nat.le_of_ble_eq_true rfl) ?_
  intro p e s m args below meth c0 Q hQ hx hb hr hlk hml hts hown hP hE hX hS ls hl
  have S : CallFix p m c0 cX6_lastLetter 2 s args zT RX6 := ⟨hx, hb, hml, hown, hts⟩
  have hl : lv_has ls 2 [(0, .long p0)] := hl
  unfold f_X6_lastLetter at hf
  refine lv_lload_n hx hb dX6_lastLetter_0 rfl (lv_at hl 0 rfl) ?_
  refine lv_ldc2 (v := (27 : Int64)) hx hb hown (hts _ tw_2_146) dX6_lastLetter_1 ?_
  refine lv_lrem hx hb dX6_lastLetter_4 (by decide) ?_
  refine lv_l2i (v := (p0 - p0 / (27 : Int64) * (27 : Int64)).toInt32) hx hb dX6_lastLetter_5 rfl ?_
  refine lv_iconst (v := (1 : Int32)) hx hb dX6_lastLetter_6 (by decide) ?_
  refine lv_isub hx hb dX6_lastLetter_7 ?_
  exact zRPi hQ hx hb hr hlk (Option.some.inj hf) dX6_lastLetter_8
def f_X5_sumOf_L8 (N : Nat) (k_1 : (Int32) → Option (Int32)) (t_numbers : Nat → Int32) : Nat → (Int32) → (Int64) → (Int32) → Option (Int32)
  | 0, _, _, _ => none
  | n_1 + 1, v3_2, v4_3, v6_4 => (if (9 : Int32) ≤ v6_4 then (k_1 v3_2) else (if v4_3 ≤ (0 : Int64) then (k_1 v3_2) else zz_b1 (f_X6_lastLetter N v4_3) (fun r_7 => zz_b1 (f_X6_isLetter N r_7) (fun r_8 => zz_let (fun (v3_13 : Int32) => zz_let (v4_3 / (27 : Int64)) (fun v4_14 => zz_let (v6_4 + (1 : Int32)) (fun v6_15 => (f_X5_sumOf_L8 N k_1 t_numbers n_1 v3_13 v4_14 v6_15)))) (fun k_12 => (if r_8 = 0 then (k_12 v3_2) else zz_gd (zz_in r_7 26) (zz_let (v3_2 + (t_numbers r_7.toNatClampNeg)) (fun v3_11 => (k_12 v3_11)))))))))
theorem f_X5_sumOf_L8_s (N : Nat) (k_1 : (Int32) → Option (Int32)) (t_numbers : Nat → Int32) (n_1 : Nat) (v3_2 : Int32) (v4_3 : Int64) (v6_4 : Int32) : f_X5_sumOf_L8 N k_1 t_numbers (n_1 + 1) v3_2 v4_3 v6_4 = (if (9 : Int32) ≤ v6_4 then (k_1 v3_2) else (if v4_3 ≤ (0 : Int64) then (k_1 v3_2) else zz_b1 (f_X6_lastLetter N v4_3) (fun r_7 => zz_b1 (f_X6_isLetter N r_7) (fun r_8 => zz_let (fun (v3_13 : Int32) => zz_let (v4_3 / (27 : Int64)) (fun v4_14 => zz_let (v6_4 + (1 : Int32)) (fun v6_15 => (f_X5_sumOf_L8 N k_1 t_numbers n_1 v3_13 v4_14 v6_15)))) (fun k_12 => (if r_8 = 0 then (k_12 v3_2) else zz_gd (zz_in r_7 26) (zz_let (v3_2 + (t_numbers r_7.toNatClampNeg)) (fun v3_11 => (k_12 v3_11))))))))) := rfl
def f_X5_sumOf (N : Nat) (t_numbers : Nat → Int32) (p1 : Int64) : Option (Int32) := zz_let (fun (v3_16 : Int32) => (some v3_16)) (fun k_1 => f_X5_sumOf_L8 N k_1 t_numbers N (0 : Int32) p1 (0 : Int32))
abbrev rm_X5_sumOf : Room := { frames := 1, cells := 0, slots := 0, locals := 21 }
theorem mi_X5_sumOf : zMI RX5 yX5_sumOf cX5_sumOf 8 (some .int) 1 := ⟨⟨tw_3_49, tw_3_50, tw_1_2, tw_3_51⟩, by decide +kernel, by decide +kernel, by decide +kernel⟩
set_option maxHeartbeats 4000000 in
set_option maxRecDepth 100000 in
theorem k_X5_sumOf (l : Launch) (D : va_G) (c : Nat → ClassId) (N : Nat) (t0 : Nat) (tA_numbers : Nat) (tA_syllables : Nat) (tA_days : Nat) (tA_words : Nat) (tA_parents : Nat) (tA_otherParents : Nat) (tA_kinds : Nat) (tA_hopeDays : Nat) (tA_hopeTenths : Nat) (t_numbers : Nat → Int32) (t_syllables : Nat → Int64) (t_syllableCount : Int32) (t_days : Nat → Int32) (t_words : Nat → Int64) (t_parents : Nat → Int32) (t_otherParents : Nat → Int32) (t_kinds : Nat → Int32) (t_personCount : Int32) (t_hopeDays : Nat → Int32) (t_hopeTenths : Nat → Int32) (t_hopeCount : Int32) (t_degreesTold : Int32) (p1 : Int64) (o : Int32) (hf : f_X5_sumOf N t_numbers p1 = some o) : zMPi l D c yX5_sumOf cX5_sumOf 8 (some .int) rm_X5_sumOf (wX5 c t0 tA_numbers tA_syllables tA_days tA_words tA_parents tA_otherParents tA_kinds tA_hopeDays tA_hopeTenths t_numbers t_syllables t_syllableCount t_days t_words t_parents t_otherParents t_kinds t_personCount t_hopeDays t_hopeTenths t_hopeCount t_degreesTold) [.ref t0, .long p1] o := by
  refine zIP (by decide) (Nat.le_of_ble_eq_true rfl) ?_
  intro p e s m args below meth c0 Q hQ hx hb hr hlk hml hts hown hP hE hX hS ls hl
  have S : CallFix p m c0 cX5_sumOf 8 s args zT RX5 := ⟨hx, hb, hml, hown, hts⟩
  have hl : lv_has ls 8 [(0, .ref t0), (1, .long p1)] := hl
  unfold f_X5_sumOf at hf
  refine lv_iconst (v := (0 : Int32)) hx hb dX5_sumOf_0 (by decide) ?_
  refine lv_istore_n (lv' := [(3, .int (0 : Int32)), (0, .ref t0), (1, .long p1)]) hx hb dX5_sumOf_1 rfl hl (by decide) rfl (fun ls hl => ?_)
  refine lv_lload_n hx hb dX5_sumOf_2 rfl (lv_at hl 2 rfl) ?_
  refine lv_lstore (lv' := [(4, .long p1), (3, .int (0 : Int32)), (0, .ref t0), (1, .long p1)]) hx hb dX5_sumOf_3 hl (by decide) rfl (fun ls hl => ?_)
  refine lv_iconst (v := (0 : Int32)) hx hb dX5_sumOf_5 (by decide) ?_
  refine lv_istore (lv' := [(6, .int (0 : Int32)), (4, .long p1), (3, .int (0 : Int32)), (0, .ref t0), (1, .long p1)]) hx hb dX5_sumOf_6 hl (by decide) rfl (fun ls hl => ?_)
  obtain ⟨k_1, hk_1, hf⟩ := zz_let_use hf
  have hX_1 : ∀ (v3_16 : Int32) (ls : Array Slot), k_1 v3_16 = some o → lv_has ls 8 [(3, .int v3_16)] → W p l e rm_X5_sumOf s m args below meth c0 s.heap [] 0 0 Q (F0 m 61 ls []) := by
    intro v3_16 ls hf hl
    subst hk_1
    refine lv_iload_n hx hb dX5_sumOf_61 rfl (lv_at hl 0 rfl) ?_
    exact zRPi hQ hx hb hr hlk (Option.some.inj hf) dX5_sumOf_62
  have hL_1 : ∀ (n_1 : Nat) (v3_2 : Int32) (v4_3 : Int64) (v6_4 : Int32) (ls : Array Slot), f_X5_sumOf_L8 N k_1 t_numbers n_1 v3_2 v4_3 v6_4 = some o → lv_has ls 8 [(0, .ref t0), (3, .int v3_2), (4, .long v4_3), (6, .int v6_4)] → W p l e rm_X5_sumOf s m args below meth c0 s.heap [] 0 0 Q (F0 m 8 ls []) := by
    intro n_1
    induction n_1 with
    | zero => intro v3_2 v4_3 v6_4 ls hf hl; exact zz_none hf
    | succ n_1 ih_1 =>
      intro v3_2 v4_3 v6_4 ls hf hl
      rw [f_X5_sumOf_L8_s] at hf
      refine lv_iload hx hb dX5_sumOf_8 (lv_at hl 3 rfl) ?_
      refine lv_bipush (v := (9 : Int32)) hx hb dX5_sumOf_10 (by decide) ?_
      refine lv_icmp_ge (tgt := 61) hx hb dX5_sumOf_12 (by decide) (fun hc_5 => ?_) (fun hc_5 => ?_)
      · have hf := zz_it hf hc_5
        exact hX_1 v3_2 ls hf (lv_sub hl [1] rfl)
      · have hf := zz_if hf hc_5
        refine lv_lload hx hb dX5_sumOf_15 (lv_at hl 2 rfl) ?_
        refine lv_lconst (v := (0 : Int64)) hx hb dX5_sumOf_17 (by decide) ?_
        refine zlc_le (tgt := 61) hx hb dX5_sumOf_18 dX5_sumOf_19 (by decide) (fun hc_6 => ?_) (fun hc_6 => ?_)
        · have hf := zz_it hf hc_6
          exact hX_1 v3_2 ls hf (lv_sub hl [1] rfl)
        · have hf := zz_if hf hc_6
          refine lv_lload hx hb dX5_sumOf_22 (lv_at hl 2 rfl) ?_
          obtain ⟨r_7, he_7, hf⟩ := zz_b1_use hf
          refine zcNi (As := [.long v4_3]) (rest := []) S (k_X6_lastLetter l D c N  v4_3 r_7 he_7) mi_X6_lastLetter tn_X5_67 ⟨(Nat.le_of_ble_eq_true rfl), (Nat.le_of_ble_eq_true rfl)⟩ ⟨rfl, rfl⟩ (zpnil) hE hX hS rfl hl.1 rfl (Nat.le_of_ble_eq_true rfl) dX5_sumOf_24 ⟨(Nat.le_of_ble_eq_true rfl), (Nat.le_of_ble_eq_true rfl)⟩ ?_
          refine lv_istore (lv' := [(7, .int r_7), (0, .ref t0), (3, .int v3_2), (4, .long v4_3), (6, .int v6_4)]) hx hb dX5_sumOf_27 hl (by decide) rfl (fun ls hl => ?_)
          refine lv_iload hx hb dX5_sumOf_29 (lv_at hl 0 rfl) ?_
          obtain ⟨r_8, he_8, hf⟩ := zz_b1_use hf
          refine zcNi (As := [.int r_7]) (rest := []) S (k_X6_isLetter l D c N  r_7 r_8 he_8) mi_X6_isLetter tn_X5_71 ⟨(Nat.le_of_ble_eq_true rfl), (Nat.le_of_ble_eq_true rfl)⟩ ⟨rfl, rfl⟩ (zpnil) hE hX hS rfl hl.1 rfl (Nat.le_of_ble_eq_true rfl) dX5_sumOf_31 ⟨(Nat.le_of_ble_eq_true rfl), (Nat.le_of_ble_eq_true rfl)⟩ ?_
          obtain ⟨k_12, hk_12, hf⟩ := zz_let_use hf
          have hJ_12 : ∀ (v3_13 : Int32) (ls : Array Slot), k_12 v3_13 = some o → lv_has ls 8 [(0, .ref t0), (3, .int v3_13), (4, .long v4_3), (6, .int v6_4)] → W p l e rm_X5_sumOf s m args below meth c0 s.heap [] 0 0 Q (F0 m 47 ls []) := by
            intro v3_13 ls hf hl
            subst hk_12
            refine lv_lload hx hb dX5_sumOf_47 (lv_at hl 2 rfl) ?_
            refine lv_ldc2 (v := (27 : Int64)) hx hb hown (hts _ tw_3_54) dX5_sumOf_49 ?_
            refine lv_ldiv hx hb dX5_sumOf_52 (by decide) ?_
            obtain ⟨v4_14, ev4_14, hf⟩ := zz_let_use hf
            refine ztl ev4_14 ?_
            refine lv_lstore (lv' := [(4, .long v4_14), (0, .ref t0), (3, .int v3_13), (6, .int v6_4)]) hx hb dX5_sumOf_53 hl (by decide) rfl (fun ls hl => ?_)
            obtain ⟨v6_15, ev6_15, hf⟩ := zz_let_use hf
            refine lv_iinc (v := v6_15) (lv' := [(6, .int v6_15), (4, .long v4_14), (0, .ref t0), (3, .int v3_13)]) hx hb dX5_sumOf_55 hl (k := 3) rfl (by rw [← ev6_15]; rfl) (by decide) rfl (fun ls hl => ?_)
            refine lv_goto (tgt := 8) hx hb dX5_sumOf_58 (by decide) ?_
            exact ih_1 v3_13 v4_14 v6_15 ls hf (lv_sub hl [2, 3, 1, 0] rfl)
          refine lv_if_eq (tgt := 47) hx hb dX5_sumOf_34 (by decide) (fun hc_9 => ?_) (fun hc_9 => ?_)
          · have hf := zz_it hf hc_9
            exact hJ_12 v3_2 ls hf (lv_sub hl [1, 2, 3, 4] rfl)
          · have hf := zz_if hf hc_9
            refine lv_iload_n hx hb dX5_sumOf_37 rfl (lv_at hl 2 rfl) ?_
            refine lv_aload_n hx hb dX5_sumOf_38 rfl (lv_at hl 1 rfl) ?_
            refine zget S uw_X5 hE hP 0 0 rfl rfl (by decide) tw_1_30 rfl rfl dX5_sumOf_39 ?_
            refine lv_iload hx hb dX5_sumOf_42 (lv_at hl 0 rfl) ?_
            obtain ⟨hin_10, hf⟩ := zz_gd_use hf
            refine zild hx hb hE hP 1 rfl (zz_in_ok hin_10) dX5_sumOf_44 ?_
            refine lv_iadd hx hb dX5_sumOf_45 ?_
            obtain ⟨v3_11, ev3_11, hf⟩ := zz_let_use hf
            refine zti ev3_11 ?_
            refine lv_istore_n (lv' := [(3, .int v3_11), (7, .int r_7), (0, .ref t0), (4, .long v4_3), (6, .int v6_4)]) hx hb dX5_sumOf_46 rfl hl (by decide) rfl (fun ls hl => ?_)
            exact hJ_12 v3_11 ls hf (lv_sub hl [2, 0, 3, 4] rfl)
  exact hL_1 N (0 : Int32) p1 (0 : Int32) ls hf (lv_sub hl [3, 2, 1, 0] rfl)
def f_X5_sumInNames_L5 (N : Nat) (k_1 : Option (Int32)) (t_numbers : Nat → Int32) : Nat → (Int64) → (Int32) → Option (Int32)
  | 0, _, _ => none
  | n_1 + 1, v3_2, v5_3 => (if (9 : Int32) ≤ v5_3 then k_1 else (if v3_2 ≤ (0 : Int64) then k_1 else zz_b1 (f_X6_lastLetter N v3_2) (fun r_6 => zz_b1 (f_X6_isLetter N r_6) (fun r_7 => (if r_7 = 0 then (some (0 : Int32)) else zz_gd (zz_in r_6 26) ((if (t_numbers r_6.toNatClampNeg) = 0 then (some (0 : Int32)) else zz_let (v3_2 / (27 : Int64)) (fun v3_11 => zz_let (v5_3 + (1 : Int32)) (fun v5_12 => (f_X5_sumInNames_L5 N k_1 t_numbers n_1 v3_11 v5_12))))))))))
theorem f_X5_sumInNames_L5_s (N : Nat) (k_1 : Option (Int32)) (t_numbers : Nat → Int32) (n_1 : Nat) (v3_2 : Int64) (v5_3 : Int32) : f_X5_sumInNames_L5 N k_1 t_numbers (n_1 + 1) v3_2 v5_3 = (if (9 : Int32) ≤ v5_3 then k_1 else (if v3_2 ≤ (0 : Int64) then k_1 else zz_b1 (f_X6_lastLetter N v3_2) (fun r_6 => zz_b1 (f_X6_isLetter N r_6) (fun r_7 => (if r_7 = 0 then (some (0 : Int32)) else zz_gd (zz_in r_6 26) ((if (t_numbers r_6.toNatClampNeg) = 0 then (some (0 : Int32)) else zz_let (v3_2 / (27 : Int64)) (fun v3_11 => zz_let (v5_3 + (1 : Int32)) (fun v5_12 => (f_X5_sumInNames_L5 N k_1 t_numbers n_1 v3_11 v5_12)))))))))) := rfl
def f_X5_sumInNames (N : Nat) (t_numbers : Nat → Int32) (p1 : Int64) : Option (Int32) := zz_let (zz_b1 (f_X5_sumOf N t_numbers p1) (fun r_13 => (some r_13))) (fun k_1 => f_X5_sumInNames_L5 N k_1 t_numbers N p1 (0 : Int32))
abbrev rm_X5_sumInNames : Room := { frames := 2, cells := 0, slots := 0, locals := 48 }
theorem mi_X5_sumInNames : zMI RX5 yX5_sumInNames cX5_sumInNames 7 (some .int) 1 := ⟨⟨tw_3_64, tw_3_65, tw_1_2, tw_3_66⟩, by decide +kernel, by decide +kernel, by decide +kernel⟩
set_option maxHeartbeats 4000000 in
set_option maxRecDepth 100000 in
theorem k_X5_sumInNames (l : Launch) (D : va_G) (c : Nat → ClassId) (N : Nat) (t0 : Nat) (tA_numbers : Nat) (tA_syllables : Nat) (tA_days : Nat) (tA_words : Nat) (tA_parents : Nat) (tA_otherParents : Nat) (tA_kinds : Nat) (tA_hopeDays : Nat) (tA_hopeTenths : Nat) (t_numbers : Nat → Int32) (t_syllables : Nat → Int64) (t_syllableCount : Int32) (t_days : Nat → Int32) (t_words : Nat → Int64) (t_parents : Nat → Int32) (t_otherParents : Nat → Int32) (t_kinds : Nat → Int32) (t_personCount : Int32) (t_hopeDays : Nat → Int32) (t_hopeTenths : Nat → Int32) (t_hopeCount : Int32) (t_degreesTold : Int32) (p1 : Int64) (o : Int32) (hf : f_X5_sumInNames N t_numbers p1 = some o) : zMPi l D c yX5_sumInNames cX5_sumInNames 7 (some .int) rm_X5_sumInNames (wX5 c t0 tA_numbers tA_syllables tA_days tA_words tA_parents tA_otherParents tA_kinds tA_hopeDays tA_hopeTenths t_numbers t_syllables t_syllableCount t_days t_words t_parents t_otherParents t_kinds t_personCount t_hopeDays t_hopeTenths t_hopeCount t_degreesTold) [.ref t0, .long p1] o := by
  refine zIP (by decide) (Nat.le_of_ble_eq_true rfl) ?_
  intro p e s m args below meth c0 Q hQ hx hb hr hlk hml hts hown hP hE hX hS ls hl
  have S : CallFix p m c0 cX5_sumInNames 7 s args zT RX5 := ⟨hx, hb, hml, hown, hts⟩
  have hl : lv_has ls 7 [(0, .ref t0), (1, .long p1)] := hl
  unfold f_X5_sumInNames at hf
  refine lv_lload_n hx hb dX5_sumInNames_0 rfl (lv_at hl 1 rfl) ?_
  refine lv_lstore_n (lv' := [(3, .long p1), (0, .ref t0), (1, .long p1)]) hx hb dX5_sumInNames_1 rfl hl (by decide) rfl (fun ls hl => ?_)
  refine lv_iconst (v := (0 : Int32)) hx hb dX5_sumInNames_2 (by decide) ?_
  refine lv_istore (lv' := [(5, .int (0 : Int32)), (3, .long p1), (0, .ref t0), (1, .long p1)]) hx hb dX5_sumInNames_3 hl (by decide) rfl (fun ls hl => ?_)
  obtain ⟨k_1, hk_1, hf⟩ := zz_let_use hf
  have hX_1 : ∀ (ls : Array Slot), k_1 = some o → lv_has ls 7 [(0, .ref t0), (1, .long p1)] → W p l e rm_X5_sumInNames s m args below meth c0 s.heap [] 0 0 Q (F0 m 56 ls []) := by
    intro ls hf hl
    subst hk_1
    refine lv_aload_n hx hb dX5_sumInNames_56 rfl (lv_at hl 0 rfl) ?_
    refine lv_lload_n hx hb dX5_sumInNames_57 rfl (lv_at hl 1 rfl) ?_
    obtain ⟨r_13, he_13, hf⟩ := zz_b1_use hf
    refine zcVi (As := [.long p1]) (rest := []) S (k_X5_sumOf l D c N t0 tA_numbers tA_syllables tA_days tA_words tA_parents tA_otherParents tA_kinds tA_hopeDays tA_hopeTenths t_numbers t_syllables t_syllableCount t_days t_words t_parents t_otherParents t_kinds t_personCount t_hopeDays t_hopeTenths t_hopeCount t_degreesTold p1 r_13 he_13) mi_X5_sumOf tw_3_67 ⟨(Nat.le_of_ble_eq_true rfl), (Nat.le_of_ble_eq_true rfl)⟩ ⟨rfl, rfl⟩ hP hE hX hS (ci := 5) rfl rfl (q0 := 0) rfl rfl hl.1 rfl (Nat.le_of_ble_eq_true rfl) dX5_sumInNames_58 ⟨(Nat.le_of_ble_eq_true rfl), (Nat.le_of_ble_eq_true rfl)⟩ ?_
    exact zRPi hQ hx hb hr hlk (Option.some.inj hf) dX5_sumInNames_61
  have hL_1 : ∀ (n_1 : Nat) (v3_2 : Int64) (v5_3 : Int32) (ls : Array Slot), f_X5_sumInNames_L5 N k_1 t_numbers n_1 v3_2 v5_3 = some o → lv_has ls 7 [(0, .ref t0), (1, .long p1), (3, .long v3_2), (5, .int v5_3)] → W p l e rm_X5_sumInNames s m args below meth c0 s.heap [] 0 0 Q (F0 m 5 ls []) := by
    intro n_1
    induction n_1 with
    | zero => intro v3_2 v5_3 ls hf hl; exact zz_none hf
    | succ n_1 ih_1 =>
      intro v3_2 v5_3 ls hf hl
      rw [f_X5_sumInNames_L5_s] at hf
      refine lv_iload hx hb dX5_sumInNames_5 (lv_at hl 3 rfl) ?_
      refine lv_bipush (v := (9 : Int32)) hx hb dX5_sumInNames_7 (by decide) ?_
      refine lv_icmp_ge (tgt := 56) hx hb dX5_sumInNames_9 (by decide) (fun hc_4 => ?_) (fun hc_4 => ?_)
      · have hf := zz_it hf hc_4
        exact hX_1 ls hf (lv_sub hl [0, 1] rfl)
      · have hf := zz_if hf hc_4
        refine lv_lload_n hx hb dX5_sumInNames_12 rfl (lv_at hl 2 rfl) ?_
        refine lv_lconst (v := (0 : Int64)) hx hb dX5_sumInNames_13 (by decide) ?_
        refine zlc_le (tgt := 56) hx hb dX5_sumInNames_14 dX5_sumInNames_15 (by decide) (fun hc_5 => ?_) (fun hc_5 => ?_)
        · have hf := zz_it hf hc_5
          exact hX_1 ls hf (lv_sub hl [0, 1] rfl)
        · have hf := zz_if hf hc_5
          refine lv_lload_n hx hb dX5_sumInNames_18 rfl (lv_at hl 2 rfl) ?_
          obtain ⟨r_6, he_6, hf⟩ := zz_b1_use hf
          refine zcNi (As := [.long v3_2]) (rest := []) S (k_X6_lastLetter l D c N  v3_2 r_6 he_6) mi_X6_lastLetter tn_X5_67 ⟨(Nat.le_of_ble_eq_true rfl), (Nat.le_of_ble_eq_true rfl)⟩ ⟨rfl, rfl⟩ (zpnil) hE hX hS rfl hl.1 rfl (Nat.le_of_ble_eq_true rfl) dX5_sumInNames_19 ⟨(Nat.le_of_ble_eq_true rfl), (Nat.le_of_ble_eq_true rfl)⟩ ?_
          refine lv_istore (lv' := [(6, .int r_6), (0, .ref t0), (1, .long p1), (3, .long v3_2), (5, .int v5_3)]) hx hb dX5_sumInNames_22 hl (by decide) rfl (fun ls hl => ?_)
          refine lv_iload hx hb dX5_sumInNames_24 (lv_at hl 0 rfl) ?_
          obtain ⟨r_7, he_7, hf⟩ := zz_b1_use hf
          refine zcNi (As := [.int r_6]) (rest := []) S (k_X6_isLetter l D c N  r_6 r_7 he_7) mi_X6_isLetter tn_X5_71 ⟨(Nat.le_of_ble_eq_true rfl), (Nat.le_of_ble_eq_true rfl)⟩ ⟨rfl, rfl⟩ (zpnil) hE hX hS rfl hl.1 rfl (Nat.le_of_ble_eq_true rfl) dX5_sumInNames_26 ⟨(Nat.le_of_ble_eq_true rfl), (Nat.le_of_ble_eq_true rfl)⟩ ?_
          refine lv_if_eq (tgt := 42) hx hb dX5_sumInNames_29 (by decide) (fun hc_8 => ?_) (fun hc_8 => ?_)
          · have hf := zz_it hf hc_8
            refine lv_iconst (v := (0 : Int32)) hx hb dX5_sumInNames_42 (by decide) ?_
            exact zRPi hQ hx hb hr hlk (Option.some.inj hf) dX5_sumInNames_43
          · have hf := zz_if hf hc_8
            refine lv_aload_n hx hb dX5_sumInNames_32 rfl (lv_at hl 1 rfl) ?_
            refine zget S uw_X5 hE hP 0 0 rfl rfl (by decide) tw_1_30 rfl rfl dX5_sumInNames_33 ?_
            refine lv_iload hx hb dX5_sumInNames_36 (lv_at hl 0 rfl) ?_
            obtain ⟨hin_9, hf⟩ := zz_gd_use hf
            refine zild hx hb hE hP 1 rfl (zz_in_ok hin_9) dX5_sumInNames_38 ?_
            refine lv_if_ne (tgt := 44) hx hb dX5_sumInNames_39 (by decide) (fun hc_10 => ?_) (fun hc_10 => ?_)
            · have hf := zz_if hf hc_10
              refine lv_lload_n hx hb dX5_sumInNames_44 rfl (lv_at hl 3 rfl) ?_
              refine lv_ldc2 (v := (27 : Int64)) hx hb hown (hts _ tw_3_54) dX5_sumInNames_45 ?_
              refine lv_ldiv hx hb dX5_sumInNames_48 (by decide) ?_
              obtain ⟨v3_11, ev3_11, hf⟩ := zz_let_use hf
              refine ztl ev3_11 ?_
              refine lv_lstore_n (lv' := [(3, .long v3_11), (6, .int r_6), (0, .ref t0), (1, .long p1), (5, .int v5_3)]) hx hb dX5_sumInNames_49 rfl hl (by decide) rfl (fun ls hl => ?_)
              obtain ⟨v5_12, ev5_12, hf⟩ := zz_let_use hf
              refine lv_iinc (v := v5_12) (lv' := [(5, .int v5_12), (3, .long v3_11), (6, .int r_6), (0, .ref t0), (1, .long p1)]) hx hb dX5_sumInNames_50 hl (k := 4) rfl (by rw [← ev5_12]; rfl) (by decide) rfl (fun ls hl => ?_)
              refine lv_goto (tgt := 5) hx hb dX5_sumInNames_53 (by decide) ?_
              exact ih_1 v3_11 v5_12 ls hf (lv_sub hl [3, 4, 1, 0] rfl)
            · have hf := zz_it hf hc_10
              refine lv_iconst (v := (0 : Int32)) hx hb dX5_sumInNames_42 (by decide) ?_
              exact zRPi hQ hx hb hr hlk (Option.some.inj hf) dX5_sumInNames_43
  exact hL_1 N p1 (0 : Int32) ls hf (lv_sub hl [2, 3, 1, 0] rfl)
def f_X5_leastCalled_L3 (N : Nat) (k_1 : Option (Int32)) (t_words : Nat → Int64) (t_personCount : Int32) (p1 : Int64) (p3 : Int32) : Nat → (Int32) → Option (Int32)
  | 0, _ => none
  | n_1 + 1, v4_2 => (if t_personCount ≤ v4_2 then k_1 else zz_let (zz_let (v4_2 + (1 : Int32)) (fun v4_8 => (f_X5_leastCalled_L3 N k_1 t_words t_personCount p1 p3 n_1 v4_8))) (fun k_7 => (if ((p3 >>> (v4_2 &&& 31)) &&& (1 : Int32)) = 0 then k_7 else zz_gd (zz_in v4_2 16) ((if (t_words v4_2.toNatClampNeg) = p1 then (some v4_2) else k_7)))))
theorem f_X5_leastCalled_L3_s (N : Nat) (k_1 : Option (Int32)) (t_words : Nat → Int64) (t_personCount : Int32) (p1 : Int64) (p3 : Int32) (n_1 : Nat) (v4_2 : Int32) : f_X5_leastCalled_L3 N k_1 t_words t_personCount p1 p3 (n_1 + 1) v4_2 = (if t_personCount ≤ v4_2 then k_1 else zz_let (zz_let (v4_2 + (1 : Int32)) (fun v4_8 => (f_X5_leastCalled_L3 N k_1 t_words t_personCount p1 p3 n_1 v4_8))) (fun k_7 => (if ((p3 >>> (v4_2 &&& 31)) &&& (1 : Int32)) = 0 then k_7 else zz_gd (zz_in v4_2 16) ((if (t_words v4_2.toNatClampNeg) = p1 then (some v4_2) else k_7))))) := rfl
def f_X5_leastCalled (N : Nat) (t_words : Nat → Int64) (t_personCount : Int32) (p1 : Int64) (p3 : Int32) : Option (Int32) := zz_let ((some (-1 : Int32))) (fun k_1 => f_X5_leastCalled_L3 N k_1 t_words t_personCount p1 p3 N (0 : Int32))
abbrev rm_X5_leastCalled : Room := { frames := 0, cells := 0, slots := 0, locals := 0 }
theorem mi_X5_leastCalled : zMI RX5 yX5_leastCalled cX5_leastCalled 5 (some .int) 2 := ⟨⟨tw_3_87, tw_3_88, tw_1_2, tw_3_89⟩, by decide +kernel, by decide +kernel, by decide +kernel⟩
set_option maxHeartbeats 4000000 in
set_option maxRecDepth 100000 in
theorem k_X5_leastCalled (l : Launch) (D : va_G) (c : Nat → ClassId) (N : Nat) (t0 : Nat) (tA_numbers : Nat) (tA_syllables : Nat) (tA_days : Nat) (tA_words : Nat) (tA_parents : Nat) (tA_otherParents : Nat) (tA_kinds : Nat) (tA_hopeDays : Nat) (tA_hopeTenths : Nat) (t_numbers : Nat → Int32) (t_syllables : Nat → Int64) (t_syllableCount : Int32) (t_days : Nat → Int32) (t_words : Nat → Int64) (t_parents : Nat → Int32) (t_otherParents : Nat → Int32) (t_kinds : Nat → Int32) (t_personCount : Int32) (t_hopeDays : Nat → Int32) (t_hopeTenths : Nat → Int32) (t_hopeCount : Int32) (t_degreesTold : Int32) (p1 : Int64) (p3 : Int32) (o : Int32) (hf : f_X5_leastCalled N t_words t_personCount p1 p3 = some o) : zMPi l D c yX5_leastCalled cX5_leastCalled 5 (some .int) rm_X5_leastCalled (wX5 c t0 tA_numbers tA_syllables tA_days tA_words tA_parents tA_otherParents tA_kinds tA_hopeDays tA_hopeTenths t_numbers t_syllables t_syllableCount t_days t_words t_parents t_otherParents t_kinds t_personCount t_hopeDays t_hopeTenths t_hopeCount t_degreesTold) [.ref t0, .long p1, .int p3] o := by
  refine zIP (by decide) (Nat.le_of_ble_eq_true rfl) ?_
  intro p e s m args below meth c0 Q hQ hx hb hr hlk hml hts hown hP hE hX hS ls hl
  have S : CallFix p m c0 cX5_leastCalled 5 s args zT RX5 := ⟨hx, hb, hml, hown, hts⟩
  have hl : lv_has ls 5 [(0, .ref t0), (1, .long p1), (3, .int p3)] := hl
  unfold f_X5_leastCalled at hf
  refine lv_iconst (v := (0 : Int32)) hx hb dX5_leastCalled_0 (by decide) ?_
  refine lv_istore (lv' := [(4, .int (0 : Int32)), (0, .ref t0), (1, .long p1), (3, .int p3)]) hx hb dX5_leastCalled_1 hl (by decide) rfl (fun ls hl => ?_)
  obtain ⟨k_1, hk_1, hf⟩ := zz_let_use hf
  have hX_1 : ∀ (ls : Array Slot), k_1 = some o → lv_has ls 5 [] → W p l e rm_X5_leastCalled s m args below meth c0 s.heap [] 0 0 Q (F0 m 42 ls []) := by
    intro ls hf hl
    subst hk_1
    refine lv_iconst (v := (-1 : Int32)) hx hb dX5_leastCalled_42 (by decide) ?_
    exact zRPi hQ hx hb hr hlk (Option.some.inj hf) dX5_leastCalled_43
  have hL_1 : ∀ (n_1 : Nat) (v4_2 : Int32) (ls : Array Slot), f_X5_leastCalled_L3 N k_1 t_words t_personCount p1 p3 n_1 v4_2 = some o → lv_has ls 5 [(0, .ref t0), (1, .long p1), (3, .int p3), (4, .int v4_2)] → W p l e rm_X5_leastCalled s m args below meth c0 s.heap [] 0 0 Q (F0 m 3 ls []) := by
    intro n_1
    induction n_1 with
    | zero => intro v4_2 ls hf hl; exact zz_none hf
    | succ n_1 ih_1 =>
      intro v4_2 ls hf hl
      rw [f_X5_leastCalled_L3_s] at hf
      refine lv_iload hx hb dX5_leastCalled_3 (lv_at hl 3 rfl) ?_
      refine lv_aload_n hx hb dX5_leastCalled_5 rfl (lv_at hl 0 rfl) ?_
      refine zget S uw_X5 hE hP 0 8 rfl rfl (by decide) tw_1_53 rfl rfl dX5_leastCalled_6 ?_
      refine lv_icmp_ge (tgt := 42) hx hb dX5_leastCalled_9 (by decide) (fun hc_3 => ?_) (fun hc_3 => ?_)
      · have hf := zz_it hf hc_3
        exact hX_1 ls hf (lv_sub hl [] rfl)
      · have hf := zz_if hf hc_3
        refine lv_iload_n hx hb dX5_leastCalled_12 rfl (lv_at hl 2 rfl) ?_
        refine lv_iload hx hb dX5_leastCalled_13 (lv_at hl 3 rfl) ?_
        refine lv_ishr hx hb dX5_leastCalled_15 ?_
        refine lv_iconst (v := (1 : Int32)) hx hb dX5_leastCalled_16 (by decide) ?_
        refine lv_iand hx hb dX5_leastCalled_17 ?_
        obtain ⟨k_7, hk_7, hf⟩ := zz_let_use hf
        have hJ_7 : ∀ (ls : Array Slot), k_7 = some o → lv_has ls 5 [(0, .ref t0), (1, .long p1), (3, .int p3), (4, .int v4_2)] → W p l e rm_X5_leastCalled s m args below meth c0 s.heap [] 0 0 Q (F0 m 36 ls []) := by
          intro ls hf hl
          subst hk_7
          obtain ⟨v4_8, ev4_8, hf⟩ := zz_let_use hf
          refine lv_iinc (v := v4_8) (lv' := [(4, .int v4_8), (0, .ref t0), (1, .long p1), (3, .int p3)]) hx hb dX5_leastCalled_36 hl (k := 3) rfl (by rw [← ev4_8]; rfl) (by decide) rfl (fun ls hl => ?_)
          refine lv_goto (tgt := 3) hx hb dX5_leastCalled_39 (by decide) ?_
          exact ih_1 v4_8 ls hf (lv_sub hl [1, 2, 3, 0] rfl)
        refine lv_if_eq (tgt := 36) hx hb dX5_leastCalled_18 (by decide) (fun hc_4 => ?_) (fun hc_4 => ?_)
        · have hf := zz_it hf hc_4
          exact hJ_7 ls hf (lv_sub hl [0, 1, 2, 3] rfl)
        · have hf := zz_if hf hc_4
          refine lv_aload_n hx hb dX5_leastCalled_21 rfl (lv_at hl 0 rfl) ?_
          refine zget S uw_X5 hE hP 0 4 rfl rfl (by decide) tw_1_43 rfl rfl dX5_leastCalled_22 ?_
          refine lv_iload hx hb dX5_leastCalled_25 (lv_at hl 3 rfl) ?_
          obtain ⟨hin_5, hf⟩ := zz_gd_use hf
          refine zlld hx hb hE hP 4 rfl (zz_in_ok hin_5) dX5_leastCalled_27 ?_
          refine lv_lload_n hx hb dX5_leastCalled_28 rfl (lv_at hl 1 rfl) ?_
          refine zlc_ne (tgt := 36) hx hb dX5_leastCalled_29 dX5_leastCalled_30 (by decide) (fun hc_6 => ?_) (fun hc_6 => ?_)
          · have hf := zz_if hf hc_6
            exact hJ_7 ls hf (lv_sub hl [0, 1, 2, 3] rfl)
          · have hf := zz_it hf hc_6
            refine lv_iload hx hb dX5_leastCalled_33 (lv_at hl 3 rfl) ?_
            exact zRPi hQ hx hb hr hlk (Option.some.inj hf) dX5_leastCalled_35
  exact hL_1 N (0 : Int32) ls hf (lv_sub hl [1, 2, 3, 0] rfl)
def f_X6_isLeftOf_L9 (N : Nat) (k_1 : (Int64) → Option (Int32))  : Nat → (Int64) → (Int64) → (Int32) → Option (Int32)
  | 0, _, _, _ => none
  | n_1 + 1, v4_2, v6_3, v8_4 => (if (9 : Int32) ≤ v8_4 then (k_1 v4_2) else (if v6_3 ≤ (0 : Int64) then (k_1 v4_2) else zz_let (fun (v4_13 : Int64) => zz_let (v6_3 / (27 : Int64)) (fun v6_14 => zz_let (v8_4 + (1 : Int32)) (fun v8_15 => (f_X6_isLeftOf_L9 N k_1 n_1 v4_13 v6_14 v8_15)))) (fun k_12 => (if v4_2 ≤ (0 : Int64) then (k_12 v4_2) else zz_b1 (f_X6_lastLetter N v4_2) (fun r_8 => zz_b1 (f_X6_lastLetter N v6_3) (fun r_9 => (if r_8 = r_9 then zz_let (v4_2 / (27 : Int64)) (fun v4_11 => (k_12 v4_11)) else (k_12 v4_2))))))))
theorem f_X6_isLeftOf_L9_s (N : Nat) (k_1 : (Int64) → Option (Int32))  (n_1 : Nat) (v4_2 : Int64) (v6_3 : Int64) (v8_4 : Int32) : f_X6_isLeftOf_L9 N k_1 (n_1 + 1) v4_2 v6_3 v8_4 = (if (9 : Int32) ≤ v8_4 then (k_1 v4_2) else (if v6_3 ≤ (0 : Int64) then (k_1 v4_2) else zz_let (fun (v4_13 : Int64) => zz_let (v6_3 / (27 : Int64)) (fun v6_14 => zz_let (v8_4 + (1 : Int32)) (fun v8_15 => (f_X6_isLeftOf_L9 N k_1 n_1 v4_13 v6_14 v8_15)))) (fun k_12 => (if v4_2 ≤ (0 : Int64) then (k_12 v4_2) else zz_b1 (f_X6_lastLetter N v4_2) (fun r_8 => zz_b1 (f_X6_lastLetter N v6_3) (fun r_9 => (if r_8 = r_9 then zz_let (v4_2 / (27 : Int64)) (fun v4_11 => (k_12 v4_11)) else (k_12 v4_2)))))))) := rfl
def f_X6_isLeftOf (N : Nat) (p0 : Int64) (p2 : Int64) : Option (Int32) := zz_let (fun (v4_16 : Int64) => (if v4_16 = (0 : Int64) then (some (1 : Int32)) else (some (0 : Int32)))) (fun k_1 => f_X6_isLeftOf_L9 N k_1 N p0 p2 (0 : Int32))
abbrev rm_X6_isLeftOf : Room := { frames := 1, cells := 0, slots := 0, locals := 21 }
theorem mi_X6_isLeftOf : zMS yX6_isLeftOf cX6_isLeftOf 9 (some .boolean) 2 := ⟨⟨tw_4_74, tw_1_1, tw_4_75⟩, by decide +kernel, by decide +kernel, by decide +kernel⟩
set_option maxHeartbeats 4000000 in
set_option maxRecDepth 100000 in
theorem k_X6_isLeftOf (l : Launch) (D : va_G) (c : Nat → ClassId) (N : Nat)  (p0 : Int64) (p2 : Int64) (o : Int32) (hf : f_X6_isLeftOf N p0 p2 = some o) : zMPi l D c yX6_isLeftOf cX6_isLeftOf 9 (some .boolean) rm_X6_isLeftOf ([] : va_W) [.long p0, .long p2] o := by
  refine zIP (by decide) (Nat.le_of_ble_eq_true rfl) ?_
  intro p e s m args below meth c0 Q hQ hx hb hr hlk hml hts hown hP hE hX hS ls hl
  have S : CallFix p m c0 cX6_isLeftOf 9 s args zT RX6 := ⟨hx, hb, hml, hown, hts⟩
  have hl : lv_has ls 9 [(0, .long p0), (2, .long p2)] := hl
  unfold f_X6_isLeftOf at hf
  refine lv_lload_n hx hb dX6_isLeftOf_0 rfl (lv_at hl 0 rfl) ?_
  refine lv_lstore (lv' := [(4, .long p0), (0, .long p0), (2, .long p2)]) hx hb dX6_isLeftOf_1 hl (by decide) rfl (fun ls hl => ?_)
  refine lv_lload_n hx hb dX6_isLeftOf_3 rfl (lv_at hl 2 rfl) ?_
  refine lv_lstore (lv' := [(6, .long p2), (4, .long p0), (0, .long p0), (2, .long p2)]) hx hb dX6_isLeftOf_4 hl (by decide) rfl (fun ls hl => ?_)
  refine lv_iconst (v := (0 : Int32)) hx hb dX6_isLeftOf_6 (by decide) ?_
  refine lv_istore (lv' := [(8, .int (0 : Int32)), (6, .long p2), (4, .long p0), (0, .long p0), (2, .long p2)]) hx hb dX6_isLeftOf_7 hl (by decide) rfl (fun ls hl => ?_)
  obtain ⟨k_1, hk_1, hf⟩ := zz_let_use hf
  have hX_1 : ∀ (v4_16 : Int64) (ls : Array Slot), k_1 v4_16 = some o → lv_has ls 9 [(4, .long v4_16)] → W p l e rm_X6_isLeftOf s m args below meth c0 s.heap [] 0 0 Q (F0 m 65 ls []) := by
    intro v4_16 ls hf hl
    subst hk_1
    refine lv_lload hx hb dX6_isLeftOf_65 (lv_at hl 0 rfl) ?_
    refine lv_lconst (v := (0 : Int64)) hx hb dX6_isLeftOf_67 (by decide) ?_
    refine zlc_ne (tgt := 76) hx hb dX6_isLeftOf_68 dX6_isLeftOf_69 (by decide) (fun hc_17 => ?_) (fun hc_17 => ?_)
    · have hf := zz_if hf hc_17
      refine lv_iconst (v := (0 : Int32)) hx hb dX6_isLeftOf_76 (by decide) ?_
      exact zRPz hQ hx hb hr hlk rfl (Option.some.inj hf) dX6_isLeftOf_77
    · have hf := zz_it hf hc_17
      refine lv_iconst (v := (1 : Int32)) hx hb dX6_isLeftOf_72 (by decide) ?_
      refine lv_goto (tgt := 77) hx hb dX6_isLeftOf_73 (by decide) ?_
      exact zRPz hQ hx hb hr hlk rfl (Option.some.inj hf) dX6_isLeftOf_77
  have hL_1 : ∀ (n_1 : Nat) (v4_2 : Int64) (v6_3 : Int64) (v8_4 : Int32) (ls : Array Slot), f_X6_isLeftOf_L9 N k_1 n_1 v4_2 v6_3 v8_4 = some o → lv_has ls 9 [(4, .long v4_2), (6, .long v6_3), (8, .int v8_4)] → W p l e rm_X6_isLeftOf s m args below meth c0 s.heap [] 0 0 Q (F0 m 9 ls []) := by
    intro n_1
    induction n_1 with
    | zero => intro v4_2 v6_3 v8_4 ls hf hl; exact zz_none hf
    | succ n_1 ih_1 =>
      intro v4_2 v6_3 v8_4 ls hf hl
      rw [f_X6_isLeftOf_L9_s] at hf
      refine lv_iload hx hb dX6_isLeftOf_9 (lv_at hl 2 rfl) ?_
      refine lv_bipush (v := (9 : Int32)) hx hb dX6_isLeftOf_11 (by decide) ?_
      refine lv_icmp_ge (tgt := 65) hx hb dX6_isLeftOf_13 (by decide) (fun hc_5 => ?_) (fun hc_5 => ?_)
      · have hf := zz_it hf hc_5
        exact hX_1 v4_2 ls hf (lv_sub hl [0] rfl)
      · have hf := zz_if hf hc_5
        refine lv_lload hx hb dX6_isLeftOf_16 (lv_at hl 1 rfl) ?_
        refine lv_lconst (v := (0 : Int64)) hx hb dX6_isLeftOf_18 (by decide) ?_
        refine zlc_le (tgt := 65) hx hb dX6_isLeftOf_19 dX6_isLeftOf_20 (by decide) (fun hc_6 => ?_) (fun hc_6 => ?_)
        · have hf := zz_it hf hc_6
          exact hX_1 v4_2 ls hf (lv_sub hl [0] rfl)
        · have hf := zz_if hf hc_6
          refine lv_lload hx hb dX6_isLeftOf_23 (lv_at hl 0 rfl) ?_
          refine lv_lconst (v := (0 : Int64)) hx hb dX6_isLeftOf_25 (by decide) ?_
          obtain ⟨k_12, hk_12, hf⟩ := zz_let_use hf
          have hJ_12 : ∀ (v4_13 : Int64) (ls : Array Slot), k_12 v4_13 = some o → lv_has ls 9 [(4, .long v4_13), (6, .long v6_3), (8, .int v8_4)] → W p l e rm_X6_isLeftOf s m args below meth c0 s.heap [] 0 0 Q (F0 m 51 ls []) := by
            intro v4_13 ls hf hl
            subst hk_12
            refine lv_lload hx hb dX6_isLeftOf_51 (lv_at hl 1 rfl) ?_
            refine lv_ldc2 (v := (27 : Int64)) hx hb hown (hts _ tw_2_146) dX6_isLeftOf_53 ?_
            refine lv_ldiv hx hb dX6_isLeftOf_56 (by decide) ?_
            obtain ⟨v6_14, ev6_14, hf⟩ := zz_let_use hf
            refine ztl ev6_14 ?_
            refine lv_lstore (lv' := [(6, .long v6_14), (4, .long v4_13), (8, .int v8_4)]) hx hb dX6_isLeftOf_57 hl (by decide) rfl (fun ls hl => ?_)
            obtain ⟨v8_15, ev8_15, hf⟩ := zz_let_use hf
            refine lv_iinc (v := v8_15) (lv' := [(8, .int v8_15), (6, .long v6_14), (4, .long v4_13)]) hx hb dX6_isLeftOf_59 hl (k := 2) rfl (by rw [← ev8_15]; rfl) (by decide) rfl (fun ls hl => ?_)
            refine lv_goto (tgt := 9) hx hb dX6_isLeftOf_62 (by decide) ?_
            exact ih_1 v4_13 v6_14 v8_15 ls hf (lv_sub hl [2, 1, 0] rfl)
          refine zlc_le (tgt := 51) hx hb dX6_isLeftOf_26 dX6_isLeftOf_27 (by decide) (fun hc_7 => ?_) (fun hc_7 => ?_)
          · have hf := zz_it hf hc_7
            exact hJ_12 v4_2 ls hf (lv_sub hl [0, 1, 2] rfl)
          · have hf := zz_if hf hc_7
            refine lv_lload hx hb dX6_isLeftOf_30 (lv_at hl 0 rfl) ?_
            obtain ⟨r_8, he_8, hf⟩ := zz_b1_use hf
            refine zcSi (As := [.long v4_2]) (rest := []) S (k_X6_lastLetter l D c N  v4_2 r_8 he_8) mi_X6_lastLetter tw_4_10 ⟨(Nat.le_of_ble_eq_true rfl), (Nat.le_of_ble_eq_true rfl)⟩ ⟨rfl, rfl⟩ hP hE hX hS rfl hl.1 rfl (Nat.le_of_ble_eq_true rfl) dX6_isLeftOf_32 ⟨(Nat.le_of_ble_eq_true rfl), (Nat.le_of_ble_eq_true rfl)⟩ ?_
            refine lv_lload hx hb dX6_isLeftOf_35 (lv_at hl 1 rfl) ?_
            obtain ⟨r_9, he_9, hf⟩ := zz_b1_use hf
            refine zcSi (As := [.long v6_3]) (rest := [.int r_8]) S (k_X6_lastLetter l D c N  v6_3 r_9 he_9) mi_X6_lastLetter tw_4_10 ⟨(Nat.le_of_ble_eq_true rfl), (Nat.le_of_ble_eq_true rfl)⟩ ⟨rfl, rfl⟩ hP hE hX hS rfl hl.1 rfl (Nat.le_of_ble_eq_true rfl) dX6_isLeftOf_37 ⟨(Nat.le_of_ble_eq_true rfl), (Nat.le_of_ble_eq_true rfl)⟩ ?_
            refine lv_icmp_ne (tgt := 51) hx hb dX6_isLeftOf_40 (by decide) (fun hc_10 => ?_) (fun hc_10 => ?_)
            · have hf := zz_if hf hc_10
              exact hJ_12 v4_2 ls hf (lv_sub hl [0, 1, 2] rfl)
            · have hf := zz_it hf hc_10
              refine lv_lload hx hb dX6_isLeftOf_43 (lv_at hl 0 rfl) ?_
              refine lv_ldc2 (v := (27 : Int64)) hx hb hown (hts _ tw_2_146) dX6_isLeftOf_45 ?_
              refine lv_ldiv hx hb dX6_isLeftOf_48 (by decide) ?_
              obtain ⟨v4_11, ev4_11, hf⟩ := zz_let_use hf
              refine ztl ev4_11 ?_
              refine lv_lstore (lv' := [(4, .long v4_11), (6, .long v6_3), (8, .int v8_4)]) hx hb dX6_isLeftOf_49 hl (by decide) rfl (fun ls hl => ?_)
              exact hJ_12 v4_11 ls hf (lv_sub hl [0, 1, 2] rfl)
  exact hL_1 N p0 p2 (0 : Int32) ls hf (lv_sub hl [2, 1, 0] rfl)
def f_X6_timesIn_L8 (N : Nat) (k_1 : (Int32) → Option (Int32)) (p2 : Int32) : Nat → (Int32) → (Int64) → (Int32) → Option (Int32)
  | 0, _, _, _ => none
  | n_1 + 1, v3_2, v4_3, v6_4 => (if (9 : Int32) ≤ v6_4 then (k_1 v3_2) else (if v4_3 ≤ (0 : Int64) then (k_1 v3_2) else zz_b1 (f_X6_lastLetter N v4_3) (fun r_7 => zz_let (fun (v3_11 : Int32) => zz_let (v4_3 / (27 : Int64)) (fun v4_12 => zz_let (v6_4 + (1 : Int32)) (fun v6_13 => (f_X6_timesIn_L8 N k_1 p2 n_1 v3_11 v4_12 v6_13)))) (fun k_10 => (if r_7 = p2 then zz_let (v3_2 + (1 : Int32)) (fun v3_9 => (k_10 v3_9)) else (k_10 v3_2))))))
theorem f_X6_timesIn_L8_s (N : Nat) (k_1 : (Int32) → Option (Int32)) (p2 : Int32) (n_1 : Nat) (v3_2 : Int32) (v4_3 : Int64) (v6_4 : Int32) : f_X6_timesIn_L8 N k_1 p2 (n_1 + 1) v3_2 v4_3 v6_4 = (if (9 : Int32) ≤ v6_4 then (k_1 v3_2) else (if v4_3 ≤ (0 : Int64) then (k_1 v3_2) else zz_b1 (f_X6_lastLetter N v4_3) (fun r_7 => zz_let (fun (v3_11 : Int32) => zz_let (v4_3 / (27 : Int64)) (fun v4_12 => zz_let (v6_4 + (1 : Int32)) (fun v6_13 => (f_X6_timesIn_L8 N k_1 p2 n_1 v3_11 v4_12 v6_13)))) (fun k_10 => (if r_7 = p2 then zz_let (v3_2 + (1 : Int32)) (fun v3_9 => (k_10 v3_9)) else (k_10 v3_2)))))) := rfl
def f_X6_timesIn (N : Nat) (p0 : Int64) (p2 : Int32) : Option (Int32) := zz_let (fun (v3_14 : Int32) => (some v3_14)) (fun k_1 => f_X6_timesIn_L8 N k_1 p2 N (0 : Int32) p0 (0 : Int32))
abbrev rm_X6_timesIn : Room := { frames := 1, cells := 0, slots := 0, locals := 21 }
theorem mi_X6_timesIn : zMS yX6_timesIn cX6_timesIn 7 (some .int) 2 := ⟨⟨tw_4_8, tw_1_1, tw_4_9⟩, by decide +kernel, by decide +kernel, by decide +kernel⟩
set_option maxHeartbeats 4000000 in
set_option maxRecDepth 100000 in
theorem k_X6_timesIn (l : Launch) (D : va_G) (c : Nat → ClassId) (N : Nat)  (p0 : Int64) (p2 : Int32) (o : Int32) (hf : f_X6_timesIn N p0 p2 = some o) : zMPi l D c yX6_timesIn cX6_timesIn 7 (some .int) rm_X6_timesIn ([] : va_W) [.long p0, .int p2] o := by
  refine zIP (by decide) (Nat.le_of_ble_eq_true rfl) ?_
  intro p e s m args below meth c0 Q hQ hx hb hr hlk hml hts hown hP hE hX hS ls hl
  have S : CallFix p m c0 cX6_timesIn 7 s args zT RX6 := ⟨hx, hb, hml, hown, hts⟩
  have hl : lv_has ls 7 [(0, .long p0), (2, .int p2)] := hl
  unfold f_X6_timesIn at hf
  refine lv_iconst (v := (0 : Int32)) hx hb dX6_timesIn_0 (by decide) ?_
  refine lv_istore_n (lv' := [(3, .int (0 : Int32)), (0, .long p0), (2, .int p2)]) hx hb dX6_timesIn_1 rfl hl (by decide) rfl (fun ls hl => ?_)
  refine lv_lload_n hx hb dX6_timesIn_2 rfl (lv_at hl 1 rfl) ?_
  refine lv_lstore (lv' := [(4, .long p0), (3, .int (0 : Int32)), (0, .long p0), (2, .int p2)]) hx hb dX6_timesIn_3 hl (by decide) rfl (fun ls hl => ?_)
  refine lv_iconst (v := (0 : Int32)) hx hb dX6_timesIn_5 (by decide) ?_
  refine lv_istore (lv' := [(6, .int (0 : Int32)), (4, .long p0), (3, .int (0 : Int32)), (0, .long p0), (2, .int p2)]) hx hb dX6_timesIn_6 hl (by decide) rfl (fun ls hl => ?_)
  obtain ⟨k_1, hk_1, hf⟩ := zz_let_use hf
  have hX_1 : ∀ (v3_14 : Int32) (ls : Array Slot), k_1 v3_14 = some o → lv_has ls 7 [(3, .int v3_14)] → W p l e rm_X6_timesIn s m args below meth c0 s.heap [] 0 0 Q (F0 m 48 ls []) := by
    intro v3_14 ls hf hl
    subst hk_1
    refine lv_iload_n hx hb dX6_timesIn_48 rfl (lv_at hl 0 rfl) ?_
    exact zRPi hQ hx hb hr hlk (Option.some.inj hf) dX6_timesIn_49
  have hL_1 : ∀ (n_1 : Nat) (v3_2 : Int32) (v4_3 : Int64) (v6_4 : Int32) (ls : Array Slot), f_X6_timesIn_L8 N k_1 p2 n_1 v3_2 v4_3 v6_4 = some o → lv_has ls 7 [(2, .int p2), (3, .int v3_2), (4, .long v4_3), (6, .int v6_4)] → W p l e rm_X6_timesIn s m args below meth c0 s.heap [] 0 0 Q (F0 m 8 ls []) := by
    intro n_1
    induction n_1 with
    | zero => intro v3_2 v4_3 v6_4 ls hf hl; exact zz_none hf
    | succ n_1 ih_1 =>
      intro v3_2 v4_3 v6_4 ls hf hl
      rw [f_X6_timesIn_L8_s] at hf
      refine lv_iload hx hb dX6_timesIn_8 (lv_at hl 3 rfl) ?_
      refine lv_bipush (v := (9 : Int32)) hx hb dX6_timesIn_10 (by decide) ?_
      refine lv_icmp_ge (tgt := 48) hx hb dX6_timesIn_12 (by decide) (fun hc_5 => ?_) (fun hc_5 => ?_)
      · have hf := zz_it hf hc_5
        exact hX_1 v3_2 ls hf (lv_sub hl [1] rfl)
      · have hf := zz_if hf hc_5
        refine lv_lload hx hb dX6_timesIn_15 (lv_at hl 2 rfl) ?_
        refine lv_lconst (v := (0 : Int64)) hx hb dX6_timesIn_17 (by decide) ?_
        refine zlc_le (tgt := 48) hx hb dX6_timesIn_18 dX6_timesIn_19 (by decide) (fun hc_6 => ?_) (fun hc_6 => ?_)
        · have hf := zz_it hf hc_6
          exact hX_1 v3_2 ls hf (lv_sub hl [1] rfl)
        · have hf := zz_if hf hc_6
          refine lv_lload hx hb dX6_timesIn_22 (lv_at hl 2 rfl) ?_
          obtain ⟨r_7, he_7, hf⟩ := zz_b1_use hf
          refine zcSi (As := [.long v4_3]) (rest := []) S (k_X6_lastLetter l D c N  v4_3 r_7 he_7) mi_X6_lastLetter tw_4_10 ⟨(Nat.le_of_ble_eq_true rfl), (Nat.le_of_ble_eq_true rfl)⟩ ⟨rfl, rfl⟩ hP hE hX hS rfl hl.1 rfl (Nat.le_of_ble_eq_true rfl) dX6_timesIn_24 ⟨(Nat.le_of_ble_eq_true rfl), (Nat.le_of_ble_eq_true rfl)⟩ ?_
          refine lv_iload_n hx hb dX6_timesIn_27 rfl (lv_at hl 0 rfl) ?_
          obtain ⟨k_10, hk_10, hf⟩ := zz_let_use hf
          have hJ_10 : ∀ (v3_11 : Int32) (ls : Array Slot), k_10 v3_11 = some o → lv_has ls 7 [(2, .int p2), (3, .int v3_11), (4, .long v4_3), (6, .int v6_4)] → W p l e rm_X6_timesIn s m args below meth c0 s.heap [] 0 0 Q (F0 m 34 ls []) := by
            intro v3_11 ls hf hl
            subst hk_10
            refine lv_lload hx hb dX6_timesIn_34 (lv_at hl 2 rfl) ?_
            refine lv_ldc2 (v := (27 : Int64)) hx hb hown (hts _ tw_2_146) dX6_timesIn_36 ?_
            refine lv_ldiv hx hb dX6_timesIn_39 (by decide) ?_
            obtain ⟨v4_12, ev4_12, hf⟩ := zz_let_use hf
            refine ztl ev4_12 ?_
            refine lv_lstore (lv' := [(4, .long v4_12), (2, .int p2), (3, .int v3_11), (6, .int v6_4)]) hx hb dX6_timesIn_40 hl (by decide) rfl (fun ls hl => ?_)
            obtain ⟨v6_13, ev6_13, hf⟩ := zz_let_use hf
            refine lv_iinc (v := v6_13) (lv' := [(6, .int v6_13), (4, .long v4_12), (2, .int p2), (3, .int v3_11)]) hx hb dX6_timesIn_42 hl (k := 3) rfl (by rw [← ev6_13]; rfl) (by decide) rfl (fun ls hl => ?_)
            refine lv_goto (tgt := 8) hx hb dX6_timesIn_45 (by decide) ?_
            exact ih_1 v3_11 v4_12 v6_13 ls hf (lv_sub hl [2, 3, 1, 0] rfl)
          refine lv_icmp_ne (tgt := 34) hx hb dX6_timesIn_28 (by decide) (fun hc_8 => ?_) (fun hc_8 => ?_)
          · have hf := zz_if hf hc_8
            exact hJ_10 v3_2 ls hf (lv_sub hl [0, 1, 2, 3] rfl)
          · have hf := zz_it hf hc_8
            obtain ⟨v3_9, ev3_9, hf⟩ := zz_let_use hf
            refine lv_iinc (v := v3_9) (lv' := [(3, .int v3_9), (2, .int p2), (4, .long v4_3), (6, .int v6_4)]) hx hb dX6_timesIn_31 hl (k := 1) rfl (by rw [← ev3_9]; rfl) (by decide) rfl (fun ls hl => ?_)
            exact hJ_10 v3_9 ls hf (lv_sub hl [1, 0, 2, 3] rfl)
  exact hL_1 N (0 : Int32) p0 (0 : Int32) ls hf (lv_sub hl [4, 2, 1, 0] rfl)
def f_J9_floorDiv_7cf53 (N : Nat) (p0 : Int32) (p1 : Int32) : Option (Int32) := zz_gd (zz_nz p1) (zz_let (p0 / p1) (fun v2_2 => zz_let ((some v2_2)) (fun k_5 => (if 0 ≤ (p0 ^^^ p1) then k_5 else (if (v2_2 * p1) = p0 then k_5 else (some (v2_2 - (1 : Int32))))))))
abbrev rm_J9_floorDiv_7cf53 : Room := { frames := 0, cells := 0, slots := 0, locals := 0 }
theorem mi_J9_floorDiv_7cf53 : zMS yJ9_floorDiv_7cf53 cJ9_floorDiv_7cf53 3 (some .int) 2 := ⟨⟨tw_4_29, tw_1_15, tw_4_30⟩, by decide +kernel, by decide +kernel, by decide +kernel⟩
set_option maxHeartbeats 4000000 in
set_option maxRecDepth 100000 in
theorem k_J9_floorDiv_7cf53 (l : Launch) (D : va_G) (c : Nat → ClassId) (N : Nat)  (p0 : Int32) (p1 : Int32) (o : Int32) (hf : f_J9_floorDiv_7cf53 N p0 p1 = some o) : zMPi l D c yJ9_floorDiv_7cf53 cJ9_floorDiv_7cf53 3 (some .int) rm_J9_floorDiv_7cf53 ([] : va_W) [.int p0, .int p1] o := by
  refine zIPF (by decide +kernel) (Nat.le_of_ble_eq_true rfl) ?_
  intro p e s m args below meth c0 Q hQ hx hb hr hlk hml hts hown hP hE hX hS ls hl
  have S : CallFix p m c0 cJ9_floorDiv_7cf53 3 s args zT RJ9 := ⟨hx, hb, hml, hown, hts⟩
  have hl : lv_has ls 3 [(0, .int p0), (1, .int p1)] := hl
  unfold f_J9_floorDiv_7cf53 at hf
  refine lv_iload_n hx hb dJ9_floorDiv_7cf53_0 rfl (lv_at hl 0 rfl) ?_
  refine lv_iload_n hx hb dJ9_floorDiv_7cf53_1 rfl (lv_at hl 1 rfl) ?_
  obtain ⟨hnz_1, hf⟩ := zz_gd_use hf
  refine lv_idiv hx hb dJ9_floorDiv_7cf53_2 (zz_nz_ok hnz_1) ?_
  obtain ⟨v2_2, ev2_2, hf⟩ := zz_let_use hf
  refine zti ev2_2 ?_
  refine lv_istore_n (lv' := [(2, .int v2_2), (0, .int p0), (1, .int p1)]) hx hb dJ9_floorDiv_7cf53_3 rfl hl (by decide) rfl (fun ls hl => ?_)
  refine lv_iload_n hx hb dJ9_floorDiv_7cf53_4 rfl (lv_at hl 1 rfl) ?_
  refine lv_iload_n hx hb dJ9_floorDiv_7cf53_5 rfl (lv_at hl 2 rfl) ?_
  refine lv_ixor hx hb dJ9_floorDiv_7cf53_6 ?_
  obtain ⟨k_5, hk_5, hf⟩ := zz_let_use hf
  have hJ_5 : ∀ (ls : Array Slot), k_5 = some o → lv_has ls 3 [(2, .int v2_2)] → W p l e rm_J9_floorDiv_7cf53 s m args below meth c0 s.heap [] 0 0 Q (F0 m 21 ls []) := by
    intro ls hf hl
    subst hk_5
    refine lv_iload_n hx hb dJ9_floorDiv_7cf53_21 rfl (lv_at hl 0 rfl) ?_
    exact zRPi hQ hx hb hr hlk (Option.some.inj hf) dJ9_floorDiv_7cf53_22
  refine lv_if_ge (tgt := 21) hx hb dJ9_floorDiv_7cf53_7 (by decide) (fun hc_3 => ?_) (fun hc_3 => ?_)
  · have hf := zz_it hf hc_3
    exact hJ_5 ls hf (lv_sub hl [0] rfl)
  · have hf := zz_if hf hc_3
    refine lv_iload_n hx hb dJ9_floorDiv_7cf53_10 rfl (lv_at hl 0 rfl) ?_
    refine lv_iload_n hx hb dJ9_floorDiv_7cf53_11 rfl (lv_at hl 2 rfl) ?_
    refine lv_imul hx hb dJ9_floorDiv_7cf53_12 ?_
    refine lv_iload_n hx hb dJ9_floorDiv_7cf53_13 rfl (lv_at hl 1 rfl) ?_
    refine lv_icmp_eq (tgt := 21) hx hb dJ9_floorDiv_7cf53_14 (by decide) (fun hc_4 => ?_) (fun hc_4 => ?_)
    · have hf := zz_it hf hc_4
      exact hJ_5 ls hf (lv_sub hl [0] rfl)
    · have hf := zz_if hf hc_4
      refine lv_iload_n hx hb dJ9_floorDiv_7cf53_17 rfl (lv_at hl 0 rfl) ?_
      refine lv_iconst (v := (1 : Int32)) hx hb dJ9_floorDiv_7cf53_18 (by decide) ?_
      refine lv_isub hx hb dJ9_floorDiv_7cf53_19 ?_
      exact zRPi hQ hx hb hr hlk (Option.some.inj hf) dJ9_floorDiv_7cf53_20
def f_X5_kindOf_L10 (N : Nat) (k_2 : Option (Int32)) (t_days : Nat → Int32) (t_parents : Nat → Int32) (t_otherParents : Nat → Int32) (t_personCount : Int32) (p1 : Int32) (p2 : Int32) (p3 : Int32) : Nat → (Int32) → Option (Int32)
  | 0, _ => none
  | n_2 + 1, v4_3 => (if t_personCount ≤ v4_3 then k_2 else zz_gd (zz_in v4_3 16) (zz_let (fun (q_9 : Int32) => zz_let (fun (q_13 : Int32) => zz_let (zz_let (v4_3 + (1 : Int32)) (fun v4_18 => (f_X5_kindOf_L10 N k_2 t_days t_parents t_otherParents t_personCount p1 p2 p3 n_2 v4_18))) (fun k_17 => (if (t_days v4_3.toNatClampNeg) = p3 then (if q_9 = 0 then (if q_13 = 0 then k_17 else (some (2 : Int32))) else (some (2 : Int32))) else k_17))) (fun k_12 => (if (t_parents v4_3.toNatClampNeg) = p2 then (if (t_otherParents v4_3.toNatClampNeg) = p1 then (k_12 (1 : Int32)) else (k_12 (0 : Int32))) else (k_12 (0 : Int32))))) (fun k_8 => (if (t_parents v4_3.toNatClampNeg) = p1 then (if (t_otherParents v4_3.toNatClampNeg) = p2 then (k_8 (1 : Int32)) else (k_8 (0 : Int32))) else (k_8 (0 : Int32))))))
theorem f_X5_kindOf_L10_s (N : Nat) (k_2 : Option (Int32)) (t_days : Nat → Int32) (t_parents : Nat → Int32) (t_otherParents : Nat → Int32) (t_personCount : Int32) (p1 : Int32) (p2 : Int32) (p3 : Int32) (n_2 : Nat) (v4_3 : Int32) : f_X5_kindOf_L10 N k_2 t_days t_parents t_otherParents t_personCount p1 p2 p3 (n_2 + 1) v4_3 = (if t_personCount ≤ v4_3 then k_2 else zz_gd (zz_in v4_3 16) (zz_let (fun (q_9 : Int32) => zz_let (fun (q_13 : Int32) => zz_let (zz_let (v4_3 + (1 : Int32)) (fun v4_18 => (f_X5_kindOf_L10 N k_2 t_days t_parents t_otherParents t_personCount p1 p2 p3 n_2 v4_18))) (fun k_17 => (if (t_days v4_3.toNatClampNeg) = p3 then (if q_9 = 0 then (if q_13 = 0 then k_17 else (some (2 : Int32))) else (some (2 : Int32))) else k_17))) (fun k_12 => (if (t_parents v4_3.toNatClampNeg) = p2 then (if (t_otherParents v4_3.toNatClampNeg) = p1 then (k_12 (1 : Int32)) else (k_12 (0 : Int32))) else (k_12 (0 : Int32))))) (fun k_8 => (if (t_parents v4_3.toNatClampNeg) = p1 then (if (t_otherParents v4_3.toNatClampNeg) = p2 then (k_8 (1 : Int32)) else (k_8 (0 : Int32))) else (k_8 (0 : Int32)))))) := rfl
def f_X5_kindOf (N : Nat) (t_days : Nat → Int32) (t_parents : Nat → Int32) (t_otherParents : Nat → Int32) (t_personCount : Int32) (p1 : Int32) (p2 : Int32) (p3 : Int32) : Option (Int32) := (if p1 = (-1 : Int32) then (some (0 : Int32)) else zz_let ((some (1 : Int32))) (fun k_2 => f_X5_kindOf_L10 N k_2 t_days t_parents t_otherParents t_personCount p1 p2 p3 N (0 : Int32)))
abbrev rm_X5_kindOf : Room := { frames := 0, cells := 0, slots := 0, locals := 0 }
theorem mi_X5_kindOf : zMI RX5 yX5_kindOf cX5_kindOf 7 (some .int) 3 := ⟨⟨tw_2_183, ts_X5_kindOf, tw_1_2, tw_2_184⟩, by decide +kernel, by decide +kernel, by decide +kernel⟩
set_option maxHeartbeats 4000000 in
set_option maxRecDepth 100000 in
theorem k_X5_kindOf (l : Launch) (D : va_G) (c : Nat → ClassId) (N : Nat) (t0 : Nat) (tA_numbers : Nat) (tA_syllables : Nat) (tA_days : Nat) (tA_words : Nat) (tA_parents : Nat) (tA_otherParents : Nat) (tA_kinds : Nat) (tA_hopeDays : Nat) (tA_hopeTenths : Nat) (t_numbers : Nat → Int32) (t_syllables : Nat → Int64) (t_syllableCount : Int32) (t_days : Nat → Int32) (t_words : Nat → Int64) (t_parents : Nat → Int32) (t_otherParents : Nat → Int32) (t_kinds : Nat → Int32) (t_personCount : Int32) (t_hopeDays : Nat → Int32) (t_hopeTenths : Nat → Int32) (t_hopeCount : Int32) (t_degreesTold : Int32) (p1 : Int32) (p2 : Int32) (p3 : Int32) (o : Int32) (hf : f_X5_kindOf N t_days t_parents t_otherParents t_personCount p1 p2 p3 = some o) : zMPi l D c yX5_kindOf cX5_kindOf 7 (some .int) rm_X5_kindOf (wX5 c t0 tA_numbers tA_syllables tA_days tA_words tA_parents tA_otherParents tA_kinds tA_hopeDays tA_hopeTenths t_numbers t_syllables t_syllableCount t_days t_words t_parents t_otherParents t_kinds t_personCount t_hopeDays t_hopeTenths t_hopeCount t_degreesTold) [.ref t0, .int p1, .int p2, .int p3] o := by
  refine zIP (by decide) (Nat.le_of_ble_eq_true rfl) ?_
  intro p e s m args below meth c0 Q hQ hx hb hr hlk hml hts hown hP hE hX hS ls hl
  have S : CallFix p m c0 cX5_kindOf 7 s args zT RX5 := ⟨hx, hb, hml, hown, hts⟩
  have hl : lv_has ls 7 [(0, .ref t0), (1, .int p1), (2, .int p2), (3, .int p3)] := hl
  unfold f_X5_kindOf at hf
  refine lv_iload_n hx hb dX5_kindOf_0 rfl (lv_at hl 1 rfl) ?_
  refine lv_iconst (v := (-1 : Int32)) hx hb dX5_kindOf_1 (by decide) ?_
  refine lv_icmp_ne (tgt := 7) hx hb dX5_kindOf_2 (by decide) (fun hc_1 => ?_) (fun hc_1 => ?_)
  · have hf := zz_if hf hc_1
    refine lv_iconst (v := (0 : Int32)) hx hb dX5_kindOf_7 (by decide) ?_
    refine lv_istore (lv' := [(4, .int (0 : Int32)), (0, .ref t0), (1, .int p1), (2, .int p2), (3, .int p3)]) hx hb dX5_kindOf_8 hl (by decide) rfl (fun ls hl => ?_)
    obtain ⟨k_2, hk_2, hf⟩ := zz_let_use hf
    have hX_2 : ∀ (ls : Array Slot), k_2 = some o → lv_has ls 7 [] → W p l e rm_X5_kindOf s m args below meth c0 s.heap [] 0 0 Q (F0 m 106 ls []) := by
      intro ls hf hl
      subst hk_2
      refine lv_iconst (v := (1 : Int32)) hx hb dX5_kindOf_106 (by decide) ?_
      exact zRPi hQ hx hb hr hlk (Option.some.inj hf) dX5_kindOf_107
    have hL_2 : ∀ (n_2 : Nat) (v4_3 : Int32) (ls : Array Slot), f_X5_kindOf_L10 N k_2 t_days t_parents t_otherParents t_personCount p1 p2 p3 n_2 v4_3 = some o → lv_has ls 7 [(0, .ref t0), (1, .int p1), (2, .int p2), (3, .int p3), (4, .int v4_3)] → W p l e rm_X5_kindOf s m args below meth c0 s.heap [] 0 0 Q (F0 m 10 ls []) := by
      intro n_2
      induction n_2 with
      | zero => intro v4_3 ls hf hl; exact zz_none hf
      | succ n_2 ih_2 =>
        intro v4_3 ls hf hl
        rw [f_X5_kindOf_L10_s] at hf
        refine lv_iload hx hb dX5_kindOf_10 (lv_at hl 4 rfl) ?_
        refine lv_aload_n hx hb dX5_kindOf_12 rfl (lv_at hl 0 rfl) ?_
        refine zget S uw_X5 hE hP 0 8 rfl rfl (by decide) tw_1_53 rfl rfl dX5_kindOf_13 ?_
        refine lv_icmp_ge (tgt := 106) hx hb dX5_kindOf_16 (by decide) (fun hc_4 => ?_) (fun hc_4 => ?_)
        · have hf := zz_it hf hc_4
          exact hX_2 ls hf (lv_sub hl [] rfl)
        · have hf := zz_if hf hc_4
          refine lv_aload_n hx hb dX5_kindOf_19 rfl (lv_at hl 0 rfl) ?_
          refine zget S uw_X5 hE hP 0 5 rfl rfl (by decide) tw_1_47 rfl rfl dX5_kindOf_20 ?_
          refine lv_iload hx hb dX5_kindOf_23 (lv_at hl 4 rfl) ?_
          obtain ⟨hin_5, hf⟩ := zz_gd_use hf
          refine zild hx hb hE hP 5 rfl (zz_in_ok hin_5) dX5_kindOf_25 ?_
          refine lv_iload_n hx hb dX5_kindOf_26 rfl (lv_at hl 1 rfl) ?_
          obtain ⟨k_8, hk_8, hf⟩ := zz_let_use hf
          have hJ_8 : ∀ (q_9 : Int32) (ls : Array Slot), k_8 q_9 = some o → lv_has ls 7 [(0, .ref t0), (1, .int p1), (2, .int p2), (3, .int p3), (4, .int v4_3)] → W p l e rm_X5_kindOf s m args below meth c0 s.heap [] 0 0 Q (F0 m 46 ls [.int q_9]) := by
            intro q_9 ls hf hl
            subst hk_8
            refine lv_istore (lv' := [(5, .int q_9), (0, .ref t0), (1, .int p1), (2, .int p2), (3, .int p3), (4, .int v4_3)]) hx hb dX5_kindOf_46 hl (by decide) rfl (fun ls hl => ?_)
            refine lv_aload_n hx hb dX5_kindOf_48 rfl (lv_at hl 1 rfl) ?_
            refine zget S uw_X5 hE hP 0 5 rfl rfl (by decide) tw_1_47 rfl rfl dX5_kindOf_49 ?_
            refine lv_iload hx hb dX5_kindOf_52 (lv_at hl 5 rfl) ?_
            refine zild hx hb hE hP 5 rfl (zz_in_ok hin_5) dX5_kindOf_54 ?_
            refine lv_iload_n hx hb dX5_kindOf_55 rfl (lv_at hl 3 rfl) ?_
            obtain ⟨k_12, hk_12, hf⟩ := zz_let_use hf
            have hJ_12 : ∀ (q_13 : Int32) (ls : Array Slot), k_12 q_13 = some o → lv_has ls 7 [(0, .ref t0), (1, .int p1), (2, .int p2), (3, .int p3), (4, .int v4_3), (5, .int q_9)] → W p l e rm_X5_kindOf s m args below meth c0 s.heap [] 0 0 Q (F0 m 75 ls [.int q_13]) := by
              intro q_13 ls hf hl
              subst hk_12
              refine lv_istore (lv' := [(6, .int q_13), (0, .ref t0), (1, .int p1), (2, .int p2), (3, .int p3), (4, .int v4_3), (5, .int q_9)]) hx hb dX5_kindOf_75 hl (by decide) rfl (fun ls hl => ?_)
              refine lv_aload_n hx hb dX5_kindOf_77 rfl (lv_at hl 1 rfl) ?_
              refine zget S uw_X5 hE hP 0 3 rfl rfl (by decide) tw_1_40 rfl rfl dX5_kindOf_78 ?_
              refine lv_iload hx hb dX5_kindOf_81 (lv_at hl 5 rfl) ?_
              refine zild hx hb hE hP 3 rfl (zz_in_ok hin_5) dX5_kindOf_83 ?_
              refine lv_iload_n hx hb dX5_kindOf_84 rfl (lv_at hl 4 rfl) ?_
              obtain ⟨k_17, hk_17, hf⟩ := zz_let_use hf
              have hJ_17 : ∀ (ls : Array Slot), k_17 = some o → lv_has ls 7 [(0, .ref t0), (1, .int p1), (2, .int p2), (3, .int p3), (4, .int v4_3)] → W p l e rm_X5_kindOf s m args below meth c0 s.heap [] 0 0 Q (F0 m 100 ls []) := by
                intro ls hf hl
                subst hk_17
                obtain ⟨v4_18, ev4_18, hf⟩ := zz_let_use hf
                refine lv_iinc (v := v4_18) (lv' := [(4, .int v4_18), (0, .ref t0), (1, .int p1), (2, .int p2), (3, .int p3)]) hx hb dX5_kindOf_100 hl (k := 4) rfl (by rw [← ev4_18]; rfl) (by decide) rfl (fun ls hl => ?_)
                refine lv_goto (tgt := 10) hx hb dX5_kindOf_103 (by decide) ?_
                exact ih_2 v4_18 ls hf (lv_sub hl [1, 2, 3, 4, 0] rfl)
              refine lv_icmp_ne (tgt := 100) hx hb dX5_kindOf_85 (by decide) (fun hc_14 => ?_) (fun hc_14 => ?_)
              · have hf := zz_if hf hc_14
                exact hJ_17 ls hf (lv_sub hl [1, 2, 3, 4, 5] rfl)
              · have hf := zz_it hf hc_14
                refine lv_iload hx hb dX5_kindOf_88 (lv_at hl 6 rfl) ?_
                refine lv_if_ne (tgt := 98) hx hb dX5_kindOf_90 (by decide) (fun hc_15 => ?_) (fun hc_15 => ?_)
                · have hf := zz_if hf hc_15
                  refine lv_iconst (v := (2 : Int32)) hx hb dX5_kindOf_98 (by decide) ?_
                  exact zRPi hQ hx hb hr hlk (Option.some.inj hf) dX5_kindOf_99
                · have hf := zz_it hf hc_15
                  refine lv_iload hx hb dX5_kindOf_93 (lv_at hl 0 rfl) ?_
                  refine lv_if_eq (tgt := 100) hx hb dX5_kindOf_95 (by decide) (fun hc_16 => ?_) (fun hc_16 => ?_)
                  · have hf := zz_it hf hc_16
                    exact hJ_17 ls hf (lv_sub hl [1, 2, 3, 4, 5] rfl)
                  · have hf := zz_if hf hc_16
                    refine lv_iconst (v := (2 : Int32)) hx hb dX5_kindOf_98 (by decide) ?_
                    exact zRPi hQ hx hb hr hlk (Option.some.inj hf) dX5_kindOf_99
            refine lv_icmp_ne (tgt := 74) hx hb dX5_kindOf_56 (by decide) (fun hc_10 => ?_) (fun hc_10 => ?_)
            · have hf := zz_if hf hc_10
              refine lv_iconst (v := (0 : Int32)) hx hb dX5_kindOf_74 (by decide) ?_
              exact hJ_12 (0 : Int32) ls hf (lv_sub hl [1, 2, 3, 4, 5, 0] rfl)
            · have hf := zz_it hf hc_10
              refine lv_aload_n hx hb dX5_kindOf_59 rfl (lv_at hl 1 rfl) ?_
              refine zget S uw_X5 hE hP 0 6 rfl rfl (by decide) tw_1_49 rfl rfl dX5_kindOf_60 ?_
              refine lv_iload hx hb dX5_kindOf_63 (lv_at hl 5 rfl) ?_
              refine zild hx hb hE hP 6 rfl (zz_in_ok hin_5) dX5_kindOf_65 ?_
              refine lv_iload_n hx hb dX5_kindOf_66 rfl (lv_at hl 2 rfl) ?_
              refine lv_icmp_ne (tgt := 74) hx hb dX5_kindOf_67 (by decide) (fun hc_11 => ?_) (fun hc_11 => ?_)
              · have hf := zz_if hf hc_11
                refine lv_iconst (v := (0 : Int32)) hx hb dX5_kindOf_74 (by decide) ?_
                exact hJ_12 (0 : Int32) ls hf (lv_sub hl [1, 2, 3, 4, 5, 0] rfl)
              · have hf := zz_it hf hc_11
                refine lv_iconst (v := (1 : Int32)) hx hb dX5_kindOf_70 (by decide) ?_
                refine lv_goto (tgt := 75) hx hb dX5_kindOf_71 (by decide) ?_
                exact hJ_12 (1 : Int32) ls hf (lv_sub hl [1, 2, 3, 4, 5, 0] rfl)
          refine lv_icmp_ne (tgt := 45) hx hb dX5_kindOf_27 (by decide) (fun hc_6 => ?_) (fun hc_6 => ?_)
          · have hf := zz_if hf hc_6
            refine lv_iconst (v := (0 : Int32)) hx hb dX5_kindOf_45 (by decide) ?_
            exact hJ_8 (0 : Int32) ls hf (lv_sub hl [0, 1, 2, 3, 4] rfl)
          · have hf := zz_it hf hc_6
            refine lv_aload_n hx hb dX5_kindOf_30 rfl (lv_at hl 0 rfl) ?_
            refine zget S uw_X5 hE hP 0 6 rfl rfl (by decide) tw_1_49 rfl rfl dX5_kindOf_31 ?_
            refine lv_iload hx hb dX5_kindOf_34 (lv_at hl 4 rfl) ?_
            refine zild hx hb hE hP 6 rfl (zz_in_ok hin_5) dX5_kindOf_36 ?_
            refine lv_iload_n hx hb dX5_kindOf_37 rfl (lv_at hl 2 rfl) ?_
            refine lv_icmp_ne (tgt := 45) hx hb dX5_kindOf_38 (by decide) (fun hc_7 => ?_) (fun hc_7 => ?_)
            · have hf := zz_if hf hc_7
              refine lv_iconst (v := (0 : Int32)) hx hb dX5_kindOf_45 (by decide) ?_
              exact hJ_8 (0 : Int32) ls hf (lv_sub hl [0, 1, 2, 3, 4] rfl)
            · have hf := zz_it hf hc_7
              refine lv_iconst (v := (1 : Int32)) hx hb dX5_kindOf_41 (by decide) ?_
              refine lv_goto (tgt := 46) hx hb dX5_kindOf_42 (by decide) ?_
              exact hJ_8 (1 : Int32) ls hf (lv_sub hl [0, 1, 2, 3, 4] rfl)
    exact hL_2 N (0 : Int32) ls hf (lv_sub hl [1, 2, 3, 4, 0] rfl)
  · have hf := zz_it hf hc_1
    refine lv_iconst (v := (0 : Int32)) hx hb dX5_kindOf_5 (by decide) ?_
    exact zRPi hQ hx hb hr hlk (Option.some.inj hf) dX5_kindOf_6
def f_X5_addPerson (N : Nat) (t_days : Nat → Int32) (t_words : Nat → Int64) (t_parents : Nat → Int32) (t_otherParents : Nat → Int32) (t_kinds : Nat → Int32) (t_personCount : Int32) (p1 : Int32) (p2 : Int32) (p3 : Int32) (p4 : Int64) : Option ((Nat → Int32) × (Nat → Int64) × (Nat → Int32) × (Nat → Int32) × (Nat → Int32) × (Int32)) := (if t_personCount < (16 : Int32) then zz_b1 (f_X5_kindOf N t_days t_parents t_otherParents t_personCount p1 p2 p3) (fun r_2 => zz_gd (zz_in t_personCount 16) (zz_let (upd t_kinds t_personCount.toNatClampNeg r_2) (fun t_kinds_4 => zz_let (upd t_parents t_personCount.toNatClampNeg p1) (fun t_parents_5 => zz_let (upd t_otherParents t_personCount.toNatClampNeg p2) (fun t_otherParents_6 => zz_let (upd t_days t_personCount.toNatClampNeg p3) (fun t_days_7 => zz_let (vp_updL t_words t_personCount.toNatClampNeg p4) (fun t_words_8 => zz_let (t_personCount + (1 : Int32)) (fun t_personCount_9 => (some (t_days_7, t_words_8, t_parents_5, t_otherParents_6, t_kinds_4, t_personCount_9)))))))))) else (some (t_days, t_words, t_parents, t_otherParents, t_kinds, t_personCount)))
abbrev rm_X5_addPerson : Room := { frames := 1, cells := 0, slots := 0, locals := 26 }
theorem mi_X5_addPerson : zMI RX5 yX5_addPerson cX5_addPerson 6 none 4 := ⟨⟨tw_2_178, tw_2_179, tw_1_2, tw_2_180⟩, by decide +kernel, by decide +kernel, by decide +kernel⟩
set_option maxHeartbeats 4000000 in
set_option maxRecDepth 100000 in
theorem k_X5_addPerson (l : Launch) (D : va_G) (c : Nat → ClassId) (N : Nat) (t0 : Nat) (tA_numbers : Nat) (tA_syllables : Nat) (tA_days : Nat) (tA_words : Nat) (tA_parents : Nat) (tA_otherParents : Nat) (tA_kinds : Nat) (tA_hopeDays : Nat) (tA_hopeTenths : Nat) (t_numbers : Nat → Int32) (t_syllables : Nat → Int64) (t_syllableCount : Int32) (t_days : Nat → Int32) (t_words : Nat → Int64) (t_parents : Nat → Int32) (t_otherParents : Nat → Int32) (t_kinds : Nat → Int32) (t_personCount : Int32) (t_hopeDays : Nat → Int32) (t_hopeTenths : Nat → Int32) (t_hopeCount : Int32) (t_degreesTold : Int32) (p1 : Int32) (p2 : Int32) (p3 : Int32) (p4 : Int64) (o_t_days : Nat → Int32) (o_t_words : Nat → Int64) (o_t_parents : Nat → Int32) (o_t_otherParents : Nat → Int32) (o_t_kinds : Nat → Int32) (o_t_personCount : Int32) (hf : f_X5_addPerson N t_days t_words t_parents t_otherParents t_kinds t_personCount p1 p2 p3 p4 = some (o_t_days, o_t_words, o_t_parents, o_t_otherParents, o_t_kinds, o_t_personCount)) : zMWv l D c yX5_addPerson cX5_addPerson 6 none rm_X5_addPerson (wX5 c t0 tA_numbers tA_syllables tA_days tA_words tA_parents tA_otherParents tA_kinds tA_hopeDays tA_hopeTenths t_numbers t_syllables t_syllableCount t_days t_words t_parents t_otherParents t_kinds t_personCount t_hopeDays t_hopeTenths t_hopeCount t_degreesTold) (wX5 c t0 tA_numbers tA_syllables tA_days tA_words tA_parents tA_otherParents tA_kinds tA_hopeDays tA_hopeTenths t_numbers t_syllables t_syllableCount o_t_days o_t_words o_t_parents o_t_otherParents o_t_kinds o_t_personCount t_hopeDays t_hopeTenths t_hopeCount t_degreesTold) [.ref t0, .int p1, .int p2, .int p3, .long p4] := by
  intro sz
  refine zIW (by decide) (Nat.le_of_ble_eq_true rfl) ?_
  intro p e s m args below meth c0 Q A hAe hQ hx hb hr hlk hml hts hown hP hE hD hS hA hsz hmn hX ls hl
  rw [← hAe] at hQ
  have S : CallFix p m c0 cX5_addPerson 6 s args zT RX5 := ⟨hx, hb, hml, hown, hts⟩
  have hl : lv_has ls 6 [(0, .ref t0), (1, .int p1), (2, .int p2), (3, .int p3), (4, .long p4)] := hl
  unfold f_X5_addPerson at hf
  refine lv_aload_n hx hb dX5_addPerson_0 rfl (lv_at hl 0 rfl) ?_
  refine zget S uw_X5 hE hP 0 8 rfl rfl (by decide) tw_1_53 rfl rfl dX5_addPerson_1 ?_
  refine lv_bipush (v := (16 : Int32)) hx hb dX5_addPerson_4 (by decide) ?_
  refine lv_icmp_lt (tgt := 10) hx hb dX5_addPerson_6 (by decide) (fun hc_1 => ?_) (fun hc_1 => ?_)
  · have hf := zz_it hf hc_1
    refine lv_aload_n hx hb dX5_addPerson_10 rfl (lv_at hl 0 rfl) ?_
    refine zget S uw_X5 hE hP 0 7 rfl rfl (by decide) tw_1_51 rfl rfl dX5_addPerson_11 ?_
    refine lv_aload_n hx hb dX5_addPerson_14 rfl (lv_at hl 0 rfl) ?_
    refine zget S uw_X5 hE hP 0 8 rfl rfl (by decide) tw_1_53 rfl rfl dX5_addPerson_15 ?_
    refine lv_aload_n hx hb dX5_addPerson_18 rfl (lv_at hl 0 rfl) ?_
    refine lv_iload_n hx hb dX5_addPerson_19 rfl (lv_at hl 1 rfl) ?_
    refine lv_iload_n hx hb dX5_addPerson_20 rfl (lv_at hl 2 rfl) ?_
    refine lv_iload_n hx hb dX5_addPerson_21 rfl (lv_at hl 3 rfl) ?_
    obtain ⟨r_2, he_2, hf⟩ := zz_b1_use hf
    refine zcVi (As := [.int p1, .int p2, .int p3]) (rest := [.int t_personCount, .ref tA_kinds]) S (k_X5_kindOf l D c N t0 tA_numbers tA_syllables tA_days tA_words tA_parents tA_otherParents tA_kinds tA_hopeDays tA_hopeTenths t_numbers t_syllables t_syllableCount t_days t_words t_parents t_otherParents t_kinds t_personCount t_hopeDays t_hopeTenths t_hopeCount t_degreesTold p1 p2 p3 r_2 he_2) mi_X5_kindOf tw_2_181 ⟨(Nat.le_of_ble_eq_true rfl), (Nat.le_of_ble_eq_true rfl)⟩ ⟨rfl, rfl⟩ hP hE hX hS (ci := 5) rfl rfl (q0 := 0) rfl rfl hl.1 rfl (Nat.le_of_ble_eq_true rfl) dX5_addPerson_22 ⟨(Nat.le_of_ble_eq_true rfl), (Nat.le_of_ble_eq_true rfl)⟩ ?_
    obtain ⟨hin_3, hf⟩ := zz_gd_use hf
    obtain ⟨t_kinds_4, et_kinds_4, hf⟩ := zz_let_use hf
    refine zist hx hb hE hP hD hS 7 (wX5 c t0 tA_numbers tA_syllables tA_days tA_words tA_parents tA_otherParents tA_kinds tA_hopeDays tA_hopeTenths t_numbers t_syllables t_syllableCount t_days t_words t_parents t_otherParents t_kinds_4 t_personCount t_hopeDays t_hopeTenths t_hopeCount t_degreesTold) rfl rfl et_kinds_4 (zz_in_ok hin_3) dX5_addPerson_25 (fun H locs hP hD hS => ?_)
    refine lv_aload_n hx hb dX5_addPerson_26 rfl (lv_at hl 0 rfl) ?_
    refine zget S uw_X5 hE hP 0 5 rfl rfl (by decide) tw_1_47 rfl rfl dX5_addPerson_27 ?_
    refine lv_aload_n hx hb dX5_addPerson_30 rfl (lv_at hl 0 rfl) ?_
    refine zget S uw_X5 hE hP 0 8 rfl rfl (by decide) tw_1_53 rfl rfl dX5_addPerson_31 ?_
    refine lv_iload_n hx hb dX5_addPerson_34 rfl (lv_at hl 1 rfl) ?_
    obtain ⟨t_parents_5, et_parents_5, hf⟩ := zz_let_use hf
    refine zist hx hb hE hP hD hS 5 (wX5 c t0 tA_numbers tA_syllables tA_days tA_words tA_parents tA_otherParents tA_kinds tA_hopeDays tA_hopeTenths t_numbers t_syllables t_syllableCount t_days t_words t_parents_5 t_otherParents t_kinds_4 t_personCount t_hopeDays t_hopeTenths t_hopeCount t_degreesTold) rfl rfl et_parents_5 (zz_in_ok hin_3) dX5_addPerson_35 (fun H locs hP hD hS => ?_)
    refine lv_aload_n hx hb dX5_addPerson_36 rfl (lv_at hl 0 rfl) ?_
    refine zget S uw_X5 hE hP 0 6 rfl rfl (by decide) tw_1_49 rfl rfl dX5_addPerson_37 ?_
    refine lv_aload_n hx hb dX5_addPerson_40 rfl (lv_at hl 0 rfl) ?_
    refine zget S uw_X5 hE hP 0 8 rfl rfl (by decide) tw_1_53 rfl rfl dX5_addPerson_41 ?_
    refine lv_iload_n hx hb dX5_addPerson_44 rfl (lv_at hl 2 rfl) ?_
    obtain ⟨t_otherParents_6, et_otherParents_6, hf⟩ := zz_let_use hf
    refine zist hx hb hE hP hD hS 6 (wX5 c t0 tA_numbers tA_syllables tA_days tA_words tA_parents tA_otherParents tA_kinds tA_hopeDays tA_hopeTenths t_numbers t_syllables t_syllableCount t_days t_words t_parents_5 t_otherParents_6 t_kinds_4 t_personCount t_hopeDays t_hopeTenths t_hopeCount t_degreesTold) rfl rfl et_otherParents_6 (zz_in_ok hin_3) dX5_addPerson_45 (fun H locs hP hD hS => ?_)
    refine lv_aload_n hx hb dX5_addPerson_46 rfl (lv_at hl 0 rfl) ?_
    refine zget S uw_X5 hE hP 0 3 rfl rfl (by decide) tw_1_40 rfl rfl dX5_addPerson_47 ?_
    refine lv_aload_n hx hb dX5_addPerson_50 rfl (lv_at hl 0 rfl) ?_
    refine zget S uw_X5 hE hP 0 8 rfl rfl (by decide) tw_1_53 rfl rfl dX5_addPerson_51 ?_
    refine lv_iload_n hx hb dX5_addPerson_54 rfl (lv_at hl 3 rfl) ?_
    obtain ⟨t_days_7, et_days_7, hf⟩ := zz_let_use hf
    refine zist hx hb hE hP hD hS 3 (wX5 c t0 tA_numbers tA_syllables tA_days tA_words tA_parents tA_otherParents tA_kinds tA_hopeDays tA_hopeTenths t_numbers t_syllables t_syllableCount t_days_7 t_words t_parents_5 t_otherParents_6 t_kinds_4 t_personCount t_hopeDays t_hopeTenths t_hopeCount t_degreesTold) rfl rfl et_days_7 (zz_in_ok hin_3) dX5_addPerson_55 (fun H locs hP hD hS => ?_)
    refine lv_aload_n hx hb dX5_addPerson_56 rfl (lv_at hl 0 rfl) ?_
    refine zget S uw_X5 hE hP 0 4 rfl rfl (by decide) tw_1_43 rfl rfl dX5_addPerson_57 ?_
    refine lv_aload_n hx hb dX5_addPerson_60 rfl (lv_at hl 0 rfl) ?_
    refine zget S uw_X5 hE hP 0 8 rfl rfl (by decide) tw_1_53 rfl rfl dX5_addPerson_61 ?_
    refine lv_lload hx hb dX5_addPerson_64 (lv_at hl 4 rfl) ?_
    obtain ⟨t_words_8, et_words_8, hf⟩ := zz_let_use hf
    refine zlst hx hb hE hP hD hS 4 (wX5 c t0 tA_numbers tA_syllables tA_days tA_words tA_parents tA_otherParents tA_kinds tA_hopeDays tA_hopeTenths t_numbers t_syllables t_syllableCount t_days_7 t_words_8 t_parents_5 t_otherParents_6 t_kinds_4 t_personCount t_hopeDays t_hopeTenths t_hopeCount t_degreesTold) rfl rfl et_words_8 (zz_in_ok hin_3) dX5_addPerson_66 (fun H locs hP hD hS => ?_)
    refine lv_aload_n hx hb dX5_addPerson_67 rfl (lv_at hl 0 rfl) ?_
    refine lv_dup hx hb dX5_addPerson_68 rfl ?_
    refine zget S uw_X5 hE hP 0 8 rfl rfl (by decide) tw_1_53 rfl rfl dX5_addPerson_69 ?_
    refine lv_iconst (v := (1 : Int32)) hx hb dX5_addPerson_72 (by decide) ?_
    refine lv_iadd hx hb dX5_addPerson_73 ?_
    obtain ⟨t_personCount_9, et_personCount_9, hf⟩ := zz_let_use hf
    refine zti et_personCount_9 ?_
    refine zput S uw_X5 tyX5_ok nmX5 hE hP hD hS 0 8 (ty := .int) (wX5 c t0 tA_numbers tA_syllables tA_days tA_words tA_parents tA_otherParents tA_kinds tA_hopeDays tA_hopeTenths t_numbers t_syllables t_syllableCount t_days_7 t_words_8 t_parents_5 t_otherParents_6 t_kinds_4 t_personCount_9 t_hopeDays t_hopeTenths t_hopeCount t_degreesTold) rfl rfl (by decide) tw_1_53 rfl rfl (by decide +kernel) rfl rfl (Nat.le_of_ble_eq_true rfl) rfl dX5_addPerson_74 (fun H locs hP hD hS => ?_)
    cases hf
    exact zRWv hQ hx hb hr hlk hP hD hS dX5_addPerson_77
  · have hf := zz_if hf hc_1
    cases hf
    exact zRWv hQ hx hb hr hlk hP hD hS dX5_addPerson_9
def f_X5_forgetAll (N : Nat)  : Option ((Int32) × (Int32) × (Int32)) := (some ((0 : Int32), (0 : Int32), (0 : Int32)))
abbrev rm_X5_forgetAll : Room := { frames := 0, cells := 0, slots := 0, locals := 0 }
theorem mi_X5_forgetAll : zMI RX5 yX5_forgetAll cX5_forgetAll 1 none 0 := ⟨⟨tw_2_219, tw_2_220, tw_1_2, tw_2_221⟩, by decide +kernel, by decide +kernel, by decide +kernel⟩
set_option maxHeartbeats 4000000 in
set_option maxRecDepth 100000 in
theorem k_X5_forgetAll (l : Launch) (D : va_G) (c : Nat → ClassId) (N : Nat) (t0 : Nat) (tA_numbers : Nat) (tA_syllables : Nat) (tA_days : Nat) (tA_words : Nat) (tA_parents : Nat) (tA_otherParents : Nat) (tA_kinds : Nat) (tA_hopeDays : Nat) (tA_hopeTenths : Nat) (t_numbers : Nat → Int32) (t_syllables : Nat → Int64) (t_syllableCount : Int32) (t_days : Nat → Int32) (t_words : Nat → Int64) (t_parents : Nat → Int32) (t_otherParents : Nat → Int32) (t_kinds : Nat → Int32) (t_personCount : Int32) (t_hopeDays : Nat → Int32) (t_hopeTenths : Nat → Int32) (t_hopeCount : Int32) (t_degreesTold : Int32)  (o_t_syllableCount : Int32) (o_t_personCount : Int32) (o_t_hopeCount : Int32) (hf : f_X5_forgetAll N  = some (o_t_syllableCount, o_t_personCount, o_t_hopeCount)) : zMWv l D c yX5_forgetAll cX5_forgetAll 1 none rm_X5_forgetAll (wX5 c t0 tA_numbers tA_syllables tA_days tA_words tA_parents tA_otherParents tA_kinds tA_hopeDays tA_hopeTenths t_numbers t_syllables t_syllableCount t_days t_words t_parents t_otherParents t_kinds t_personCount t_hopeDays t_hopeTenths t_hopeCount t_degreesTold) (wX5 c t0 tA_numbers tA_syllables tA_days tA_words tA_parents tA_otherParents tA_kinds tA_hopeDays tA_hopeTenths t_numbers t_syllables o_t_syllableCount t_days t_words t_parents t_otherParents t_kinds o_t_personCount t_hopeDays t_hopeTenths o_t_hopeCount t_degreesTold) [.ref t0] := by
  intro sz
  refine zIW (by decide) (Nat.le_of_ble_eq_true rfl) ?_
  intro p e s m args below meth c0 Q A hAe hQ hx hb hr hlk hml hts hown hP hE hD hS hA hsz hmn hX ls hl
  rw [← hAe] at hQ
  have S : CallFix p m c0 cX5_forgetAll 1 s args zT RX5 := ⟨hx, hb, hml, hown, hts⟩
  have hl : lv_has ls 1 [(0, .ref t0)] := hl
  unfold f_X5_forgetAll at hf
  refine lv_aload_n hx hb dX5_forgetAll_0 rfl (lv_at hl 0 rfl) ?_
  refine lv_iconst (v := (0 : Int32)) hx hb dX5_forgetAll_1 (by decide) ?_
  refine zput S uw_X5 tyX5_ok nmX5 hE hP hD hS 0 2 (ty := .int) (wX5 c t0 tA_numbers tA_syllables tA_days tA_words tA_parents tA_otherParents tA_kinds tA_hopeDays tA_hopeTenths t_numbers t_syllables (0 : Int32) t_days t_words t_parents t_otherParents t_kinds t_personCount t_hopeDays t_hopeTenths t_hopeCount t_degreesTold) rfl rfl (by decide) tw_1_36 rfl rfl (by decide +kernel) rfl rfl (Nat.le_of_ble_eq_true rfl) rfl dX5_forgetAll_2 (fun H locs hP hD hS => ?_)
  refine lv_aload_n hx hb dX5_forgetAll_5 rfl (lv_at hl 0 rfl) ?_
  refine lv_iconst (v := (0 : Int32)) hx hb dX5_forgetAll_6 (by decide) ?_
  refine zput S uw_X5 tyX5_ok nmX5 hE hP hD hS 0 8 (ty := .int) (wX5 c t0 tA_numbers tA_syllables tA_days tA_words tA_parents tA_otherParents tA_kinds tA_hopeDays tA_hopeTenths t_numbers t_syllables (0 : Int32) t_days t_words t_parents t_otherParents t_kinds (0 : Int32) t_hopeDays t_hopeTenths t_hopeCount t_degreesTold) rfl rfl (by decide) tw_1_53 rfl rfl (by decide +kernel) rfl rfl (Nat.le_of_ble_eq_true rfl) rfl dX5_forgetAll_7 (fun H locs hP hD hS => ?_)
  refine lv_aload_n hx hb dX5_forgetAll_10 rfl (lv_at hl 0 rfl) ?_
  refine lv_iconst (v := (0 : Int32)) hx hb dX5_forgetAll_11 (by decide) ?_
  refine zput S uw_X5 tyX5_ok nmX5 hE hP hD hS 0 11 (ty := .int) (wX5 c t0 tA_numbers tA_syllables tA_days tA_words tA_parents tA_otherParents tA_kinds tA_hopeDays tA_hopeTenths t_numbers t_syllables (0 : Int32) t_days t_words t_parents t_otherParents t_kinds (0 : Int32) t_hopeDays t_hopeTenths (0 : Int32) t_degreesTold) rfl rfl (by decide) tw_1_61 rfl rfl (by decide +kernel) rfl rfl (Nat.le_of_ble_eq_true rfl) rfl dX5_forgetAll_12 (fun H locs hP hD hS => ?_)
  cases hf
  exact zRWv hQ hx hb hr hlk hP hD hS dX5_forgetAll_15
def f_X5_addHope (N : Nat) (t_hopeDays : Nat → Int32) (t_hopeTenths : Nat → Int32) (t_hopeCount : Int32) (p1 : Int32) (p2 : Int32) : Option ((Nat → Int32) × (Nat → Int32) × (Int32)) := (if t_hopeCount < (6 : Int32) then zz_gd (zz_in t_hopeCount 6) (zz_let (upd t_hopeDays t_hopeCount.toNatClampNeg p1) (fun t_hopeDays_3 => zz_let (upd t_hopeTenths t_hopeCount.toNatClampNeg p2) (fun t_hopeTenths_4 => zz_let (t_hopeCount + (1 : Int32)) (fun t_hopeCount_5 => (some (t_hopeDays_3, t_hopeTenths_4, t_hopeCount_5)))))) else (some (t_hopeDays, t_hopeTenths, t_hopeCount)))
abbrev rm_X5_addHope : Room := { frames := 0, cells := 0, slots := 0, locals := 0 }
theorem mi_X5_addHope : zMI RX5 yX5_addHope cX5_addHope 3 none 2 := ⟨⟨tw_2_205, tw_2_206, tw_1_2, tw_2_207⟩, by decide +kernel, by decide +kernel, by decide +kernel⟩
set_option maxHeartbeats 4000000 in
set_option maxRecDepth 100000 in
theorem k_X5_addHope (l : Launch) (D : va_G) (c : Nat → ClassId) (N : Nat) (t0 : Nat) (tA_numbers : Nat) (tA_syllables : Nat) (tA_days : Nat) (tA_words : Nat) (tA_parents : Nat) (tA_otherParents : Nat) (tA_kinds : Nat) (tA_hopeDays : Nat) (tA_hopeTenths : Nat) (t_numbers : Nat → Int32) (t_syllables : Nat → Int64) (t_syllableCount : Int32) (t_days : Nat → Int32) (t_words : Nat → Int64) (t_parents : Nat → Int32) (t_otherParents : Nat → Int32) (t_kinds : Nat → Int32) (t_personCount : Int32) (t_hopeDays : Nat → Int32) (t_hopeTenths : Nat → Int32) (t_hopeCount : Int32) (t_degreesTold : Int32) (p1 : Int32) (p2 : Int32) (o_t_hopeDays : Nat → Int32) (o_t_hopeTenths : Nat → Int32) (o_t_hopeCount : Int32) (hf : f_X5_addHope N t_hopeDays t_hopeTenths t_hopeCount p1 p2 = some (o_t_hopeDays, o_t_hopeTenths, o_t_hopeCount)) : zMWv l D c yX5_addHope cX5_addHope 3 none rm_X5_addHope (wX5 c t0 tA_numbers tA_syllables tA_days tA_words tA_parents tA_otherParents tA_kinds tA_hopeDays tA_hopeTenths t_numbers t_syllables t_syllableCount t_days t_words t_parents t_otherParents t_kinds t_personCount t_hopeDays t_hopeTenths t_hopeCount t_degreesTold) (wX5 c t0 tA_numbers tA_syllables tA_days tA_words tA_parents tA_otherParents tA_kinds tA_hopeDays tA_hopeTenths t_numbers t_syllables t_syllableCount t_days t_words t_parents t_otherParents t_kinds t_personCount o_t_hopeDays o_t_hopeTenths o_t_hopeCount t_degreesTold) [.ref t0, .int p1, .int p2] := by
  intro sz
  refine zIW (by decide) (Nat.le_of_ble_eq_true rfl) ?_
  intro p e s m args below meth c0 Q A hAe hQ hx hb hr hlk hml hts hown hP hE hD hS hA hsz hmn hX ls hl
  rw [← hAe] at hQ
  have S : CallFix p m c0 cX5_addHope 3 s args zT RX5 := ⟨hx, hb, hml, hown, hts⟩
  have hl : lv_has ls 3 [(0, .ref t0), (1, .int p1), (2, .int p2)] := hl
  unfold f_X5_addHope at hf
  refine lv_aload_n hx hb dX5_addHope_0 rfl (lv_at hl 0 rfl) ?_
  refine zget S uw_X5 hE hP 0 11 rfl rfl (by decide) tw_1_61 rfl rfl dX5_addHope_1 ?_
  refine lv_bipush (v := (6 : Int32)) hx hb dX5_addHope_4 (by decide) ?_
  refine lv_icmp_lt (tgt := 10) hx hb dX5_addHope_6 (by decide) (fun hc_1 => ?_) (fun hc_1 => ?_)
  · have hf := zz_it hf hc_1
    refine lv_aload_n hx hb dX5_addHope_10 rfl (lv_at hl 0 rfl) ?_
    refine zget S uw_X5 hE hP 0 9 rfl rfl (by decide) tw_1_57 rfl rfl dX5_addHope_11 ?_
    refine lv_aload_n hx hb dX5_addHope_14 rfl (lv_at hl 0 rfl) ?_
    refine zget S uw_X5 hE hP 0 11 rfl rfl (by decide) tw_1_61 rfl rfl dX5_addHope_15 ?_
    refine lv_iload_n hx hb dX5_addHope_18 rfl (lv_at hl 1 rfl) ?_
    obtain ⟨hin_2, hf⟩ := zz_gd_use hf
    obtain ⟨t_hopeDays_3, et_hopeDays_3, hf⟩ := zz_let_use hf
    refine zist hx hb hE hP hD hS 8 (wX5 c t0 tA_numbers tA_syllables tA_days tA_words tA_parents tA_otherParents tA_kinds tA_hopeDays tA_hopeTenths t_numbers t_syllables t_syllableCount t_days t_words t_parents t_otherParents t_kinds t_personCount t_hopeDays_3 t_hopeTenths t_hopeCount t_degreesTold) rfl rfl et_hopeDays_3 (zz_in_ok hin_2) dX5_addHope_19 (fun H locs hP hD hS => ?_)
    refine lv_aload_n hx hb dX5_addHope_20 rfl (lv_at hl 0 rfl) ?_
    refine zget S uw_X5 hE hP 0 10 rfl rfl (by decide) tw_1_59 rfl rfl dX5_addHope_21 ?_
    refine lv_aload_n hx hb dX5_addHope_24 rfl (lv_at hl 0 rfl) ?_
    refine zget S uw_X5 hE hP 0 11 rfl rfl (by decide) tw_1_61 rfl rfl dX5_addHope_25 ?_
    refine lv_iload_n hx hb dX5_addHope_28 rfl (lv_at hl 2 rfl) ?_
    obtain ⟨t_hopeTenths_4, et_hopeTenths_4, hf⟩ := zz_let_use hf
    refine zist hx hb hE hP hD hS 9 (wX5 c t0 tA_numbers tA_syllables tA_days tA_words tA_parents tA_otherParents tA_kinds tA_hopeDays tA_hopeTenths t_numbers t_syllables t_syllableCount t_days t_words t_parents t_otherParents t_kinds t_personCount t_hopeDays_3 t_hopeTenths_4 t_hopeCount t_degreesTold) rfl rfl et_hopeTenths_4 (zz_in_ok hin_2) dX5_addHope_29 (fun H locs hP hD hS => ?_)
    refine lv_aload_n hx hb dX5_addHope_30 rfl (lv_at hl 0 rfl) ?_
    refine lv_dup hx hb dX5_addHope_31 rfl ?_
    refine zget S uw_X5 hE hP 0 11 rfl rfl (by decide) tw_1_61 rfl rfl dX5_addHope_32 ?_
    refine lv_iconst (v := (1 : Int32)) hx hb dX5_addHope_35 (by decide) ?_
    refine lv_iadd hx hb dX5_addHope_36 ?_
    obtain ⟨t_hopeCount_5, et_hopeCount_5, hf⟩ := zz_let_use hf
    refine zti et_hopeCount_5 ?_
    refine zput S uw_X5 tyX5_ok nmX5 hE hP hD hS 0 11 (ty := .int) (wX5 c t0 tA_numbers tA_syllables tA_days tA_words tA_parents tA_otherParents tA_kinds tA_hopeDays tA_hopeTenths t_numbers t_syllables t_syllableCount t_days t_words t_parents t_otherParents t_kinds t_personCount t_hopeDays_3 t_hopeTenths_4 t_hopeCount_5 t_degreesTold) rfl rfl (by decide) tw_1_61 rfl rfl (by decide +kernel) rfl rfl (Nat.le_of_ble_eq_true rfl) rfl dX5_addHope_37 (fun H locs hP hD hS => ?_)
    cases hf
    exact zRWv hQ hx hb hr hlk hP hD hS dX5_addHope_40
  · have hf := zz_if hf hc_1
    cases hf
    exact zRWv hQ hx hb hr hlk hP hD hS dX5_addHope_9
def f_X5_isSyllable_L2 (N : Nat) (k_1 : Option (Int32)) (t_syllables : Nat → Int64) (t_syllableCount : Int32) (p1 : Int64) : Nat → (Int32) → Option (Int32)
  | 0, _ => none
  | n_1 + 1, v3_2 => (if t_syllableCount ≤ v3_2 then k_1 else zz_gd (zz_in v3_2 10) ((if (t_syllables v3_2.toNatClampNeg) = p1 then (some (1 : Int32)) else zz_let (v3_2 + (1 : Int32)) (fun v3_6 => (f_X5_isSyllable_L2 N k_1 t_syllables t_syllableCount p1 n_1 v3_6)))))
theorem f_X5_isSyllable_L2_s (N : Nat) (k_1 : Option (Int32)) (t_syllables : Nat → Int64) (t_syllableCount : Int32) (p1 : Int64) (n_1 : Nat) (v3_2 : Int32) : f_X5_isSyllable_L2 N k_1 t_syllables t_syllableCount p1 (n_1 + 1) v3_2 = (if t_syllableCount ≤ v3_2 then k_1 else zz_gd (zz_in v3_2 10) ((if (t_syllables v3_2.toNatClampNeg) = p1 then (some (1 : Int32)) else zz_let (v3_2 + (1 : Int32)) (fun v3_6 => (f_X5_isSyllable_L2 N k_1 t_syllables t_syllableCount p1 n_1 v3_6))))) := rfl
def f_X5_isSyllable (N : Nat) (t_syllables : Nat → Int64) (t_syllableCount : Int32) (p1 : Int64) : Option (Int32) := zz_let ((some (0 : Int32))) (fun k_1 => f_X5_isSyllable_L2 N k_1 t_syllables t_syllableCount p1 N (0 : Int32))
abbrev rm_X5_isSyllable : Room := { frames := 0, cells := 0, slots := 0, locals := 0 }
theorem mi_X5_isSyllable : zMI RX5 yX5_isSyllable cX5_isSyllable 4 (some .boolean) 1 := ⟨⟨tw_2_160, tw_2_161, tw_1_2, tw_2_162⟩, by decide +kernel, by decide +kernel, by decide +kernel⟩
set_option maxHeartbeats 4000000 in
set_option maxRecDepth 100000 in
theorem k_X5_isSyllable (l : Launch) (D : va_G) (c : Nat → ClassId) (N : Nat) (t0 : Nat) (tA_numbers : Nat) (tA_syllables : Nat) (tA_days : Nat) (tA_words : Nat) (tA_parents : Nat) (tA_otherParents : Nat) (tA_kinds : Nat) (tA_hopeDays : Nat) (tA_hopeTenths : Nat) (t_numbers : Nat → Int32) (t_syllables : Nat → Int64) (t_syllableCount : Int32) (t_days : Nat → Int32) (t_words : Nat → Int64) (t_parents : Nat → Int32) (t_otherParents : Nat → Int32) (t_kinds : Nat → Int32) (t_personCount : Int32) (t_hopeDays : Nat → Int32) (t_hopeTenths : Nat → Int32) (t_hopeCount : Int32) (t_degreesTold : Int32) (p1 : Int64) (o : Int32) (hf : f_X5_isSyllable N t_syllables t_syllableCount p1 = some o) : zMPi l D c yX5_isSyllable cX5_isSyllable 4 (some .boolean) rm_X5_isSyllable (wX5 c t0 tA_numbers tA_syllables tA_days tA_words tA_parents tA_otherParents tA_kinds tA_hopeDays tA_hopeTenths t_numbers t_syllables t_syllableCount t_days t_words t_parents t_otherParents t_kinds t_personCount t_hopeDays t_hopeTenths t_hopeCount t_degreesTold) [.ref t0, .long p1] o := by
  refine zIP (by decide) (Nat.le_of_ble_eq_true rfl) ?_
  intro p e s m args below meth c0 Q hQ hx hb hr hlk hml hts hown hP hE hX hS ls hl
  have S : CallFix p m c0 cX5_isSyllable 4 s args zT RX5 := ⟨hx, hb, hml, hown, hts⟩
  have hl : lv_has ls 4 [(0, .ref t0), (1, .long p1)] := hl
  unfold f_X5_isSyllable at hf
  refine lv_iconst (v := (0 : Int32)) hx hb dX5_isSyllable_0 (by decide) ?_
  refine lv_istore_n (lv' := [(3, .int (0 : Int32)), (0, .ref t0), (1, .long p1)]) hx hb dX5_isSyllable_1 rfl hl (by decide) rfl (fun ls hl => ?_)
  obtain ⟨k_1, hk_1, hf⟩ := zz_let_use hf
  have hX_1 : ∀ (ls : Array Slot), k_1 = some o → lv_has ls 4 [] → W p l e rm_X5_isSyllable s m args below meth c0 s.heap [] 0 0 Q (F0 m 29 ls []) := by
    intro ls hf hl
    subst hk_1
    refine lv_iconst (v := (0 : Int32)) hx hb dX5_isSyllable_29 (by decide) ?_
    exact zRPz hQ hx hb hr hlk rfl (Option.some.inj hf) dX5_isSyllable_30
  have hL_1 : ∀ (n_1 : Nat) (v3_2 : Int32) (ls : Array Slot), f_X5_isSyllable_L2 N k_1 t_syllables t_syllableCount p1 n_1 v3_2 = some o → lv_has ls 4 [(0, .ref t0), (1, .long p1), (3, .int v3_2)] → W p l e rm_X5_isSyllable s m args below meth c0 s.heap [] 0 0 Q (F0 m 2 ls []) := by
    intro n_1
    induction n_1 with
    | zero => intro v3_2 ls hf hl; exact zz_none hf
    | succ n_1 ih_1 =>
      intro v3_2 ls hf hl
      rw [f_X5_isSyllable_L2_s] at hf
      refine lv_iload_n hx hb dX5_isSyllable_2 rfl (lv_at hl 2 rfl) ?_
      refine lv_aload_n hx hb dX5_isSyllable_3 rfl (lv_at hl 0 rfl) ?_
      refine zget S uw_X5 hE hP 0 2 rfl rfl (by decide) tw_1_36 rfl rfl dX5_isSyllable_4 ?_
      refine lv_icmp_ge (tgt := 29) hx hb dX5_isSyllable_7 (by decide) (fun hc_3 => ?_) (fun hc_3 => ?_)
      · have hf := zz_it hf hc_3
        exact hX_1 ls hf (lv_sub hl [] rfl)
      · have hf := zz_if hf hc_3
        refine lv_aload_n hx hb dX5_isSyllable_10 rfl (lv_at hl 0 rfl) ?_
        refine zget S uw_X5 hE hP 0 1 rfl rfl (by decide) tw_1_33 rfl rfl dX5_isSyllable_11 ?_
        refine lv_iload_n hx hb dX5_isSyllable_14 rfl (lv_at hl 2 rfl) ?_
        obtain ⟨hin_4, hf⟩ := zz_gd_use hf
        refine zlld hx hb hE hP 2 rfl (zz_in_ok hin_4) dX5_isSyllable_15 ?_
        refine lv_lload_n hx hb dX5_isSyllable_16 rfl (lv_at hl 1 rfl) ?_
        refine zlc_ne (tgt := 23) hx hb dX5_isSyllable_17 dX5_isSyllable_18 (by decide) (fun hc_5 => ?_) (fun hc_5 => ?_)
        · have hf := zz_if hf hc_5
          obtain ⟨v3_6, ev3_6, hf⟩ := zz_let_use hf
          refine lv_iinc (v := v3_6) (lv' := [(3, .int v3_6), (0, .ref t0), (1, .long p1)]) hx hb dX5_isSyllable_23 hl (k := 2) rfl (by rw [← ev3_6]; rfl) (by decide) rfl (fun ls hl => ?_)
          refine lv_goto (tgt := 2) hx hb dX5_isSyllable_26 (by decide) ?_
          exact ih_1 v3_6 ls hf (lv_sub hl [1, 2, 0] rfl)
        · have hf := zz_it hf hc_5
          refine lv_iconst (v := (1 : Int32)) hx hb dX5_isSyllable_21 (by decide) ?_
          exact zRPz hQ hx hb hr hlk rfl (Option.some.inj hf) dX5_isSyllable_22
  exact hL_1 N (0 : Int32) ls hf (lv_sub hl [1, 2, 0] rfl)
def f_X5_addSyllable (N : Nat) (t_syllables : Nat → Int64) (t_syllableCount : Int32) (p1 : Int64) : Option (Int32 × (Nat → Int64) × (Int32)) := (if (10 : Int32) ≤ t_syllableCount then (some ((0 : Int32), t_syllables, t_syllableCount)) else zz_b1 (f_X5_isSyllable N t_syllables t_syllableCount p1) (fun r_2 => (if r_2 = 0 then zz_gd (zz_in t_syllableCount 10) (zz_let (vp_updL t_syllables t_syllableCount.toNatClampNeg p1) (fun t_syllables_5 => zz_let (t_syllableCount + (1 : Int32)) (fun t_syllableCount_6 => (some ((1 : Int32), t_syllables_5, t_syllableCount_6))))) else (some ((0 : Int32), t_syllables, t_syllableCount)))))
abbrev rm_X5_addSyllable : Room := { frames := 1, cells := 0, slots := 0, locals := 23 }
theorem mi_X5_addSyllable : zMI RX5 yX5_addSyllable cX5_addSyllable 3 (some .boolean) 1 := ⟨⟨tw_2_156, tw_2_157, tw_1_2, tw_2_158⟩, by decide +kernel, by decide +kernel, by decide +kernel⟩
set_option maxHeartbeats 4000000 in
set_option maxRecDepth 100000 in
theorem k_X5_addSyllable (l : Launch) (D : va_G) (c : Nat → ClassId) (N : Nat) (t0 : Nat) (tA_numbers : Nat) (tA_syllables : Nat) (tA_days : Nat) (tA_words : Nat) (tA_parents : Nat) (tA_otherParents : Nat) (tA_kinds : Nat) (tA_hopeDays : Nat) (tA_hopeTenths : Nat) (t_numbers : Nat → Int32) (t_syllables : Nat → Int64) (t_syllableCount : Int32) (t_days : Nat → Int32) (t_words : Nat → Int64) (t_parents : Nat → Int32) (t_otherParents : Nat → Int32) (t_kinds : Nat → Int32) (t_personCount : Int32) (t_hopeDays : Nat → Int32) (t_hopeTenths : Nat → Int32) (t_hopeCount : Int32) (t_degreesTold : Int32) (p1 : Int64) (o : Int32) (o_t_syllables : Nat → Int64) (o_t_syllableCount : Int32) (hf : f_X5_addSyllable N t_syllables t_syllableCount p1 = some (o, o_t_syllables, o_t_syllableCount)) : zMWi l D c yX5_addSyllable cX5_addSyllable 3 (some .boolean) rm_X5_addSyllable (wX5 c t0 tA_numbers tA_syllables tA_days tA_words tA_parents tA_otherParents tA_kinds tA_hopeDays tA_hopeTenths t_numbers t_syllables t_syllableCount t_days t_words t_parents t_otherParents t_kinds t_personCount t_hopeDays t_hopeTenths t_hopeCount t_degreesTold) (wX5 c t0 tA_numbers tA_syllables tA_days tA_words tA_parents tA_otherParents tA_kinds tA_hopeDays tA_hopeTenths t_numbers o_t_syllables o_t_syllableCount t_days t_words t_parents t_otherParents t_kinds t_personCount t_hopeDays t_hopeTenths t_hopeCount t_degreesTold) [.ref t0, .long p1] o := by
  intro sz
  refine zIW (by decide) (Nat.le_of_ble_eq_true rfl) ?_
  intro p e s m args below meth c0 Q A hAe hQ hx hb hr hlk hml hts hown hP hE hD hS hA hsz hmn hX ls hl
  rw [← hAe] at hQ
  have S : CallFix p m c0 cX5_addSyllable 3 s args zT RX5 := ⟨hx, hb, hml, hown, hts⟩
  have hl : lv_has ls 3 [(0, .ref t0), (1, .long p1)] := hl
  unfold f_X5_addSyllable at hf
  refine lv_aload_n hx hb dX5_addSyllable_0 rfl (lv_at hl 0 rfl) ?_
  refine zget S uw_X5 hE hP 0 2 rfl rfl (by decide) tw_1_36 rfl rfl dX5_addSyllable_1 ?_
  refine lv_bipush (v := (10 : Int32)) hx hb dX5_addSyllable_4 (by decide) ?_
  refine lv_icmp_ge (tgt := 17) hx hb dX5_addSyllable_6 (by decide) (fun hc_1 => ?_) (fun hc_1 => ?_)
  · have hf := zz_it hf hc_1
    refine lv_iconst (v := (0 : Int32)) hx hb dX5_addSyllable_17 (by decide) ?_
    cases hf
    exact zRWz hQ hx hb hr hlk rfl rfl hP hD hS dX5_addSyllable_18
  · have hf := zz_if hf hc_1
    refine lv_aload_n hx hb dX5_addSyllable_9 rfl (lv_at hl 0 rfl) ?_
    refine lv_lload_n hx hb dX5_addSyllable_10 rfl (lv_at hl 1 rfl) ?_
    obtain ⟨r_2, he_2, hf⟩ := zz_b1_use hf
    refine zcVi (As := [.long p1]) (rest := []) S (k_X5_isSyllable l D c N t0 tA_numbers tA_syllables tA_days tA_words tA_parents tA_otherParents tA_kinds tA_hopeDays tA_hopeTenths t_numbers t_syllables t_syllableCount t_days t_words t_parents t_otherParents t_kinds t_personCount t_hopeDays t_hopeTenths t_hopeCount t_degreesTold p1 r_2 he_2) mi_X5_isSyllable tw_2_159 ⟨(Nat.le_of_ble_eq_true rfl), (Nat.le_of_ble_eq_true rfl)⟩ ⟨rfl, rfl⟩ hP hE hX hS (ci := 5) rfl rfl (q0 := 0) rfl rfl hl.1 rfl (Nat.le_of_ble_eq_true rfl) dX5_addSyllable_11 ⟨(Nat.le_of_ble_eq_true rfl), (Nat.le_of_ble_eq_true rfl)⟩ ?_
    refine lv_if_eq (tgt := 19) hx hb dX5_addSyllable_14 (by decide) (fun hc_3 => ?_) (fun hc_3 => ?_)
    · have hf := zz_it hf hc_3
      refine lv_aload_n hx hb dX5_addSyllable_19 rfl (lv_at hl 0 rfl) ?_
      refine zget S uw_X5 hE hP 0 1 rfl rfl (by decide) tw_1_33 rfl rfl dX5_addSyllable_20 ?_
      refine lv_aload_n hx hb dX5_addSyllable_23 rfl (lv_at hl 0 rfl) ?_
      refine zget S uw_X5 hE hP 0 2 rfl rfl (by decide) tw_1_36 rfl rfl dX5_addSyllable_24 ?_
      refine lv_lload_n hx hb dX5_addSyllable_27 rfl (lv_at hl 1 rfl) ?_
      obtain ⟨hin_4, hf⟩ := zz_gd_use hf
      obtain ⟨t_syllables_5, et_syllables_5, hf⟩ := zz_let_use hf
      refine zlst hx hb hE hP hD hS 2 (wX5 c t0 tA_numbers tA_syllables tA_days tA_words tA_parents tA_otherParents tA_kinds tA_hopeDays tA_hopeTenths t_numbers t_syllables_5 t_syllableCount t_days t_words t_parents t_otherParents t_kinds t_personCount t_hopeDays t_hopeTenths t_hopeCount t_degreesTold) rfl rfl et_syllables_5 (zz_in_ok hin_4) dX5_addSyllable_28 (fun H locs hP hD hS => ?_)
      refine lv_aload_n hx hb dX5_addSyllable_29 rfl (lv_at hl 0 rfl) ?_
      refine lv_dup hx hb dX5_addSyllable_30 rfl ?_
      refine zget S uw_X5 hE hP 0 2 rfl rfl (by decide) tw_1_36 rfl rfl dX5_addSyllable_31 ?_
      refine lv_iconst (v := (1 : Int32)) hx hb dX5_addSyllable_34 (by decide) ?_
      refine lv_iadd hx hb dX5_addSyllable_35 ?_
      obtain ⟨t_syllableCount_6, et_syllableCount_6, hf⟩ := zz_let_use hf
      refine zti et_syllableCount_6 ?_
      refine zput S uw_X5 tyX5_ok nmX5 hE hP hD hS 0 2 (ty := .int) (wX5 c t0 tA_numbers tA_syllables tA_days tA_words tA_parents tA_otherParents tA_kinds tA_hopeDays tA_hopeTenths t_numbers t_syllables_5 t_syllableCount_6 t_days t_words t_parents t_otherParents t_kinds t_personCount t_hopeDays t_hopeTenths t_hopeCount t_degreesTold) rfl rfl (by decide) tw_1_36 rfl rfl (by decide +kernel) rfl rfl (Nat.le_of_ble_eq_true rfl) rfl dX5_addSyllable_36 (fun H locs hP hD hS => ?_)
      refine lv_iconst (v := (1 : Int32)) hx hb dX5_addSyllable_39 (by decide) ?_
      cases hf
      exact zRWz hQ hx hb hr hlk rfl rfl hP hD hS dX5_addSyllable_40
    · have hf := zz_if hf hc_3
      refine lv_iconst (v := (0 : Int32)) hx hb dX5_addSyllable_17 (by decide) ?_
      cases hf
      exact zRWz hQ hx hb hr hlk rfl rfl hP hD hS dX5_addSyllable_18
def f_X5_takeFrom (N : Nat) (t_numbers : Nat → Int32) (t_syllables : Nat → Int64) (t_days : Nat → Int32) (t_words : Nat → Int64) (t_parents : Nat → Int32) (t_otherParents : Nat → Int32) (t_kinds : Nat → Int32) (t_hopeDays : Nat → Int32) (t_hopeTenths : Nat → Int32) (w_numbers : Nat → Int32) (w_syllables : Nat → Int64) (w_syllableCount : Int32) (w_days : Nat → Int32) (w_words : Nat → Int64) (w_parents : Nat → Int32) (w_otherParents : Nat → Int32) (w_kinds : Nat → Int32) (w_personCount : Int32) (w_hopeDays : Nat → Int32) (w_hopeTenths : Nat → Int32) (w_hopeCount : Int32) (w_degreesTold : Int32) : Option ((Nat → Int32) × (Nat → Int64) × (Int32) × (Nat → Int32) × (Nat → Int64) × (Nat → Int32) × (Nat → Int32) × (Nat → Int32) × (Int32) × (Nat → Int32) × (Nat → Int32) × (Int32) × (Int32)) := zz_let (va_cpy w_numbers t_numbers (0 : Int32).toNatClampNeg (0 : Int32).toNatClampNeg (26 : Int32).toNatClampNeg) (fun t_numbers_1 => zz_let (va_cpy w_syllables t_syllables (0 : Int32).toNatClampNeg (0 : Int32).toNatClampNeg (10 : Int32).toNatClampNeg) (fun t_syllables_2 => zz_let (va_cpy w_days t_days (0 : Int32).toNatClampNeg (0 : Int32).toNatClampNeg (16 : Int32).toNatClampNeg) (fun t_days_3 => zz_let (va_cpy w_words t_words (0 : Int32).toNatClampNeg (0 : Int32).toNatClampNeg (16 : Int32).toNatClampNeg) (fun t_words_4 => zz_let (va_cpy w_parents t_parents (0 : Int32).toNatClampNeg (0 : Int32).toNatClampNeg (16 : Int32).toNatClampNeg) (fun t_parents_5 => zz_let (va_cpy w_otherParents t_otherParents (0 : Int32).toNatClampNeg (0 : Int32).toNatClampNeg (16 : Int32).toNatClampNeg) (fun t_otherParents_6 => zz_let (va_cpy w_kinds t_kinds (0 : Int32).toNatClampNeg (0 : Int32).toNatClampNeg (16 : Int32).toNatClampNeg) (fun t_kinds_7 => zz_let (va_cpy w_hopeDays t_hopeDays (0 : Int32).toNatClampNeg (0 : Int32).toNatClampNeg (6 : Int32).toNatClampNeg) (fun t_hopeDays_8 => zz_let (va_cpy w_hopeTenths t_hopeTenths (0 : Int32).toNatClampNeg (0 : Int32).toNatClampNeg (6 : Int32).toNatClampNeg) (fun t_hopeTenths_9 => (some (t_numbers_1, t_syllables_2, w_syllableCount, t_days_3, t_words_4, t_parents_5, t_otherParents_6, t_kinds_7, w_personCount, t_hopeDays_8, t_hopeTenths_9, w_hopeCount, w_degreesTold)))))))))))
abbrev rm_X5_takeFrom : Room := { frames := 1, cells := 0, slots := 0, locals := 40 }
theorem mi_X5_takeFrom : zMI RX5 yX5_takeFrom cX5_takeFrom 2 none 1 := ⟨⟨tw_2_56, tw_2_57, tw_1_2, tw_2_58⟩, by decide +kernel, by decide +kernel, by decide +kernel⟩
set_option maxHeartbeats 4000000 in
set_option maxRecDepth 100000 in
theorem k_X5_takeFrom (l : Launch) (D : va_G) (c : Nat → ClassId) (N : Nat) (t0 : Nat) (tA_numbers : Nat) (tA_syllables : Nat) (tA_days : Nat) (tA_words : Nat) (tA_parents : Nat) (tA_otherParents : Nat) (tA_kinds : Nat) (tA_hopeDays : Nat) (tA_hopeTenths : Nat) (t_numbers : Nat → Int32) (t_syllables : Nat → Int64) (t_syllableCount : Int32) (t_days : Nat → Int32) (t_words : Nat → Int64) (t_parents : Nat → Int32) (t_otherParents : Nat → Int32) (t_kinds : Nat → Int32) (t_personCount : Int32) (t_hopeDays : Nat → Int32) (t_hopeTenths : Nat → Int32) (t_hopeCount : Int32) (t_degreesTold : Int32) (w0 : Nat) (wA_numbers : Nat) (wA_syllables : Nat) (wA_days : Nat) (wA_words : Nat) (wA_parents : Nat) (wA_otherParents : Nat) (wA_kinds : Nat) (wA_hopeDays : Nat) (wA_hopeTenths : Nat) (w_numbers : Nat → Int32) (w_syllables : Nat → Int64) (w_syllableCount : Int32) (w_days : Nat → Int32) (w_words : Nat → Int64) (w_parents : Nat → Int32) (w_otherParents : Nat → Int32) (w_kinds : Nat → Int32) (w_personCount : Int32) (w_hopeDays : Nat → Int32) (w_hopeTenths : Nat → Int32) (w_hopeCount : Int32) (w_degreesTold : Int32)  (o_t_numbers : Nat → Int32) (o_t_syllables : Nat → Int64) (o_t_syllableCount : Int32) (o_t_days : Nat → Int32) (o_t_words : Nat → Int64) (o_t_parents : Nat → Int32) (o_t_otherParents : Nat → Int32) (o_t_kinds : Nat → Int32) (o_t_personCount : Int32) (o_t_hopeDays : Nat → Int32) (o_t_hopeTenths : Nat → Int32) (o_t_hopeCount : Int32) (o_t_degreesTold : Int32) (hf : f_X5_takeFrom N t_numbers t_syllables t_days t_words t_parents t_otherParents t_kinds t_hopeDays t_hopeTenths w_numbers w_syllables w_syllableCount w_days w_words w_parents w_otherParents w_kinds w_personCount w_hopeDays w_hopeTenths w_hopeCount w_degreesTold = some (o_t_numbers, o_t_syllables, o_t_syllableCount, o_t_days, o_t_words, o_t_parents, o_t_otherParents, o_t_kinds, o_t_personCount, o_t_hopeDays, o_t_hopeTenths, o_t_hopeCount, o_t_degreesTold)) : zMWv l D c yX5_takeFrom cX5_takeFrom 2 none rm_X5_takeFrom (wX5 c t0 tA_numbers tA_syllables tA_days tA_words tA_parents tA_otherParents tA_kinds tA_hopeDays tA_hopeTenths t_numbers t_syllables t_syllableCount t_days t_words t_parents t_otherParents t_kinds t_personCount t_hopeDays t_hopeTenths t_hopeCount t_degreesTold ++ wX5 c w0 wA_numbers wA_syllables wA_days wA_words wA_parents wA_otherParents wA_kinds wA_hopeDays wA_hopeTenths w_numbers w_syllables w_syllableCount w_days w_words w_parents w_otherParents w_kinds w_personCount w_hopeDays w_hopeTenths w_hopeCount w_degreesTold) (wX5 c t0 tA_numbers tA_syllables tA_days tA_words tA_parents tA_otherParents tA_kinds tA_hopeDays tA_hopeTenths o_t_numbers o_t_syllables o_t_syllableCount o_t_days o_t_words o_t_parents o_t_otherParents o_t_kinds o_t_personCount o_t_hopeDays o_t_hopeTenths o_t_hopeCount o_t_degreesTold ++ wX5 c w0 wA_numbers wA_syllables wA_days wA_words wA_parents wA_otherParents wA_kinds wA_hopeDays wA_hopeTenths w_numbers w_syllables w_syllableCount w_days w_words w_parents w_otherParents w_kinds w_personCount w_hopeDays w_hopeTenths w_hopeCount w_degreesTold) [.ref t0, .ref w0] := by
  intro sz
  refine zIW (by decide) (Nat.le_of_ble_eq_true rfl) ?_
  intro p e s m args below meth c0 Q A hAe hQ hx hb hr hlk hml hts hown hP hE hD hS hA hsz hmn hX ls hl
  rw [← hAe] at hQ
  have S : CallFix p m c0 cX5_takeFrom 2 s args zT RX5 := ⟨hx, hb, hml, hown, hts⟩
  have hl : lv_has ls 2 [(0, .ref t0), (1, .ref w0)] := hl
  unfold f_X5_takeFrom at hf
  refine lv_aload_n hx hb dX5_takeFrom_0 rfl (lv_at hl 1 rfl) ?_
  refine zget S uw_X5 hE hP 10 0 rfl rfl (by decide) tw_1_30 rfl rfl dX5_takeFrom_1 ?_
  refine lv_iconst (v := (0 : Int32)) hx hb dX5_takeFrom_4 (by decide) ?_
  refine lv_aload_n hx hb dX5_takeFrom_5 rfl (lv_at hl 0 rfl) ?_
  refine zget S uw_X5 hE hP 0 0 rfl rfl (by decide) tw_1_30 rfl rfl dX5_takeFrom_6 ?_
  refine lv_iconst (v := (0 : Int32)) hx hb dX5_takeFrom_9 (by decide) ?_
  refine lv_bipush (v := (26 : Int32)) hx hb dX5_takeFrom_10 (by decide) ?_
  obtain ⟨t_numbers_1, et_numbers_1, hf⟩ := zz_let_use hf
  refine zcpi hx hb (hml.trans hl.1.symm) hown (hts _ tw_2_59) (hts _ tw_2_61) (hts _ tw_2_60) (hts _ tw_1_9) hE hP hD hS 11 1 (wX5 c t0 tA_numbers tA_syllables tA_days tA_words tA_parents tA_otherParents tA_kinds tA_hopeDays tA_hopeTenths t_numbers_1 t_syllables t_syllableCount t_days t_words t_parents t_otherParents t_kinds t_personCount t_hopeDays t_hopeTenths t_hopeCount t_degreesTold ++ wX5 c w0 wA_numbers wA_syllables wA_days wA_words wA_parents wA_otherParents wA_kinds wA_hopeDays wA_hopeTenths w_numbers w_syllables w_syllableCount w_days w_words w_parents w_otherParents w_kinds w_personCount w_hopeDays w_hopeTenths w_hopeCount w_degreesTold) rfl rfl rfl et_numbers_1 (by decide) (by decide) (by decide) (by decide) (by decide) (Nat.le_of_ble_eq_true rfl) (Nat.le_of_ble_eq_true rfl) dX5_takeFrom_12 (fun H locs hP hD hS => ?_)
  refine lv_aload_n hx hb dX5_takeFrom_15 rfl (lv_at hl 1 rfl) ?_
  refine zget S uw_X5 hE hP 10 1 rfl rfl (by decide) tw_1_33 rfl rfl dX5_takeFrom_16 ?_
  refine lv_iconst (v := (0 : Int32)) hx hb dX5_takeFrom_19 (by decide) ?_
  refine lv_aload_n hx hb dX5_takeFrom_20 rfl (lv_at hl 0 rfl) ?_
  refine zget S uw_X5 hE hP 0 1 rfl rfl (by decide) tw_1_33 rfl rfl dX5_takeFrom_21 ?_
  refine lv_iconst (v := (0 : Int32)) hx hb dX5_takeFrom_24 (by decide) ?_
  refine lv_bipush (v := (10 : Int32)) hx hb dX5_takeFrom_25 (by decide) ?_
  obtain ⟨t_syllables_2, et_syllables_2, hf⟩ := zz_let_use hf
  refine zcpl hx hb (hml.trans hl.1.symm) hown (hts _ tw_2_59) (hts _ tw_2_61) (hts _ tw_2_60) (hts _ tw_1_9) hE hP hD hS 12 2 (wX5 c t0 tA_numbers tA_syllables tA_days tA_words tA_parents tA_otherParents tA_kinds tA_hopeDays tA_hopeTenths t_numbers_1 t_syllables_2 t_syllableCount t_days t_words t_parents t_otherParents t_kinds t_personCount t_hopeDays t_hopeTenths t_hopeCount t_degreesTold ++ wX5 c w0 wA_numbers wA_syllables wA_days wA_words wA_parents wA_otherParents wA_kinds wA_hopeDays wA_hopeTenths w_numbers w_syllables w_syllableCount w_days w_words w_parents w_otherParents w_kinds w_personCount w_hopeDays w_hopeTenths w_hopeCount w_degreesTold) rfl rfl rfl et_syllables_2 (by decide) (by decide) (by decide) (by decide) (by decide) (Nat.le_of_ble_eq_true rfl) (Nat.le_of_ble_eq_true rfl) dX5_takeFrom_27 (fun H locs hP hD hS => ?_)
  refine lv_aload_n hx hb dX5_takeFrom_30 rfl (lv_at hl 0 rfl) ?_
  refine lv_aload_n hx hb dX5_takeFrom_31 rfl (lv_at hl 1 rfl) ?_
  refine zget S uw_X5 hE hP 10 2 rfl rfl (by decide) tw_1_36 rfl rfl dX5_takeFrom_32 ?_
  refine zput S uw_X5 tyX5_ok nmX5 hE hP hD hS 0 2 (ty := .int) (wX5 c t0 tA_numbers tA_syllables tA_days tA_words tA_parents tA_otherParents tA_kinds tA_hopeDays tA_hopeTenths t_numbers_1 t_syllables_2 w_syllableCount t_days t_words t_parents t_otherParents t_kinds t_personCount t_hopeDays t_hopeTenths t_hopeCount t_degreesTold ++ wX5 c w0 wA_numbers wA_syllables wA_days wA_words wA_parents wA_otherParents wA_kinds wA_hopeDays wA_hopeTenths w_numbers w_syllables w_syllableCount w_days w_words w_parents w_otherParents w_kinds w_personCount w_hopeDays w_hopeTenths w_hopeCount w_degreesTold) rfl rfl (by decide) tw_1_36 rfl rfl (by decide +kernel) rfl rfl (Nat.le_of_ble_eq_true rfl) rfl dX5_takeFrom_35 (fun H locs hP hD hS => ?_)
  refine lv_aload_n hx hb dX5_takeFrom_38 rfl (lv_at hl 1 rfl) ?_
  refine zget S uw_X5 hE hP 10 3 rfl rfl (by decide) tw_1_40 rfl rfl dX5_takeFrom_39 ?_
  refine lv_iconst (v := (0 : Int32)) hx hb dX5_takeFrom_42 (by decide) ?_
  refine lv_aload_n hx hb dX5_takeFrom_43 rfl (lv_at hl 0 rfl) ?_
  refine zget S uw_X5 hE hP 0 3 rfl rfl (by decide) tw_1_40 rfl rfl dX5_takeFrom_44 ?_
  refine lv_iconst (v := (0 : Int32)) hx hb dX5_takeFrom_47 (by decide) ?_
  refine lv_bipush (v := (16 : Int32)) hx hb dX5_takeFrom_48 (by decide) ?_
  obtain ⟨t_days_3, et_days_3, hf⟩ := zz_let_use hf
  refine zcpi hx hb (hml.trans hl.1.symm) hown (hts _ tw_2_59) (hts _ tw_2_61) (hts _ tw_2_60) (hts _ tw_1_9) hE hP hD hS 13 3 (wX5 c t0 tA_numbers tA_syllables tA_days tA_words tA_parents tA_otherParents tA_kinds tA_hopeDays tA_hopeTenths t_numbers_1 t_syllables_2 w_syllableCount t_days_3 t_words t_parents t_otherParents t_kinds t_personCount t_hopeDays t_hopeTenths t_hopeCount t_degreesTold ++ wX5 c w0 wA_numbers wA_syllables wA_days wA_words wA_parents wA_otherParents wA_kinds wA_hopeDays wA_hopeTenths w_numbers w_syllables w_syllableCount w_days w_words w_parents w_otherParents w_kinds w_personCount w_hopeDays w_hopeTenths w_hopeCount w_degreesTold) rfl rfl rfl et_days_3 (by decide) (by decide) (by decide) (by decide) (by decide) (Nat.le_of_ble_eq_true rfl) (Nat.le_of_ble_eq_true rfl) dX5_takeFrom_50 (fun H locs hP hD hS => ?_)
  refine lv_aload_n hx hb dX5_takeFrom_53 rfl (lv_at hl 1 rfl) ?_
  refine zget S uw_X5 hE hP 10 4 rfl rfl (by decide) tw_1_43 rfl rfl dX5_takeFrom_54 ?_
  refine lv_iconst (v := (0 : Int32)) hx hb dX5_takeFrom_57 (by decide) ?_
  refine lv_aload_n hx hb dX5_takeFrom_58 rfl (lv_at hl 0 rfl) ?_
  refine zget S uw_X5 hE hP 0 4 rfl rfl (by decide) tw_1_43 rfl rfl dX5_takeFrom_59 ?_
  refine lv_iconst (v := (0 : Int32)) hx hb dX5_takeFrom_62 (by decide) ?_
  refine lv_bipush (v := (16 : Int32)) hx hb dX5_takeFrom_63 (by decide) ?_
  obtain ⟨t_words_4, et_words_4, hf⟩ := zz_let_use hf
  refine zcpl hx hb (hml.trans hl.1.symm) hown (hts _ tw_2_59) (hts _ tw_2_61) (hts _ tw_2_60) (hts _ tw_1_9) hE hP hD hS 14 4 (wX5 c t0 tA_numbers tA_syllables tA_days tA_words tA_parents tA_otherParents tA_kinds tA_hopeDays tA_hopeTenths t_numbers_1 t_syllables_2 w_syllableCount t_days_3 t_words_4 t_parents t_otherParents t_kinds t_personCount t_hopeDays t_hopeTenths t_hopeCount t_degreesTold ++ wX5 c w0 wA_numbers wA_syllables wA_days wA_words wA_parents wA_otherParents wA_kinds wA_hopeDays wA_hopeTenths w_numbers w_syllables w_syllableCount w_days w_words w_parents w_otherParents w_kinds w_personCount w_hopeDays w_hopeTenths w_hopeCount w_degreesTold) rfl rfl rfl et_words_4 (by decide) (by decide) (by decide) (by decide) (by decide) (Nat.le_of_ble_eq_true rfl) (Nat.le_of_ble_eq_true rfl) dX5_takeFrom_65 (fun H locs hP hD hS => ?_)
  refine lv_aload_n hx hb dX5_takeFrom_68 rfl (lv_at hl 1 rfl) ?_
  refine zget S uw_X5 hE hP 10 5 rfl rfl (by decide) tw_1_47 rfl rfl dX5_takeFrom_69 ?_
  refine lv_iconst (v := (0 : Int32)) hx hb dX5_takeFrom_72 (by decide) ?_
  refine lv_aload_n hx hb dX5_takeFrom_73 rfl (lv_at hl 0 rfl) ?_
  refine zget S uw_X5 hE hP 0 5 rfl rfl (by decide) tw_1_47 rfl rfl dX5_takeFrom_74 ?_
  refine lv_iconst (v := (0 : Int32)) hx hb dX5_takeFrom_77 (by decide) ?_
  refine lv_bipush (v := (16 : Int32)) hx hb dX5_takeFrom_78 (by decide) ?_
  obtain ⟨t_parents_5, et_parents_5, hf⟩ := zz_let_use hf
  refine zcpi hx hb (hml.trans hl.1.symm) hown (hts _ tw_2_59) (hts _ tw_2_61) (hts _ tw_2_60) (hts _ tw_1_9) hE hP hD hS 15 5 (wX5 c t0 tA_numbers tA_syllables tA_days tA_words tA_parents tA_otherParents tA_kinds tA_hopeDays tA_hopeTenths t_numbers_1 t_syllables_2 w_syllableCount t_days_3 t_words_4 t_parents_5 t_otherParents t_kinds t_personCount t_hopeDays t_hopeTenths t_hopeCount t_degreesTold ++ wX5 c w0 wA_numbers wA_syllables wA_days wA_words wA_parents wA_otherParents wA_kinds wA_hopeDays wA_hopeTenths w_numbers w_syllables w_syllableCount w_days w_words w_parents w_otherParents w_kinds w_personCount w_hopeDays w_hopeTenths w_hopeCount w_degreesTold) rfl rfl rfl et_parents_5 (by decide) (by decide) (by decide) (by decide) (by decide) (Nat.le_of_ble_eq_true rfl) (Nat.le_of_ble_eq_true rfl) dX5_takeFrom_80 (fun H locs hP hD hS => ?_)
  refine lv_aload_n hx hb dX5_takeFrom_83 rfl (lv_at hl 1 rfl) ?_
  refine zget S uw_X5 hE hP 10 6 rfl rfl (by decide) tw_1_49 rfl rfl dX5_takeFrom_84 ?_
  refine lv_iconst (v := (0 : Int32)) hx hb dX5_takeFrom_87 (by decide) ?_
  refine lv_aload_n hx hb dX5_takeFrom_88 rfl (lv_at hl 0 rfl) ?_
  refine zget S uw_X5 hE hP 0 6 rfl rfl (by decide) tw_1_49 rfl rfl dX5_takeFrom_89 ?_
  refine lv_iconst (v := (0 : Int32)) hx hb dX5_takeFrom_92 (by decide) ?_
  refine lv_bipush (v := (16 : Int32)) hx hb dX5_takeFrom_93 (by decide) ?_
  obtain ⟨t_otherParents_6, et_otherParents_6, hf⟩ := zz_let_use hf
  refine zcpi hx hb (hml.trans hl.1.symm) hown (hts _ tw_2_59) (hts _ tw_2_61) (hts _ tw_2_60) (hts _ tw_1_9) hE hP hD hS 16 6 (wX5 c t0 tA_numbers tA_syllables tA_days tA_words tA_parents tA_otherParents tA_kinds tA_hopeDays tA_hopeTenths t_numbers_1 t_syllables_2 w_syllableCount t_days_3 t_words_4 t_parents_5 t_otherParents_6 t_kinds t_personCount t_hopeDays t_hopeTenths t_hopeCount t_degreesTold ++ wX5 c w0 wA_numbers wA_syllables wA_days wA_words wA_parents wA_otherParents wA_kinds wA_hopeDays wA_hopeTenths w_numbers w_syllables w_syllableCount w_days w_words w_parents w_otherParents w_kinds w_personCount w_hopeDays w_hopeTenths w_hopeCount w_degreesTold) rfl rfl rfl et_otherParents_6 (by decide) (by decide) (by decide) (by decide) (by decide) (Nat.le_of_ble_eq_true rfl) (Nat.le_of_ble_eq_true rfl) dX5_takeFrom_95 (fun H locs hP hD hS => ?_)
  refine lv_aload_n hx hb dX5_takeFrom_98 rfl (lv_at hl 1 rfl) ?_
  refine zget S uw_X5 hE hP 10 7 rfl rfl (by decide) tw_1_51 rfl rfl dX5_takeFrom_99 ?_
  refine lv_iconst (v := (0 : Int32)) hx hb dX5_takeFrom_102 (by decide) ?_
  refine lv_aload_n hx hb dX5_takeFrom_103 rfl (lv_at hl 0 rfl) ?_
  refine zget S uw_X5 hE hP 0 7 rfl rfl (by decide) tw_1_51 rfl rfl dX5_takeFrom_104 ?_
  refine lv_iconst (v := (0 : Int32)) hx hb dX5_takeFrom_107 (by decide) ?_
  refine lv_bipush (v := (16 : Int32)) hx hb dX5_takeFrom_108 (by decide) ?_
  obtain ⟨t_kinds_7, et_kinds_7, hf⟩ := zz_let_use hf
  refine zcpi hx hb (hml.trans hl.1.symm) hown (hts _ tw_2_59) (hts _ tw_2_61) (hts _ tw_2_60) (hts _ tw_1_9) hE hP hD hS 17 7 (wX5 c t0 tA_numbers tA_syllables tA_days tA_words tA_parents tA_otherParents tA_kinds tA_hopeDays tA_hopeTenths t_numbers_1 t_syllables_2 w_syllableCount t_days_3 t_words_4 t_parents_5 t_otherParents_6 t_kinds_7 t_personCount t_hopeDays t_hopeTenths t_hopeCount t_degreesTold ++ wX5 c w0 wA_numbers wA_syllables wA_days wA_words wA_parents wA_otherParents wA_kinds wA_hopeDays wA_hopeTenths w_numbers w_syllables w_syllableCount w_days w_words w_parents w_otherParents w_kinds w_personCount w_hopeDays w_hopeTenths w_hopeCount w_degreesTold) rfl rfl rfl et_kinds_7 (by decide) (by decide) (by decide) (by decide) (by decide) (Nat.le_of_ble_eq_true rfl) (Nat.le_of_ble_eq_true rfl) dX5_takeFrom_110 (fun H locs hP hD hS => ?_)
  refine lv_aload_n hx hb dX5_takeFrom_113 rfl (lv_at hl 0 rfl) ?_
  refine lv_aload_n hx hb dX5_takeFrom_114 rfl (lv_at hl 1 rfl) ?_
  refine zget S uw_X5 hE hP 10 8 rfl rfl (by decide) tw_1_53 rfl rfl dX5_takeFrom_115 ?_
  refine zput S uw_X5 tyX5_ok nmX5 hE hP hD hS 0 8 (ty := .int) (wX5 c t0 tA_numbers tA_syllables tA_days tA_words tA_parents tA_otherParents tA_kinds tA_hopeDays tA_hopeTenths t_numbers_1 t_syllables_2 w_syllableCount t_days_3 t_words_4 t_parents_5 t_otherParents_6 t_kinds_7 w_personCount t_hopeDays t_hopeTenths t_hopeCount t_degreesTold ++ wX5 c w0 wA_numbers wA_syllables wA_days wA_words wA_parents wA_otherParents wA_kinds wA_hopeDays wA_hopeTenths w_numbers w_syllables w_syllableCount w_days w_words w_parents w_otherParents w_kinds w_personCount w_hopeDays w_hopeTenths w_hopeCount w_degreesTold) rfl rfl (by decide) tw_1_53 rfl rfl (by decide +kernel) rfl rfl (Nat.le_of_ble_eq_true rfl) rfl dX5_takeFrom_118 (fun H locs hP hD hS => ?_)
  refine lv_aload_n hx hb dX5_takeFrom_121 rfl (lv_at hl 1 rfl) ?_
  refine zget S uw_X5 hE hP 10 9 rfl rfl (by decide) tw_1_57 rfl rfl dX5_takeFrom_122 ?_
  refine lv_iconst (v := (0 : Int32)) hx hb dX5_takeFrom_125 (by decide) ?_
  refine lv_aload_n hx hb dX5_takeFrom_126 rfl (lv_at hl 0 rfl) ?_
  refine zget S uw_X5 hE hP 0 9 rfl rfl (by decide) tw_1_57 rfl rfl dX5_takeFrom_127 ?_
  refine lv_iconst (v := (0 : Int32)) hx hb dX5_takeFrom_130 (by decide) ?_
  refine lv_bipush (v := (6 : Int32)) hx hb dX5_takeFrom_131 (by decide) ?_
  obtain ⟨t_hopeDays_8, et_hopeDays_8, hf⟩ := zz_let_use hf
  refine zcpi hx hb (hml.trans hl.1.symm) hown (hts _ tw_2_59) (hts _ tw_2_61) (hts _ tw_2_60) (hts _ tw_1_9) hE hP hD hS 18 8 (wX5 c t0 tA_numbers tA_syllables tA_days tA_words tA_parents tA_otherParents tA_kinds tA_hopeDays tA_hopeTenths t_numbers_1 t_syllables_2 w_syllableCount t_days_3 t_words_4 t_parents_5 t_otherParents_6 t_kinds_7 w_personCount t_hopeDays_8 t_hopeTenths t_hopeCount t_degreesTold ++ wX5 c w0 wA_numbers wA_syllables wA_days wA_words wA_parents wA_otherParents wA_kinds wA_hopeDays wA_hopeTenths w_numbers w_syllables w_syllableCount w_days w_words w_parents w_otherParents w_kinds w_personCount w_hopeDays w_hopeTenths w_hopeCount w_degreesTold) rfl rfl rfl et_hopeDays_8 (by decide) (by decide) (by decide) (by decide) (by decide) (Nat.le_of_ble_eq_true rfl) (Nat.le_of_ble_eq_true rfl) dX5_takeFrom_133 (fun H locs hP hD hS => ?_)
  refine lv_aload_n hx hb dX5_takeFrom_136 rfl (lv_at hl 1 rfl) ?_
  refine zget S uw_X5 hE hP 10 10 rfl rfl (by decide) tw_1_59 rfl rfl dX5_takeFrom_137 ?_
  refine lv_iconst (v := (0 : Int32)) hx hb dX5_takeFrom_140 (by decide) ?_
  refine lv_aload_n hx hb dX5_takeFrom_141 rfl (lv_at hl 0 rfl) ?_
  refine zget S uw_X5 hE hP 0 10 rfl rfl (by decide) tw_1_59 rfl rfl dX5_takeFrom_142 ?_
  refine lv_iconst (v := (0 : Int32)) hx hb dX5_takeFrom_145 (by decide) ?_
  refine lv_bipush (v := (6 : Int32)) hx hb dX5_takeFrom_146 (by decide) ?_
  obtain ⟨t_hopeTenths_9, et_hopeTenths_9, hf⟩ := zz_let_use hf
  refine zcpi hx hb (hml.trans hl.1.symm) hown (hts _ tw_2_59) (hts _ tw_2_61) (hts _ tw_2_60) (hts _ tw_1_9) hE hP hD hS 19 9 (wX5 c t0 tA_numbers tA_syllables tA_days tA_words tA_parents tA_otherParents tA_kinds tA_hopeDays tA_hopeTenths t_numbers_1 t_syllables_2 w_syllableCount t_days_3 t_words_4 t_parents_5 t_otherParents_6 t_kinds_7 w_personCount t_hopeDays_8 t_hopeTenths_9 t_hopeCount t_degreesTold ++ wX5 c w0 wA_numbers wA_syllables wA_days wA_words wA_parents wA_otherParents wA_kinds wA_hopeDays wA_hopeTenths w_numbers w_syllables w_syllableCount w_days w_words w_parents w_otherParents w_kinds w_personCount w_hopeDays w_hopeTenths w_hopeCount w_degreesTold) rfl rfl rfl et_hopeTenths_9 (by decide) (by decide) (by decide) (by decide) (by decide) (Nat.le_of_ble_eq_true rfl) (Nat.le_of_ble_eq_true rfl) dX5_takeFrom_148 (fun H locs hP hD hS => ?_)
  refine lv_aload_n hx hb dX5_takeFrom_151 rfl (lv_at hl 0 rfl) ?_
  refine lv_aload_n hx hb dX5_takeFrom_152 rfl (lv_at hl 1 rfl) ?_
  refine zget S uw_X5 hE hP 10 11 rfl rfl (by decide) tw_1_61 rfl rfl dX5_takeFrom_153 ?_
  refine zput S uw_X5 tyX5_ok nmX5 hE hP hD hS 0 11 (ty := .int) (wX5 c t0 tA_numbers tA_syllables tA_days tA_words tA_parents tA_otherParents tA_kinds tA_hopeDays tA_hopeTenths t_numbers_1 t_syllables_2 w_syllableCount t_days_3 t_words_4 t_parents_5 t_otherParents_6 t_kinds_7 w_personCount t_hopeDays_8 t_hopeTenths_9 w_hopeCount t_degreesTold ++ wX5 c w0 wA_numbers wA_syllables wA_days wA_words wA_parents wA_otherParents wA_kinds wA_hopeDays wA_hopeTenths w_numbers w_syllables w_syllableCount w_days w_words w_parents w_otherParents w_kinds w_personCount w_hopeDays w_hopeTenths w_hopeCount w_degreesTold) rfl rfl (by decide) tw_1_61 rfl rfl (by decide +kernel) rfl rfl (Nat.le_of_ble_eq_true rfl) rfl dX5_takeFrom_156 (fun H locs hP hD hS => ?_)
  refine lv_aload_n hx hb dX5_takeFrom_159 rfl (lv_at hl 0 rfl) ?_
  refine lv_aload_n hx hb dX5_takeFrom_160 rfl (lv_at hl 1 rfl) ?_
  refine zget S uw_X5 hE hP 10 12 rfl rfl (by decide) tw_1_64 rfl rfl dX5_takeFrom_161 ?_
  refine zput S uw_X5 tyX5_ok nmX5 hE hP hD hS 0 12 (ty := .int) (wX5 c t0 tA_numbers tA_syllables tA_days tA_words tA_parents tA_otherParents tA_kinds tA_hopeDays tA_hopeTenths t_numbers_1 t_syllables_2 w_syllableCount t_days_3 t_words_4 t_parents_5 t_otherParents_6 t_kinds_7 w_personCount t_hopeDays_8 t_hopeTenths_9 w_hopeCount w_degreesTold ++ wX5 c w0 wA_numbers wA_syllables wA_days wA_words wA_parents wA_otherParents wA_kinds wA_hopeDays wA_hopeTenths w_numbers w_syllables w_syllableCount w_days w_words w_parents w_otherParents w_kinds w_personCount w_hopeDays w_hopeTenths w_hopeCount w_degreesTold) rfl rfl (by decide) tw_1_64 rfl rfl (by decide +kernel) rfl rfl (Nat.le_of_ble_eq_true rfl) rfl dX5_takeFrom_164 (fun H locs hP hD hS => ?_)
  cases hf
  exact zRWv hQ hx hb hr hlk hP hD hS dX5_takeFrom_167
def f_X6_isDay (N : Nat) (p0 : Int32) : Option (Int32) := (if p0 < (1 : Int32) then (some (0 : Int32)) else (if (400 : Int32) < p0 then (some (0 : Int32)) else (some (1 : Int32))))
abbrev rm_X6_isDay : Room := { frames := 0, cells := 0, slots := 0, locals := 0 }
theorem mi_X6_isDay : zMS yX6_isDay cX6_isDay 1 (some .boolean) 1 := ⟨⟨tw_3_100, tw_1_1, tw_3_101⟩, by decide +kernel, by decide +kernel, by decide +kernel⟩
set_option maxHeartbeats 4000000 in
set_option maxRecDepth 100000 in
theorem k_X6_isDay (l : Launch) (D : va_G) (c : Nat → ClassId) (N : Nat)  (p0 : Int32) (o : Int32) (hf : f_X6_isDay N p0 = some o) : zMPi l D c yX6_isDay cX6_isDay 1 (some .boolean) rm_X6_isDay ([] : va_W) [.int p0] o := by
  refine zIP (by decide) (Nat.le_of_ble_eq_true rfl) ?_
  intro p e s m args below meth c0 Q hQ hx hb hr hlk hml hts hown hP hE hX hS ls hl
  have S : CallFix p m c0 cX6_isDay 1 s args zT RX6 := ⟨hx, hb, hml, hown, hts⟩
  have hl : lv_has ls 1 [(0, .int p0)] := hl
  unfold f_X6_isDay at hf
  refine lv_iload_n hx hb dX6_isDay_0 rfl (lv_at hl 0 rfl) ?_
  refine lv_iconst (v := (1 : Int32)) hx hb dX6_isDay_1 (by decide) ?_
  refine lv_icmp_lt (tgt := 16) hx hb dX6_isDay_2 (by decide) (fun hc_1 => ?_) (fun hc_1 => ?_)
  · have hf := zz_it hf hc_1
    refine lv_iconst (v := (0 : Int32)) hx hb dX6_isDay_16 (by decide) ?_
    exact zRPz hQ hx hb hr hlk rfl (Option.some.inj hf) dX6_isDay_17
  · have hf := zz_if hf hc_1
    refine lv_iload_n hx hb dX6_isDay_5 rfl (lv_at hl 0 rfl) ?_
    refine lv_sipush (v := (400 : Int32)) hx hb dX6_isDay_6 (by decide) ?_
    refine lv_icmp_gt (tgt := 16) hx hb dX6_isDay_9 (by decide) (fun hc_2 => ?_) (fun hc_2 => ?_)
    · have hf := zz_it hf hc_2
      refine lv_iconst (v := (0 : Int32)) hx hb dX6_isDay_16 (by decide) ?_
      exact zRPz hQ hx hb hr hlk rfl (Option.some.inj hf) dX6_isDay_17
    · have hf := zz_if hf hc_2
      refine lv_iconst (v := (1 : Int32)) hx hb dX6_isDay_12 (by decide) ?_
      refine lv_goto (tgt := 17) hx hb dX6_isDay_13 (by decide) ?_
      exact zRPz hQ hx hb hr hlk rfl (Option.some.inj hf) dX6_isDay_17
def f_X5_isPerson (N : Nat) (t_personCount : Int32) (p1 : Int32) : Option (Int32) := (if p1 < 0 then (some (0 : Int32)) else (if t_personCount ≤ p1 then (some (0 : Int32)) else (some (1 : Int32))))
abbrev rm_X5_isPerson : Room := { frames := 0, cells := 0, slots := 0, locals := 0 }
theorem mi_X5_isPerson : zMI RX5 yX5_isPerson cX5_isPerson 2 (some .boolean) 1 := ⟨⟨tw_2_239, tw_3_0, tw_1_2, tw_3_1⟩, by decide +kernel, by decide +kernel, by decide +kernel⟩
set_option maxHeartbeats 4000000 in
set_option maxRecDepth 100000 in
theorem k_X5_isPerson (l : Launch) (D : va_G) (c : Nat → ClassId) (N : Nat) (t0 : Nat) (tA_numbers : Nat) (tA_syllables : Nat) (tA_days : Nat) (tA_words : Nat) (tA_parents : Nat) (tA_otherParents : Nat) (tA_kinds : Nat) (tA_hopeDays : Nat) (tA_hopeTenths : Nat) (t_numbers : Nat → Int32) (t_syllables : Nat → Int64) (t_syllableCount : Int32) (t_days : Nat → Int32) (t_words : Nat → Int64) (t_parents : Nat → Int32) (t_otherParents : Nat → Int32) (t_kinds : Nat → Int32) (t_personCount : Int32) (t_hopeDays : Nat → Int32) (t_hopeTenths : Nat → Int32) (t_hopeCount : Int32) (t_degreesTold : Int32) (p1 : Int32) (o : Int32) (hf : f_X5_isPerson N t_personCount p1 = some o) : zMPi l D c yX5_isPerson cX5_isPerson 2 (some .boolean) rm_X5_isPerson (wX5 c t0 tA_numbers tA_syllables tA_days tA_words tA_parents tA_otherParents tA_kinds tA_hopeDays tA_hopeTenths t_numbers t_syllables t_syllableCount t_days t_words t_parents t_otherParents t_kinds t_personCount t_hopeDays t_hopeTenths t_hopeCount t_degreesTold) [.ref t0, .int p1] o := by
  refine zIP (by decide) (Nat.le_of_ble_eq_true rfl) ?_
  intro p e s m args below meth c0 Q hQ hx hb hr hlk hml hts hown hP hE hX hS ls hl
  have S : CallFix p m c0 cX5_isPerson 2 s args zT RX5 := ⟨hx, hb, hml, hown, hts⟩
  have hl : lv_has ls 2 [(0, .ref t0), (1, .int p1)] := hl
  unfold f_X5_isPerson at hf
  refine lv_iload_n hx hb dX5_isPerson_0 rfl (lv_at hl 1 rfl) ?_
  refine lv_if_lt (tgt := 16) hx hb dX5_isPerson_1 (by decide) (fun hc_1 => ?_) (fun hc_1 => ?_)
  · have hf := zz_it hf hc_1
    refine lv_iconst (v := (0 : Int32)) hx hb dX5_isPerson_16 (by decide) ?_
    exact zRPz hQ hx hb hr hlk rfl (Option.some.inj hf) dX5_isPerson_17
  · have hf := zz_if hf hc_1
    refine lv_iload_n hx hb dX5_isPerson_4 rfl (lv_at hl 1 rfl) ?_
    refine lv_aload_n hx hb dX5_isPerson_5 rfl (lv_at hl 0 rfl) ?_
    refine zget S uw_X5 hE hP 0 8 rfl rfl (by decide) tw_1_53 rfl rfl dX5_isPerson_6 ?_
    refine lv_icmp_ge (tgt := 16) hx hb dX5_isPerson_9 (by decide) (fun hc_2 => ?_) (fun hc_2 => ?_)
    · have hf := zz_it hf hc_2
      refine lv_iconst (v := (0 : Int32)) hx hb dX5_isPerson_16 (by decide) ?_
      exact zRPz hQ hx hb hr hlk rfl (Option.some.inj hf) dX5_isPerson_17
    · have hf := zz_if hf hc_2
      refine lv_iconst (v := (1 : Int32)) hx hb dX5_isPerson_12 (by decide) ?_
      refine lv_goto (tgt := 17) hx hb dX5_isPerson_13 (by decide) ?_
      exact zRPz hQ hx hb hr hlk rfl (Option.some.inj hf) dX5_isPerson_17
def f_X5_isParted_L22 (N : Nat) (k_3 : Option (Int32)) (self : (Nat → Int64) → (Int32) → (Int64) → (Int32) → Option (Int32)) (t_syllables : Nat → Int64) (t_syllableCount : Int32) (p1 : Int64) (p3 : Int32) : Nat → (Int64) → (Int32) → Option (Int32)
  | 0, _, _ => none
  | n_3 + 1, v4_4, v6_5 => (if (3 : Int32) < v6_5 then k_3 else zz_gd (zz_nzL v4_4) (zz_b1 (f_X5_isSyllable N t_syllables t_syllableCount (p1 - p1 / v4_4 * v4_4)) (fun r_8 => zz_let (zz_let (v4_4 * (27 : Int64)) (fun v4_13 => zz_let (v6_5 + (1 : Int32)) (fun v6_14 => (f_X5_isParted_L22 N k_3 self t_syllables t_syllableCount p1 p3 n_3 v4_13 v6_14)))) (fun k_12 => (if r_8 = 0 then k_12 else zz_b1 (self t_syllables t_syllableCount (p1 / v4_4) (p3 - (1 : Int32))) (fun r_10 => (if r_10 = 0 then k_12 else (some (1 : Int32)))))))))
theorem f_X5_isParted_L22_s (N : Nat) (k_3 : Option (Int32)) (self : (Nat → Int64) → (Int32) → (Int64) → (Int32) → Option (Int32)) (t_syllables : Nat → Int64) (t_syllableCount : Int32) (p1 : Int64) (p3 : Int32) (n_3 : Nat) (v4_4 : Int64) (v6_5 : Int32) : f_X5_isParted_L22 N k_3 self t_syllables t_syllableCount p1 p3 (n_3 + 1) v4_4 v6_5 = (if (3 : Int32) < v6_5 then k_3 else zz_gd (zz_nzL v4_4) (zz_b1 (f_X5_isSyllable N t_syllables t_syllableCount (p1 - p1 / v4_4 * v4_4)) (fun r_8 => zz_let (zz_let (v4_4 * (27 : Int64)) (fun v4_13 => zz_let (v6_5 + (1 : Int32)) (fun v6_14 => (f_X5_isParted_L22 N k_3 self t_syllables t_syllableCount p1 p3 n_3 v4_13 v6_14)))) (fun k_12 => (if r_8 = 0 then k_12 else zz_b1 (self t_syllables t_syllableCount (p1 / v4_4) (p3 - (1 : Int32))) (fun r_10 => (if r_10 = 0 then k_12 else (some (1 : Int32))))))))) := rfl
def f_X5_isParted (N : Nat) : Nat → (Nat → Int64) → (Int32) → (Int64) → (Int32) → Option (Int32)
  | 0, _, _, _, _ => none
  | dd + 1, t_syllables, t_syllableCount, p1, p3 => (if p1 = (0 : Int64) then (some (1 : Int32)) else (if p3 = 0 then (some (0 : Int32)) else zz_let ((some (0 : Int32))) (fun k_3 => f_X5_isParted_L22 N k_3 (f_X5_isParted N dd) t_syllables t_syllableCount p1 p3 N (27 : Int64) (1 : Int32))))
theorem f_X5_isParted_s (N dd : Nat) (t_syllables : Nat → Int64) (t_syllableCount : Int32) (p1 : Int64) (p3 : Int32) : f_X5_isParted N (dd + 1) t_syllables t_syllableCount p1 p3 = (if p1 = (0 : Int64) then (some (1 : Int32)) else (if p3 = 0 then (some (0 : Int32)) else zz_let ((some (0 : Int32))) (fun k_3 => f_X5_isParted_L22 N k_3 (f_X5_isParted N dd) t_syllables t_syllableCount p1 p3 N (27 : Int64) (1 : Int32)))) := rfl
abbrev rm_X5_isParted (dd : Nat) : Room := { frames := dd + 1, cells := 0, slots := 0, locals := dd * 26 + 23 }
theorem mi_X5_isParted : zMI RX5 yX5_isParted cX5_isParted 7 (some .boolean) 2 := ⟨⟨tw_3_70, ts_X5_isParted, tw_1_2, tw_3_71⟩, by decide +kernel, by decide +kernel, by decide +kernel⟩
set_option maxHeartbeats 4000000 in
set_option maxRecDepth 100000 in
theorem k_X5_isParted (l : Launch) (D : va_G) (c : Nat → ClassId) (N : Nat) : ∀ (dd : Nat) (t0 : Nat) (tA_numbers : Nat) (tA_syllables : Nat) (tA_days : Nat) (tA_words : Nat) (tA_parents : Nat) (tA_otherParents : Nat) (tA_kinds : Nat) (tA_hopeDays : Nat) (tA_hopeTenths : Nat) (t_numbers : Nat → Int32) (t_syllables : Nat → Int64) (t_syllableCount : Int32) (t_days : Nat → Int32) (t_words : Nat → Int64) (t_parents : Nat → Int32) (t_otherParents : Nat → Int32) (t_kinds : Nat → Int32) (t_personCount : Int32) (t_hopeDays : Nat → Int32) (t_hopeTenths : Nat → Int32) (t_hopeCount : Int32) (t_degreesTold : Int32) (p1 : Int64) (p3 : Int32) (o : Int32) (hf : f_X5_isParted N dd t_syllables t_syllableCount p1 p3 = some o), zMPi l D c yX5_isParted cX5_isParted 7 (some .boolean) (rm_X5_isParted dd) (wX5 c t0 tA_numbers tA_syllables tA_days tA_words tA_parents tA_otherParents tA_kinds tA_hopeDays tA_hopeTenths t_numbers t_syllables t_syllableCount t_days t_words t_parents t_otherParents t_kinds t_personCount t_hopeDays t_hopeTenths t_hopeCount t_degreesTold) [.ref t0, .long p1, .int p3] o := by
  intro dd
  induction dd with
  | zero => intro t0 tA_numbers tA_syllables tA_days tA_words tA_parents tA_otherParents tA_kinds tA_hopeDays tA_hopeTenths t_numbers t_syllables t_syllableCount t_days t_words t_parents t_otherParents t_kinds t_personCount t_hopeDays t_hopeTenths t_hopeCount t_degreesTold p1 p3 o hf; exact zz_none hf
  | succ dd ihd =>
    intro t0 tA_numbers tA_syllables tA_days tA_words tA_parents tA_otherParents tA_kinds tA_hopeDays tA_hopeTenths t_numbers t_syllables t_syllableCount t_days t_words t_parents t_otherParents t_kinds t_personCount t_hopeDays t_hopeTenths t_hopeCount t_degreesTold p1 p3 o hf
    refine zIP (by decide) (Nat.le_of_ble_eq_true rfl) ?_
    intro p e s m args below meth c0 Q hQ hx hb hr hlk hml hts hown hP hE hX hS ls hl
    have S : CallFix p m c0 cX5_isParted 7 s args zT RX5 := ⟨hx, hb, hml, hown, hts⟩
    have hl : lv_has ls 7 [(0, .ref t0), (1, .long p1), (3, .int p3)] := hl
    rw [f_X5_isParted_s] at hf
    refine lv_lload_n hx hb dX5_isParted_0 rfl (lv_at hl 1 rfl) ?_
    refine lv_lconst (v := (0 : Int64)) hx hb dX5_isParted_1 (by decide) ?_
    refine zlc_ne (tgt := 8) hx hb dX5_isParted_2 dX5_isParted_3 (by decide) (fun hc_1 => ?_) (fun hc_1 => ?_)
    · have hf := zz_if hf hc_1
      refine lv_iload_n hx hb dX5_isParted_8 rfl (lv_at hl 2 rfl) ?_
      refine lv_if_ne (tgt := 14) hx hb dX5_isParted_9 (by decide) (fun hc_2 => ?_) (fun hc_2 => ?_)
      · have hf := zz_if hf hc_2
        refine lv_ldc2 (v := (27 : Int64)) hx hb hown (hts _ tw_3_54) dX5_isParted_14 ?_
        refine lv_lstore (lv' := [(4, .long (27 : Int64)), (0, .ref t0), (1, .long p1), (3, .int p3)]) hx hb dX5_isParted_17 hl (by decide) rfl (fun ls hl => ?_)
        refine lv_iconst (v := (1 : Int32)) hx hb dX5_isParted_19 (by decide) ?_
        refine lv_istore (lv' := [(6, .int (1 : Int32)), (4, .long (27 : Int64)), (0, .ref t0), (1, .long p1), (3, .int p3)]) hx hb dX5_isParted_20 hl (by decide) rfl (fun ls hl => ?_)
        obtain ⟨k_3, hk_3, hf⟩ := zz_let_use hf
        have hX_3 : ∀ (ls : Array Slot), k_3 = some o → lv_has ls 7 [] → W p l e (rm_X5_isParted (dd + 1)) s m args below meth c0 s.heap [] 0 0 Q (F0 m 69 ls []) := by
          intro ls hf hl
          subst hk_3
          refine lv_iconst (v := (0 : Int32)) hx hb dX5_isParted_69 (by decide) ?_
          exact zRPz hQ hx hb hr hlk rfl (Option.some.inj hf) dX5_isParted_70
        have hL_3 : ∀ (n_3 : Nat) (v4_4 : Int64) (v6_5 : Int32) (ls : Array Slot), f_X5_isParted_L22 N k_3 (f_X5_isParted N dd) t_syllables t_syllableCount p1 p3 n_3 v4_4 v6_5 = some o → lv_has ls 7 [(0, .ref t0), (1, .long p1), (3, .int p3), (4, .long v4_4), (6, .int v6_5)] → W p l e (rm_X5_isParted (dd + 1)) s m args below meth c0 s.heap [] 0 0 Q (F0 m 22 ls []) := by
          intro n_3
          induction n_3 with
          | zero => intro v4_4 v6_5 ls hf hl; exact zz_none hf
          | succ n_3 ih_3 =>
            intro v4_4 v6_5 ls hf hl
            rw [f_X5_isParted_L22_s] at hf
            refine lv_iload hx hb dX5_isParted_22 (lv_at hl 4 rfl) ?_
            refine lv_iconst (v := (3 : Int32)) hx hb dX5_isParted_24 (by decide) ?_
            refine lv_icmp_gt (tgt := 69) hx hb dX5_isParted_25 (by decide) (fun hc_6 => ?_) (fun hc_6 => ?_)
            · have hf := zz_it hf hc_6
              exact hX_3 ls hf (lv_sub hl [] rfl)
            · have hf := zz_if hf hc_6
              refine lv_aload_n hx hb dX5_isParted_28 rfl (lv_at hl 0 rfl) ?_
              refine lv_lload_n hx hb dX5_isParted_29 rfl (lv_at hl 1 rfl) ?_
              refine lv_lload hx hb dX5_isParted_30 (lv_at hl 3 rfl) ?_
              obtain ⟨hnz_7, hf⟩ := zz_gd_use hf
              refine lv_lrem hx hb dX5_isParted_32 (zz_nzL_ok hnz_7) ?_
              obtain ⟨r_8, he_8, hf⟩ := zz_b1_use hf
              refine zcVi (As := [.long (p1 - p1 / v4_4 * v4_4)]) (rest := []) S (k_X5_isSyllable l D c N t0 tA_numbers tA_syllables tA_days tA_words tA_parents tA_otherParents tA_kinds tA_hopeDays tA_hopeTenths t_numbers t_syllables t_syllableCount t_days t_words t_parents t_otherParents t_kinds t_personCount t_hopeDays t_hopeTenths t_hopeCount t_degreesTold (p1 - p1 / v4_4 * v4_4) r_8 he_8) mi_X5_isSyllable tw_2_159 ⟨by show 0 + 1 ≤ (dd + 1) + 1; omega, by show 8 + (4 + 11) + 0 ≤ (dd + 1) * 26 + 23; omega⟩ ⟨rfl, rfl⟩ hP hE hX hS (ci := 5) rfl rfl (q0 := 0) rfl rfl hl.1 rfl (Nat.le_of_ble_eq_true rfl) dX5_isParted_33 ⟨(Nat.le_of_ble_eq_true rfl), (Nat.le_of_ble_eq_true rfl)⟩ ?_
              obtain ⟨k_12, hk_12, hf⟩ := zz_let_use hf
              have hJ_12 : ∀ (ls : Array Slot), k_12 = some o → lv_has ls 7 [(0, .ref t0), (1, .long p1), (3, .int p3), (4, .long v4_4), (6, .int v6_5)] → W p l e (rm_X5_isParted (dd + 1)) s m args below meth c0 s.heap [] 0 0 Q (F0 m 55 ls []) := by
                intro ls hf hl
                subst hk_12
                refine lv_lload hx hb dX5_isParted_55 (lv_at hl 3 rfl) ?_
                refine lv_ldc2 (v := (27 : Int64)) hx hb hown (hts _ tw_3_54) dX5_isParted_57 ?_
                refine lv_lmul hx hb dX5_isParted_60 ?_
                obtain ⟨v4_13, ev4_13, hf⟩ := zz_let_use hf
                refine ztl ev4_13 ?_
                refine lv_lstore (lv' := [(4, .long v4_13), (0, .ref t0), (1, .long p1), (3, .int p3), (6, .int v6_5)]) hx hb dX5_isParted_61 hl (by decide) rfl (fun ls hl => ?_)
                obtain ⟨v6_14, ev6_14, hf⟩ := zz_let_use hf
                refine lv_iinc (v := v6_14) (lv' := [(6, .int v6_14), (4, .long v4_13), (0, .ref t0), (1, .long p1), (3, .int p3)]) hx hb dX5_isParted_63 hl (k := 4) rfl (by rw [← ev6_14]; rfl) (by decide) rfl (fun ls hl => ?_)
                refine lv_goto (tgt := 22) hx hb dX5_isParted_66 (by decide) ?_
                exact ih_3 v4_13 v6_14 ls hf (lv_sub hl [2, 3, 4, 1, 0] rfl)
              refine lv_if_eq (tgt := 55) hx hb dX5_isParted_36 (by decide) (fun hc_9 => ?_) (fun hc_9 => ?_)
              · have hf := zz_it hf hc_9
                exact hJ_12 ls hf (lv_sub hl [0, 1, 2, 3, 4] rfl)
              · have hf := zz_if hf hc_9
                refine lv_aload_n hx hb dX5_isParted_39 rfl (lv_at hl 0 rfl) ?_
                refine lv_lload_n hx hb dX5_isParted_40 rfl (lv_at hl 1 rfl) ?_
                refine lv_lload hx hb dX5_isParted_41 (lv_at hl 3 rfl) ?_
                refine lv_ldiv hx hb dX5_isParted_43 (zz_nzL_ok hnz_7) ?_
                refine lv_iload_n hx hb dX5_isParted_44 rfl (lv_at hl 2 rfl) ?_
                refine lv_iconst (v := (1 : Int32)) hx hb dX5_isParted_45 (by decide) ?_
                refine lv_isub hx hb dX5_isParted_46 ?_
                obtain ⟨r_10, he_10, hf⟩ := zz_b1_use hf
                refine zcVi (As := [.long (p1 / v4_4), .int (p3 - (1 : Int32))]) (rest := []) S (ihd t0 tA_numbers tA_syllables tA_days tA_words tA_parents tA_otherParents tA_kinds tA_hopeDays tA_hopeTenths t_numbers t_syllables t_syllableCount t_days t_words t_parents t_otherParents t_kinds t_personCount t_hopeDays t_hopeTenths t_hopeCount t_degreesTold (p1 / v4_4) (p3 - (1 : Int32)) r_10 he_10) mi_X5_isParted tw_3_68 ⟨by show (dd + 1) + 1 ≤ (dd + 1) + 1; omega, by show 8 + (7 + 11) + (dd * 26 + 23) ≤ (dd + 1) * 26 + 23; omega⟩ ⟨rfl, rfl⟩ hP hE hX hS (ci := 5) rfl rfl (q0 := 0) rfl rfl hl.1 rfl (Nat.le_of_ble_eq_true rfl) dX5_isParted_47 ⟨(Nat.le_of_ble_eq_true rfl), (Nat.le_of_ble_eq_true rfl)⟩ ?_
                refine lv_if_eq (tgt := 55) hx hb dX5_isParted_50 (by decide) (fun hc_11 => ?_) (fun hc_11 => ?_)
                · have hf := zz_it hf hc_11
                  exact hJ_12 ls hf (lv_sub hl [0, 1, 2, 3, 4] rfl)
                · have hf := zz_if hf hc_11
                  refine lv_iconst (v := (1 : Int32)) hx hb dX5_isParted_53 (by decide) ?_
                  exact zRPz hQ hx hb hr hlk rfl (Option.some.inj hf) dX5_isParted_54
        exact hL_3 N (27 : Int64) (1 : Int32) ls hf (lv_sub hl [2, 3, 4, 1, 0] rfl)
      · have hf := zz_it hf hc_2
        refine lv_iconst (v := (0 : Int32)) hx hb dX5_isParted_12 (by decide) ?_
        exact zRPz hQ hx hb hr hlk rfl (Option.some.inj hf) dX5_isParted_13
    · have hf := zz_it hf hc_1
      refine lv_iconst (v := (1 : Int32)) hx hb dX5_isParted_6 (by decide) ?_
      exact zRPz hQ hx hb hr hlk rfl (Option.some.inj hf) dX5_isParted_7
def f_X5_isName (N : Nat) (t_numbers : Nat → Int32) (t_syllables : Nat → Int64) (t_syllableCount : Int32) (p1 : Int64) : Option (Int32) := zz_b1 (f_X5_sumInNames N t_numbers p1) (fun r_1 => (if r_1 ≤ 0 then (some (0 : Int32)) else zz_b1 (f_X5_isParted N 4 t_syllables t_syllableCount p1 (3 : Int32)) (fun r_3 => (if r_3 = 0 then (some (0 : Int32)) else (some (1 : Int32))))))
abbrev rm_X5_isName : Room := { frames := 6, cells := 0, slots := 0, locals := 153 }
theorem mi_X5_isName : zMI RX5 yX5_isName cX5_isName 3 (some .boolean) 1 := ⟨⟨tw_3_60, tw_3_61, tw_1_2, tw_3_62⟩, by decide +kernel, by decide +kernel, by decide +kernel⟩
set_option maxHeartbeats 4000000 in
set_option maxRecDepth 100000 in
theorem k_X5_isName (l : Launch) (D : va_G) (c : Nat → ClassId) (N : Nat) (t0 : Nat) (tA_numbers : Nat) (tA_syllables : Nat) (tA_days : Nat) (tA_words : Nat) (tA_parents : Nat) (tA_otherParents : Nat) (tA_kinds : Nat) (tA_hopeDays : Nat) (tA_hopeTenths : Nat) (t_numbers : Nat → Int32) (t_syllables : Nat → Int64) (t_syllableCount : Int32) (t_days : Nat → Int32) (t_words : Nat → Int64) (t_parents : Nat → Int32) (t_otherParents : Nat → Int32) (t_kinds : Nat → Int32) (t_personCount : Int32) (t_hopeDays : Nat → Int32) (t_hopeTenths : Nat → Int32) (t_hopeCount : Int32) (t_degreesTold : Int32) (p1 : Int64) (o : Int32) (hf : f_X5_isName N t_numbers t_syllables t_syllableCount p1 = some o) : zMPi l D c yX5_isName cX5_isName 3 (some .boolean) rm_X5_isName (wX5 c t0 tA_numbers tA_syllables tA_days tA_words tA_parents tA_otherParents tA_kinds tA_hopeDays tA_hopeTenths t_numbers t_syllables t_syllableCount t_days t_words t_parents t_otherParents t_kinds t_personCount t_hopeDays t_hopeTenths t_hopeCount t_degreesTold) [.ref t0, .long p1] o := by
  refine zIP (by decide) (Nat.le_of_ble_eq_true rfl) ?_
  intro p e s m args below meth c0 Q hQ hx hb hr hlk hml hts hown hP hE hX hS ls hl
  have S : CallFix p m c0 cX5_isName 3 s args zT RX5 := ⟨hx, hb, hml, hown, hts⟩
  have hl : lv_has ls 3 [(0, .ref t0), (1, .long p1)] := hl
  unfold f_X5_isName at hf
  refine lv_aload_n hx hb dX5_isName_0 rfl (lv_at hl 0 rfl) ?_
  refine lv_lload_n hx hb dX5_isName_1 rfl (lv_at hl 1 rfl) ?_
  obtain ⟨r_1, he_1, hf⟩ := zz_b1_use hf
  refine zcVi (As := [.long p1]) (rest := []) S (k_X5_sumInNames l D c N t0 tA_numbers tA_syllables tA_days tA_words tA_parents tA_otherParents tA_kinds tA_hopeDays tA_hopeTenths t_numbers t_syllables t_syllableCount t_days t_words t_parents t_otherParents t_kinds t_personCount t_hopeDays t_hopeTenths t_hopeCount t_degreesTold p1 r_1 he_1) mi_X5_sumInNames tw_3_63 ⟨(Nat.le_of_ble_eq_true rfl), (Nat.le_of_ble_eq_true rfl)⟩ ⟨rfl, rfl⟩ hP hE hX hS (ci := 5) rfl rfl (q0 := 0) rfl rfl hl.1 rfl (Nat.le_of_ble_eq_true rfl) dX5_isName_2 ⟨(Nat.le_of_ble_eq_true rfl), (Nat.le_of_ble_eq_true rfl)⟩ ?_
  refine lv_if_le (tgt := 21) hx hb dX5_isName_5 (by decide) (fun hc_2 => ?_) (fun hc_2 => ?_)
  · have hf := zz_it hf hc_2
    refine lv_iconst (v := (0 : Int32)) hx hb dX5_isName_21 (by decide) ?_
    exact zRPz hQ hx hb hr hlk rfl (Option.some.inj hf) dX5_isName_22
  · have hf := zz_if hf hc_2
    refine lv_aload_n hx hb dX5_isName_8 rfl (lv_at hl 0 rfl) ?_
    refine lv_lload_n hx hb dX5_isName_9 rfl (lv_at hl 1 rfl) ?_
    refine lv_iconst (v := (3 : Int32)) hx hb dX5_isName_10 (by decide) ?_
    obtain ⟨r_3, he_3, hf⟩ := zz_b1_use hf
    refine zcVi (As := [.long p1, .int (3 : Int32)]) (rest := []) S (k_X5_isParted l D c N 4 t0 tA_numbers tA_syllables tA_days tA_words tA_parents tA_otherParents tA_kinds tA_hopeDays tA_hopeTenths t_numbers t_syllables t_syllableCount t_days t_words t_parents t_otherParents t_kinds t_personCount t_hopeDays t_hopeTenths t_hopeCount t_degreesTold p1 (3 : Int32) r_3 he_3) mi_X5_isParted tw_3_68 ⟨(Nat.le_of_ble_eq_true rfl), (Nat.le_of_ble_eq_true rfl)⟩ ⟨rfl, rfl⟩ hP hE hX hS (ci := 5) rfl rfl (q0 := 0) rfl rfl hl.1 rfl (Nat.le_of_ble_eq_true rfl) dX5_isName_11 ⟨(Nat.le_of_ble_eq_true rfl), (Nat.le_of_ble_eq_true rfl)⟩ ?_
    refine lv_if_eq (tgt := 21) hx hb dX5_isName_14 (by decide) (fun hc_4 => ?_) (fun hc_4 => ?_)
    · have hf := zz_it hf hc_4
      refine lv_iconst (v := (0 : Int32)) hx hb dX5_isName_21 (by decide) ?_
      exact zRPz hQ hx hb hr hlk rfl (Option.some.inj hf) dX5_isName_22
    · have hf := zz_if hf hc_4
      refine lv_iconst (v := (1 : Int32)) hx hb dX5_isName_17 (by decide) ?_
      refine lv_goto (tgt := 22) hx hb dX5_isName_18 (by decide) ?_
      exact zRPz hQ hx hb hr hlk rfl (Option.some.inj hf) dX5_isName_22
def f_X5_addsUp (N : Nat) (t_numbers : Nat → Int32) (t_days : Nat → Int32) (t_words : Nat → Int64) (p1 : Int32) : Option (Int32) := zz_gd (zz_in p1 16) ((if (t_words p1.toNatClampNeg) = (0 : Int64) then (some (0 : Int32)) else zz_b1 (f_X5_sumOf N t_numbers (t_words p1.toNatClampNeg)) (fun r_3 => (if r_3 = (t_days p1.toNatClampNeg) then (some (1 : Int32)) else (some (0 : Int32))))))
abbrev rm_X5_addsUp : Room := { frames := 2, cells := 0, slots := 0, locals := 48 }
theorem mi_X5_addsUp : zMI RX5 yX5_addsUp cX5_addsUp 2 (some .boolean) 1 := ⟨⟨tw_3_82, tw_3_83, tw_1_2, tw_3_84⟩, by decide +kernel, by decide +kernel, by decide +kernel⟩
set_option maxHeartbeats 4000000 in
set_option maxRecDepth 100000 in
theorem k_X5_addsUp (l : Launch) (D : va_G) (c : Nat → ClassId) (N : Nat) (t0 : Nat) (tA_numbers : Nat) (tA_syllables : Nat) (tA_days : Nat) (tA_words : Nat) (tA_parents : Nat) (tA_otherParents : Nat) (tA_kinds : Nat) (tA_hopeDays : Nat) (tA_hopeTenths : Nat) (t_numbers : Nat → Int32) (t_syllables : Nat → Int64) (t_syllableCount : Int32) (t_days : Nat → Int32) (t_words : Nat → Int64) (t_parents : Nat → Int32) (t_otherParents : Nat → Int32) (t_kinds : Nat → Int32) (t_personCount : Int32) (t_hopeDays : Nat → Int32) (t_hopeTenths : Nat → Int32) (t_hopeCount : Int32) (t_degreesTold : Int32) (p1 : Int32) (o : Int32) (hf : f_X5_addsUp N t_numbers t_days t_words p1 = some o) : zMPi l D c yX5_addsUp cX5_addsUp 2 (some .boolean) rm_X5_addsUp (wX5 c t0 tA_numbers tA_syllables tA_days tA_words tA_parents tA_otherParents tA_kinds tA_hopeDays tA_hopeTenths t_numbers t_syllables t_syllableCount t_days t_words t_parents t_otherParents t_kinds t_personCount t_hopeDays t_hopeTenths t_hopeCount t_degreesTold) [.ref t0, .int p1] o := by
  refine zIP (by decide) (Nat.le_of_ble_eq_true rfl) ?_
  intro p e s m args below meth c0 Q hQ hx hb hr hlk hml hts hown hP hE hX hS ls hl
  have S : CallFix p m c0 cX5_addsUp 2 s args zT RX5 := ⟨hx, hb, hml, hown, hts⟩
  have hl : lv_has ls 2 [(0, .ref t0), (1, .int p1)] := hl
  unfold f_X5_addsUp at hf
  refine lv_aload_n hx hb dX5_addsUp_0 rfl (lv_at hl 0 rfl) ?_
  refine zget S uw_X5 hE hP 0 4 rfl rfl (by decide) tw_1_43 rfl rfl dX5_addsUp_1 ?_
  refine lv_iload_n hx hb dX5_addsUp_4 rfl (lv_at hl 1 rfl) ?_
  obtain ⟨hin_1, hf⟩ := zz_gd_use hf
  refine zlld hx hb hE hP 4 rfl (zz_in_ok hin_1) dX5_addsUp_5 ?_
  refine lv_lconst (v := (0 : Int64)) hx hb dX5_addsUp_6 (by decide) ?_
  refine zlc_eq (tgt := 34) hx hb dX5_addsUp_7 dX5_addsUp_8 (by decide) (fun hc_2 => ?_) (fun hc_2 => ?_)
  · have hf := zz_it hf hc_2
    refine lv_iconst (v := (0 : Int32)) hx hb dX5_addsUp_34 (by decide) ?_
    exact zRPz hQ hx hb hr hlk rfl (Option.some.inj hf) dX5_addsUp_35
  · have hf := zz_if hf hc_2
    refine lv_aload_n hx hb dX5_addsUp_11 rfl (lv_at hl 0 rfl) ?_
    refine lv_aload_n hx hb dX5_addsUp_12 rfl (lv_at hl 0 rfl) ?_
    refine zget S uw_X5 hE hP 0 4 rfl rfl (by decide) tw_1_43 rfl rfl dX5_addsUp_13 ?_
    refine lv_iload_n hx hb dX5_addsUp_16 rfl (lv_at hl 1 rfl) ?_
    refine zlld hx hb hE hP 4 rfl (zz_in_ok hin_1) dX5_addsUp_17 ?_
    obtain ⟨r_3, he_3, hf⟩ := zz_b1_use hf
    refine zcVi (As := [.long (t_words p1.toNatClampNeg)]) (rest := []) S (k_X5_sumOf l D c N t0 tA_numbers tA_syllables tA_days tA_words tA_parents tA_otherParents tA_kinds tA_hopeDays tA_hopeTenths t_numbers t_syllables t_syllableCount t_days t_words t_parents t_otherParents t_kinds t_personCount t_hopeDays t_hopeTenths t_hopeCount t_degreesTold (t_words p1.toNatClampNeg) r_3 he_3) mi_X5_sumOf tw_3_67 ⟨(Nat.le_of_ble_eq_true rfl), (Nat.le_of_ble_eq_true rfl)⟩ ⟨rfl, rfl⟩ hP hE hX hS (ci := 5) rfl rfl (q0 := 0) rfl rfl hl.1 rfl (Nat.le_of_ble_eq_true rfl) dX5_addsUp_18 ⟨(Nat.le_of_ble_eq_true rfl), (Nat.le_of_ble_eq_true rfl)⟩ ?_
    refine lv_aload_n hx hb dX5_addsUp_21 rfl (lv_at hl 0 rfl) ?_
    refine zget S uw_X5 hE hP 0 3 rfl rfl (by decide) tw_1_40 rfl rfl dX5_addsUp_22 ?_
    refine lv_iload_n hx hb dX5_addsUp_25 rfl (lv_at hl 1 rfl) ?_
    refine zild hx hb hE hP 3 rfl (zz_in_ok hin_1) dX5_addsUp_26 ?_
    refine lv_icmp_ne (tgt := 34) hx hb dX5_addsUp_27 (by decide) (fun hc_4 => ?_) (fun hc_4 => ?_)
    · have hf := zz_if hf hc_4
      refine lv_iconst (v := (0 : Int32)) hx hb dX5_addsUp_34 (by decide) ?_
      exact zRPz hQ hx hb hr hlk rfl (Option.some.inj hf) dX5_addsUp_35
    · have hf := zz_it hf hc_4
      refine lv_iconst (v := (1 : Int32)) hx hb dX5_addsUp_30 (by decide) ?_
      refine lv_goto (tgt := 35) hx hb dX5_addsUp_31 (by decide) ?_
      exact zRPz hQ hx hb hr hlk rfl (Option.some.inj hf) dX5_addsUp_35
def f_X5_oneStepMore_L4 (N : Nat) (k_1 : (Int32) → Option (Int32)) (t_parents : Nat → Int32) (t_otherParents : Nat → Int32) (t_kinds : Nat → Int32) (t_personCount : Int32) (p1 : Int32) : Nat → (Int32) → (Int32) → Option (Int32)
  | 0, _, _ => none
  | n_1 + 1, v2_2, v3_3 => (if t_personCount ≤ v3_3 then (k_1 v2_2) else zz_gd (zz_in v3_3 16) (zz_let (fun (v2_17 : Int32) => zz_let (v3_3 + (1 : Int32)) (fun v3_18 => (f_X5_oneStepMore_L4 N k_1 t_parents t_otherParents t_kinds t_personCount p1 n_1 v2_17 v3_18))) (fun k_16 => (if (t_kinds v3_3.toNatClampNeg) = 0 then (k_16 v2_2) else zz_let (((1 : Int32) <<< ((t_parents v3_3.toNatClampNeg) &&& 31)) ||| ((1 : Int32) <<< ((t_otherParents v3_3.toNatClampNeg) &&& 31))) (fun v4_7 => zz_let (fun (q_10 : Int32) => zz_let (v2_2 ||| q_10) (fun v2_11 => zz_let (fun (q_14 : Int32) => zz_let (v2_11 ||| q_14) (fun v2_15 => (k_16 v2_15))) (fun k_13 => (if ((p1 >>> (v3_3 &&& 31)) &&& (1 : Int32)) = 0 then (k_13 (0 : Int32)) else (k_13 v4_7))))) (fun k_9 => (if (p1 &&& v4_7) = 0 then (k_9 (0 : Int32)) else (k_9 ((1 : Int32) <<< (v3_3 &&& 31))))))))))
theorem f_X5_oneStepMore_L4_s (N : Nat) (k_1 : (Int32) → Option (Int32)) (t_parents : Nat → Int32) (t_otherParents : Nat → Int32) (t_kinds : Nat → Int32) (t_personCount : Int32) (p1 : Int32) (n_1 : Nat) (v2_2 : Int32) (v3_3 : Int32) : f_X5_oneStepMore_L4 N k_1 t_parents t_otherParents t_kinds t_personCount p1 (n_1 + 1) v2_2 v3_3 = (if t_personCount ≤ v3_3 then (k_1 v2_2) else zz_gd (zz_in v3_3 16) (zz_let (fun (v2_17 : Int32) => zz_let (v3_3 + (1 : Int32)) (fun v3_18 => (f_X5_oneStepMore_L4 N k_1 t_parents t_otherParents t_kinds t_personCount p1 n_1 v2_17 v3_18))) (fun k_16 => (if (t_kinds v3_3.toNatClampNeg) = 0 then (k_16 v2_2) else zz_let (((1 : Int32) <<< ((t_parents v3_3.toNatClampNeg) &&& 31)) ||| ((1 : Int32) <<< ((t_otherParents v3_3.toNatClampNeg) &&& 31))) (fun v4_7 => zz_let (fun (q_10 : Int32) => zz_let (v2_2 ||| q_10) (fun v2_11 => zz_let (fun (q_14 : Int32) => zz_let (v2_11 ||| q_14) (fun v2_15 => (k_16 v2_15))) (fun k_13 => (if ((p1 >>> (v3_3 &&& 31)) &&& (1 : Int32)) = 0 then (k_13 (0 : Int32)) else (k_13 v4_7))))) (fun k_9 => (if (p1 &&& v4_7) = 0 then (k_9 (0 : Int32)) else (k_9 ((1 : Int32) <<< (v3_3 &&& 31)))))))))) := rfl
def f_X5_oneStepMore (N : Nat) (t_parents : Nat → Int32) (t_otherParents : Nat → Int32) (t_kinds : Nat → Int32) (t_personCount : Int32) (p1 : Int32) : Option (Int32) := zz_let (fun (v2_19 : Int32) => (some v2_19)) (fun k_1 => f_X5_oneStepMore_L4 N k_1 t_parents t_otherParents t_kinds t_personCount p1 N p1 (0 : Int32))
abbrev rm_X5_oneStepMore : Room := { frames := 0, cells := 0, slots := 0, locals := 0 }
theorem mi_X5_oneStepMore : zMI RX5 yX5_oneStepMore cX5_oneStepMore 5 (some .int) 1 := ⟨⟨tw_3_12, ts_X5_oneStepMore, tw_1_2, tw_3_13⟩, by decide +kernel, by decide +kernel, by decide +kernel⟩
set_option maxHeartbeats 4000000 in
set_option maxRecDepth 100000 in
theorem k_X5_oneStepMore (l : Launch) (D : va_G) (c : Nat → ClassId) (N : Nat) (t0 : Nat) (tA_numbers : Nat) (tA_syllables : Nat) (tA_days : Nat) (tA_words : Nat) (tA_parents : Nat) (tA_otherParents : Nat) (tA_kinds : Nat) (tA_hopeDays : Nat) (tA_hopeTenths : Nat) (t_numbers : Nat → Int32) (t_syllables : Nat → Int64) (t_syllableCount : Int32) (t_days : Nat → Int32) (t_words : Nat → Int64) (t_parents : Nat → Int32) (t_otherParents : Nat → Int32) (t_kinds : Nat → Int32) (t_personCount : Int32) (t_hopeDays : Nat → Int32) (t_hopeTenths : Nat → Int32) (t_hopeCount : Int32) (t_degreesTold : Int32) (p1 : Int32) (o : Int32) (hf : f_X5_oneStepMore N t_parents t_otherParents t_kinds t_personCount p1 = some o) : zMPi l D c yX5_oneStepMore cX5_oneStepMore 5 (some .int) rm_X5_oneStepMore (wX5 c t0 tA_numbers tA_syllables tA_days tA_words tA_parents tA_otherParents tA_kinds tA_hopeDays tA_hopeTenths t_numbers t_syllables t_syllableCount t_days t_words t_parents t_otherParents t_kinds t_personCount t_hopeDays t_hopeTenths t_hopeCount t_degreesTold) [.ref t0, .int p1] o := by
  refine zIP (by decide) (Nat.le_of_ble_eq_true rfl) ?_
  intro p e s m args below meth c0 Q hQ hx hb hr hlk hml hts hown hP hE hX hS ls hl
  have S : CallFix p m c0 cX5_oneStepMore 5 s args zT RX5 := ⟨hx, hb, hml, hown, hts⟩
  have hl : lv_has ls 5 [(0, .ref t0), (1, .int p1)] := hl
  unfold f_X5_oneStepMore at hf
  refine lv_iload_n hx hb dX5_oneStepMore_0 rfl (lv_at hl 1 rfl) ?_
  refine lv_istore_n (lv' := [(2, .int p1), (0, .ref t0), (1, .int p1)]) hx hb dX5_oneStepMore_1 rfl hl (by decide) rfl (fun ls hl => ?_)
  refine lv_iconst (v := (0 : Int32)) hx hb dX5_oneStepMore_2 (by decide) ?_
  refine lv_istore_n (lv' := [(3, .int (0 : Int32)), (2, .int p1), (0, .ref t0), (1, .int p1)]) hx hb dX5_oneStepMore_3 rfl hl (by decide) rfl (fun ls hl => ?_)
  obtain ⟨k_1, hk_1, hf⟩ := zz_let_use hf
  have hX_1 : ∀ (v2_19 : Int32) (ls : Array Slot), k_1 v2_19 = some o → lv_has ls 5 [(2, .int v2_19)] → W p l e rm_X5_oneStepMore s m args below meth c0 s.heap [] 0 0 Q (F0 m 80 ls []) := by
    intro v2_19 ls hf hl
    subst hk_1
    refine lv_iload_n hx hb dX5_oneStepMore_80 rfl (lv_at hl 0 rfl) ?_
    exact zRPi hQ hx hb hr hlk (Option.some.inj hf) dX5_oneStepMore_81
  have hL_1 : ∀ (n_1 : Nat) (v2_2 : Int32) (v3_3 : Int32) (ls : Array Slot), f_X5_oneStepMore_L4 N k_1 t_parents t_otherParents t_kinds t_personCount p1 n_1 v2_2 v3_3 = some o → lv_has ls 5 [(0, .ref t0), (1, .int p1), (2, .int v2_2), (3, .int v3_3)] → W p l e rm_X5_oneStepMore s m args below meth c0 s.heap [] 0 0 Q (F0 m 4 ls []) := by
    intro n_1
    induction n_1 with
    | zero => intro v2_2 v3_3 ls hf hl; exact zz_none hf
    | succ n_1 ih_1 =>
      intro v2_2 v3_3 ls hf hl
      rw [f_X5_oneStepMore_L4_s] at hf
      refine lv_iload_n hx hb dX5_oneStepMore_4 rfl (lv_at hl 3 rfl) ?_
      refine lv_aload_n hx hb dX5_oneStepMore_5 rfl (lv_at hl 0 rfl) ?_
      refine zget S uw_X5 hE hP 0 8 rfl rfl (by decide) tw_1_53 rfl rfl dX5_oneStepMore_6 ?_
      refine lv_icmp_ge (tgt := 80) hx hb dX5_oneStepMore_9 (by decide) (fun hc_4 => ?_) (fun hc_4 => ?_)
      · have hf := zz_it hf hc_4
        exact hX_1 v2_2 ls hf (lv_sub hl [2] rfl)
      · have hf := zz_if hf hc_4
        refine lv_aload_n hx hb dX5_oneStepMore_12 rfl (lv_at hl 0 rfl) ?_
        refine zget S uw_X5 hE hP 0 7 rfl rfl (by decide) tw_1_51 rfl rfl dX5_oneStepMore_13 ?_
        refine lv_iload_n hx hb dX5_oneStepMore_16 rfl (lv_at hl 3 rfl) ?_
        obtain ⟨hin_5, hf⟩ := zz_gd_use hf
        refine zild hx hb hE hP 7 rfl (zz_in_ok hin_5) dX5_oneStepMore_17 ?_
        obtain ⟨k_16, hk_16, hf⟩ := zz_let_use hf
        have hJ_16 : ∀ (v2_17 : Int32) (ls : Array Slot), k_16 v2_17 = some o → lv_has ls 5 [(0, .ref t0), (1, .int p1), (2, .int v2_17), (3, .int v3_3)] → W p l e rm_X5_oneStepMore s m args below meth c0 s.heap [] 0 0 Q (F0 m 74 ls []) := by
          intro v2_17 ls hf hl
          subst hk_16
          obtain ⟨v3_18, ev3_18, hf⟩ := zz_let_use hf
          refine lv_iinc (v := v3_18) (lv' := [(3, .int v3_18), (0, .ref t0), (1, .int p1), (2, .int v2_17)]) hx hb dX5_oneStepMore_74 hl (k := 3) rfl (by rw [← ev3_18]; rfl) (by decide) rfl (fun ls hl => ?_)
          refine lv_goto (tgt := 4) hx hb dX5_oneStepMore_77 (by decide) ?_
          exact ih_1 v2_17 v3_18 ls hf (lv_sub hl [1, 2, 3, 0] rfl)
        refine lv_if_eq (tgt := 74) hx hb dX5_oneStepMore_18 (by decide) (fun hc_6 => ?_) (fun hc_6 => ?_)
        · have hf := zz_it hf hc_6
          exact hJ_16 v2_2 ls hf (lv_sub hl [0, 1, 2, 3] rfl)
        · have hf := zz_if hf hc_6
          refine lv_iconst (v := (1 : Int32)) hx hb dX5_oneStepMore_21 (by decide) ?_
          refine lv_aload_n hx hb dX5_oneStepMore_22 rfl (lv_at hl 0 rfl) ?_
          refine zget S uw_X5 hE hP 0 5 rfl rfl (by decide) tw_1_47 rfl rfl dX5_oneStepMore_23 ?_
          refine lv_iload_n hx hb dX5_oneStepMore_26 rfl (lv_at hl 3 rfl) ?_
          refine zild hx hb hE hP 5 rfl (zz_in_ok hin_5) dX5_oneStepMore_27 ?_
          refine lv_ishl hx hb dX5_oneStepMore_28 ?_
          refine lv_iconst (v := (1 : Int32)) hx hb dX5_oneStepMore_29 (by decide) ?_
          refine lv_aload_n hx hb dX5_oneStepMore_30 rfl (lv_at hl 0 rfl) ?_
          refine zget S uw_X5 hE hP 0 6 rfl rfl (by decide) tw_1_49 rfl rfl dX5_oneStepMore_31 ?_
          refine lv_iload_n hx hb dX5_oneStepMore_34 rfl (lv_at hl 3 rfl) ?_
          refine zild hx hb hE hP 6 rfl (zz_in_ok hin_5) dX5_oneStepMore_35 ?_
          refine lv_ishl hx hb dX5_oneStepMore_36 ?_
          refine lv_ior hx hb dX5_oneStepMore_37 ?_
          obtain ⟨v4_7, ev4_7, hf⟩ := zz_let_use hf
          refine zti ev4_7 ?_
          refine lv_istore (lv' := [(4, .int v4_7), (0, .ref t0), (1, .int p1), (2, .int v2_2), (3, .int v3_3)]) hx hb dX5_oneStepMore_38 hl (by decide) rfl (fun ls hl => ?_)
          refine lv_iload_n hx hb dX5_oneStepMore_40 rfl (lv_at hl 3 rfl) ?_
          refine lv_iload_n hx hb dX5_oneStepMore_41 rfl (lv_at hl 2 rfl) ?_
          refine lv_iload hx hb dX5_oneStepMore_42 (lv_at hl 0 rfl) ?_
          refine lv_iand hx hb dX5_oneStepMore_44 ?_
          obtain ⟨k_9, hk_9, hf⟩ := zz_let_use hf
          have hJ_9 : ∀ (q_10 : Int32) (ls : Array Slot), k_9 q_10 = some o → lv_has ls 5 [(0, .ref t0), (1, .int p1), (3, .int v3_3), (4, .int v4_7)] → W p l e rm_X5_oneStepMore s m args below meth c0 s.heap [] 0 0 Q (F0 m 55 ls [.int q_10, .int v2_2]) := by
            intro q_10 ls hf hl
            subst hk_9
            refine lv_ior hx hb dX5_oneStepMore_55 ?_
            obtain ⟨v2_11, ev2_11, hf⟩ := zz_let_use hf
            refine zti ev2_11 ?_
            refine lv_istore_n (lv' := [(2, .int v2_11), (0, .ref t0), (1, .int p1), (3, .int v3_3), (4, .int v4_7)]) hx hb dX5_oneStepMore_56 rfl hl (by decide) rfl (fun ls hl => ?_)
            refine lv_iload_n hx hb dX5_oneStepMore_57 rfl (lv_at hl 0 rfl) ?_
            refine lv_iload_n hx hb dX5_oneStepMore_58 rfl (lv_at hl 2 rfl) ?_
            refine lv_iload_n hx hb dX5_oneStepMore_59 rfl (lv_at hl 3 rfl) ?_
            refine lv_ishr hx hb dX5_oneStepMore_60 ?_
            refine lv_iconst (v := (1 : Int32)) hx hb dX5_oneStepMore_61 (by decide) ?_
            refine lv_iand hx hb dX5_oneStepMore_62 ?_
            obtain ⟨k_13, hk_13, hf⟩ := zz_let_use hf
            have hJ_13 : ∀ (q_14 : Int32) (ls : Array Slot), k_13 q_14 = some o → lv_has ls 5 [(0, .ref t0), (1, .int p1), (3, .int v3_3)] → W p l e rm_X5_oneStepMore s m args below meth c0 s.heap [] 0 0 Q (F0 m 72 ls [.int q_14, .int v2_11]) := by
              intro q_14 ls hf hl
              subst hk_13
              refine lv_ior hx hb dX5_oneStepMore_72 ?_
              obtain ⟨v2_15, ev2_15, hf⟩ := zz_let_use hf
              refine zti ev2_15 ?_
              refine lv_istore_n (lv' := [(2, .int v2_15), (0, .ref t0), (1, .int p1), (3, .int v3_3)]) hx hb dX5_oneStepMore_73 rfl hl (by decide) rfl (fun ls hl => ?_)
              exact hJ_16 v2_15 ls hf (lv_sub hl [1, 2, 0, 3] rfl)
            refine lv_if_eq (tgt := 71) hx hb dX5_oneStepMore_63 (by decide) (fun hc_12 => ?_) (fun hc_12 => ?_)
            · have hf := zz_it hf hc_12
              refine lv_iconst (v := (0 : Int32)) hx hb dX5_oneStepMore_71 (by decide) ?_
              exact hJ_13 (0 : Int32) ls hf (lv_sub hl [1, 2, 3] rfl)
            · have hf := zz_if hf hc_12
              refine lv_iload hx hb dX5_oneStepMore_66 (lv_at hl 4 rfl) ?_
              refine lv_goto (tgt := 72) hx hb dX5_oneStepMore_68 (by decide) ?_
              exact hJ_13 v4_7 ls hf (lv_sub hl [1, 2, 3] rfl)
          refine lv_if_eq (tgt := 54) hx hb dX5_oneStepMore_45 (by decide) (fun hc_8 => ?_) (fun hc_8 => ?_)
          · have hf := zz_it hf hc_8
            refine lv_iconst (v := (0 : Int32)) hx hb dX5_oneStepMore_54 (by decide) ?_
            exact hJ_9 (0 : Int32) ls hf (lv_sub hl [1, 2, 4, 0] rfl)
          · have hf := zz_if hf hc_8
            refine lv_iconst (v := (1 : Int32)) hx hb dX5_oneStepMore_48 (by decide) ?_
            refine lv_iload_n hx hb dX5_oneStepMore_49 rfl (lv_at hl 4 rfl) ?_
            refine lv_ishl hx hb dX5_oneStepMore_50 ?_
            refine lv_goto (tgt := 55) hx hb dX5_oneStepMore_51 (by decide) ?_
            exact hJ_9 ((1 : Int32) <<< (v3_3 &&& 31)) ls hf (lv_sub hl [1, 2, 4, 0] rfl)
  exact hL_1 N p1 (0 : Int32) ls hf (lv_sub hl [2, 3, 1, 0] rfl)
def f_X5_within_L7 (N : Nat) (k_2 : (Int32) → Option (Int32)) (t_parents : Nat → Int32) (t_otherParents : Nat → Int32) (t_kinds : Nat → Int32) (t_personCount : Int32) (p2 : Int32) : Nat → (Int32) → (Int32) → Option (Int32)
  | 0, _, _ => none
  | n_2 + 1, v3_3, v4_4 => (if p2 ≤ v4_4 then (k_2 v3_3) else zz_b1 (f_X5_oneStepMore N t_parents t_otherParents t_kinds t_personCount v3_3) (fun r_6 => zz_let (v4_4 + (1 : Int32)) (fun v4_7 => (f_X5_within_L7 N k_2 t_parents t_otherParents t_kinds t_personCount p2 n_2 r_6 v4_7))))
theorem f_X5_within_L7_s (N : Nat) (k_2 : (Int32) → Option (Int32)) (t_parents : Nat → Int32) (t_otherParents : Nat → Int32) (t_kinds : Nat → Int32) (t_personCount : Int32) (p2 : Int32) (n_2 : Nat) (v3_3 : Int32) (v4_4 : Int32) : f_X5_within_L7 N k_2 t_parents t_otherParents t_kinds t_personCount p2 (n_2 + 1) v3_3 v4_4 = (if p2 ≤ v4_4 then (k_2 v3_3) else zz_b1 (f_X5_oneStepMore N t_parents t_otherParents t_kinds t_personCount v3_3) (fun r_6 => zz_let (v4_4 + (1 : Int32)) (fun v4_7 => (f_X5_within_L7 N k_2 t_parents t_otherParents t_kinds t_personCount p2 n_2 r_6 v4_7)))) := rfl
def f_X5_within (N : Nat) (t_parents : Nat → Int32) (t_otherParents : Nat → Int32) (t_kinds : Nat → Int32) (t_personCount : Int32) (p1 : Int32) (p2 : Int32) : Option (Int32) := zz_let ((1 : Int32) <<< (p1 &&& 31)) (fun v3_1 => zz_let (fun (v3_8 : Int32) => (some v3_8)) (fun k_2 => f_X5_within_L7 N k_2 t_parents t_otherParents t_kinds t_personCount p2 N v3_1 (0 : Int32)))
abbrev rm_X5_within : Room := { frames := 1, cells := 0, slots := 0, locals := 24 }
theorem mi_X5_within : zMI RX5 yX5_within cX5_within 5 (some .int) 2 := ⟨⟨tw_3_8, ts_X5_within, tw_1_2, tw_3_9⟩, by decide +kernel, by decide +kernel, by decide +kernel⟩
set_option maxHeartbeats 4000000 in
set_option maxRecDepth 100000 in
theorem k_X5_within (l : Launch) (D : va_G) (c : Nat → ClassId) (N : Nat) (t0 : Nat) (tA_numbers : Nat) (tA_syllables : Nat) (tA_days : Nat) (tA_words : Nat) (tA_parents : Nat) (tA_otherParents : Nat) (tA_kinds : Nat) (tA_hopeDays : Nat) (tA_hopeTenths : Nat) (t_numbers : Nat → Int32) (t_syllables : Nat → Int64) (t_syllableCount : Int32) (t_days : Nat → Int32) (t_words : Nat → Int64) (t_parents : Nat → Int32) (t_otherParents : Nat → Int32) (t_kinds : Nat → Int32) (t_personCount : Int32) (t_hopeDays : Nat → Int32) (t_hopeTenths : Nat → Int32) (t_hopeCount : Int32) (t_degreesTold : Int32) (p1 : Int32) (p2 : Int32) (o : Int32) (hf : f_X5_within N t_parents t_otherParents t_kinds t_personCount p1 p2 = some o) : zMPi l D c yX5_within cX5_within 5 (some .int) rm_X5_within (wX5 c t0 tA_numbers tA_syllables tA_days tA_words tA_parents tA_otherParents tA_kinds tA_hopeDays tA_hopeTenths t_numbers t_syllables t_syllableCount t_days t_words t_parents t_otherParents t_kinds t_personCount t_hopeDays t_hopeTenths t_hopeCount t_degreesTold) [.ref t0, .int p1, .int p2] o := by
  refine zIP (by decide) (Nat.le_of_ble_eq_true rfl) ?_
  intro p e s m args below meth c0 Q hQ hx hb hr hlk hml hts hown hP hE hX hS ls hl
  have S : CallFix p m c0 cX5_within 5 s args zT RX5 := ⟨hx, hb, hml, hown, hts⟩
  have hl : lv_has ls 5 [(0, .ref t0), (1, .int p1), (2, .int p2)] := hl
  unfold f_X5_within at hf
  refine lv_iconst (v := (1 : Int32)) hx hb dX5_within_0 (by decide) ?_
  refine lv_iload_n hx hb dX5_within_1 rfl (lv_at hl 1 rfl) ?_
  refine lv_ishl hx hb dX5_within_2 ?_
  obtain ⟨v3_1, ev3_1, hf⟩ := zz_let_use hf
  refine zti ev3_1 ?_
  refine lv_istore_n (lv' := [(3, .int v3_1), (0, .ref t0), (1, .int p1), (2, .int p2)]) hx hb dX5_within_3 rfl hl (by decide) rfl (fun ls hl => ?_)
  refine lv_iconst (v := (0 : Int32)) hx hb dX5_within_4 (by decide) ?_
  refine lv_istore (lv' := [(4, .int (0 : Int32)), (3, .int v3_1), (0, .ref t0), (1, .int p1), (2, .int p2)]) hx hb dX5_within_5 hl (by decide) rfl (fun ls hl => ?_)
  obtain ⟨k_2, hk_2, hf⟩ := zz_let_use hf
  have hX_2 : ∀ (v3_8 : Int32) (ls : Array Slot), k_2 v3_8 = some o → lv_has ls 5 [(3, .int v3_8)] → W p l e rm_X5_within s m args below meth c0 s.heap [] 0 0 Q (F0 m 25 ls []) := by
    intro v3_8 ls hf hl
    subst hk_2
    refine lv_iload_n hx hb dX5_within_25 rfl (lv_at hl 0 rfl) ?_
    exact zRPi hQ hx hb hr hlk (Option.some.inj hf) dX5_within_26
  have hL_2 : ∀ (n_2 : Nat) (v3_3 : Int32) (v4_4 : Int32) (ls : Array Slot), f_X5_within_L7 N k_2 t_parents t_otherParents t_kinds t_personCount p2 n_2 v3_3 v4_4 = some o → lv_has ls 5 [(0, .ref t0), (2, .int p2), (3, .int v3_3), (4, .int v4_4)] → W p l e rm_X5_within s m args below meth c0 s.heap [] 0 0 Q (F0 m 7 ls []) := by
    intro n_2
    induction n_2 with
    | zero => intro v3_3 v4_4 ls hf hl; exact zz_none hf
    | succ n_2 ih_2 =>
      intro v3_3 v4_4 ls hf hl
      rw [f_X5_within_L7_s] at hf
      refine lv_iload hx hb dX5_within_7 (lv_at hl 3 rfl) ?_
      refine lv_iload_n hx hb dX5_within_9 rfl (lv_at hl 1 rfl) ?_
      refine lv_icmp_ge (tgt := 25) hx hb dX5_within_10 (by decide) (fun hc_5 => ?_) (fun hc_5 => ?_)
      · have hf := zz_it hf hc_5
        exact hX_2 v3_3 ls hf (lv_sub hl [2] rfl)
      · have hf := zz_if hf hc_5
        refine lv_aload_n hx hb dX5_within_13 rfl (lv_at hl 0 rfl) ?_
        refine lv_iload_n hx hb dX5_within_14 rfl (lv_at hl 2 rfl) ?_
        obtain ⟨r_6, he_6, hf⟩ := zz_b1_use hf
        refine zcVi (As := [.int v3_3]) (rest := []) S (k_X5_oneStepMore l D c N t0 tA_numbers tA_syllables tA_days tA_words tA_parents tA_otherParents tA_kinds tA_hopeDays tA_hopeTenths t_numbers t_syllables t_syllableCount t_days t_words t_parents t_otherParents t_kinds t_personCount t_hopeDays t_hopeTenths t_hopeCount t_degreesTold v3_3 r_6 he_6) mi_X5_oneStepMore tw_3_10 ⟨(Nat.le_of_ble_eq_true rfl), (Nat.le_of_ble_eq_true rfl)⟩ ⟨rfl, rfl⟩ hP hE hX hS (ci := 5) rfl rfl (q0 := 0) rfl rfl hl.1 rfl (Nat.le_of_ble_eq_true rfl) dX5_within_15 ⟨(Nat.le_of_ble_eq_true rfl), (Nat.le_of_ble_eq_true rfl)⟩ ?_
        refine lv_istore_n (lv' := [(3, .int r_6), (0, .ref t0), (2, .int p2), (4, .int v4_4)]) hx hb dX5_within_18 rfl hl (by decide) rfl (fun ls hl => ?_)
        obtain ⟨v4_7, ev4_7, hf⟩ := zz_let_use hf
        refine lv_iinc (v := v4_7) (lv' := [(4, .int v4_7), (3, .int r_6), (0, .ref t0), (2, .int p2)]) hx hb dX5_within_19 hl (k := 3) rfl (by rw [← ev4_7]; rfl) (by decide) rfl (fun ls hl => ?_)
        refine lv_goto (tgt := 7) hx hb dX5_within_22 (by decide) ?_
        exact ih_2 r_6 v4_7 ls hf (lv_sub hl [2, 3, 1, 0] rfl)
  exact hL_2 N v3_1 (0 : Int32) ls hf (lv_sub hl [2, 4, 1, 0] rfl)
def f_X5_nearOf (N : Nat) (t_parents : Nat → Int32) (t_otherParents : Nat → Int32) (t_kinds : Nat → Int32) (t_personCount : Int32) (t_degreesTold : Int32) (p1 : Int32) : Option (Int32) := zz_b1 (f_X5_within N t_parents t_otherParents t_kinds t_personCount p1 t_degreesTold) (fun r_1 => (some (r_1 &&& (((1 : Int32) <<< (p1 &&& 31)) ^^^ (-1 : Int32)))))
abbrev rm_X5_nearOf : Room := { frames := 2, cells := 0, slots := 0, locals := 48 }
theorem mi_X5_nearOf : zMI RX5 yX5_nearOf cX5_nearOf 2 (some .int) 1 := ⟨⟨tw_3_3, tw_3_4, tw_1_2, tw_3_5⟩, by decide +kernel, by decide +kernel, by decide +kernel⟩
set_option maxHeartbeats 4000000 in
set_option maxRecDepth 100000 in
theorem k_X5_nearOf (l : Launch) (D : va_G) (c : Nat → ClassId) (N : Nat) (t0 : Nat) (tA_numbers : Nat) (tA_syllables : Nat) (tA_days : Nat) (tA_words : Nat) (tA_parents : Nat) (tA_otherParents : Nat) (tA_kinds : Nat) (tA_hopeDays : Nat) (tA_hopeTenths : Nat) (t_numbers : Nat → Int32) (t_syllables : Nat → Int64) (t_syllableCount : Int32) (t_days : Nat → Int32) (t_words : Nat → Int64) (t_parents : Nat → Int32) (t_otherParents : Nat → Int32) (t_kinds : Nat → Int32) (t_personCount : Int32) (t_hopeDays : Nat → Int32) (t_hopeTenths : Nat → Int32) (t_hopeCount : Int32) (t_degreesTold : Int32) (p1 : Int32) (o : Int32) (hf : f_X5_nearOf N t_parents t_otherParents t_kinds t_personCount t_degreesTold p1 = some o) : zMPi l D c yX5_nearOf cX5_nearOf 2 (some .int) rm_X5_nearOf (wX5 c t0 tA_numbers tA_syllables tA_days tA_words tA_parents tA_otherParents tA_kinds tA_hopeDays tA_hopeTenths t_numbers t_syllables t_syllableCount t_days t_words t_parents t_otherParents t_kinds t_personCount t_hopeDays t_hopeTenths t_hopeCount t_degreesTold) [.ref t0, .int p1] o := by
  refine zIP (by decide) (Nat.le_of_ble_eq_true rfl) ?_
  intro p e s m args below meth c0 Q hQ hx hb hr hlk hml hts hown hP hE hX hS ls hl
  have S : CallFix p m c0 cX5_nearOf 2 s args zT RX5 := ⟨hx, hb, hml, hown, hts⟩
  have hl : lv_has ls 2 [(0, .ref t0), (1, .int p1)] := hl
  unfold f_X5_nearOf at hf
  refine lv_aload_n hx hb dX5_nearOf_0 rfl (lv_at hl 0 rfl) ?_
  refine lv_iload_n hx hb dX5_nearOf_1 rfl (lv_at hl 1 rfl) ?_
  refine lv_aload_n hx hb dX5_nearOf_2 rfl (lv_at hl 0 rfl) ?_
  refine zget S uw_X5 hE hP 0 12 rfl rfl (by decide) tw_1_64 rfl rfl dX5_nearOf_3 ?_
  obtain ⟨r_1, he_1, hf⟩ := zz_b1_use hf
  refine zcVi (As := [.int p1, .int t_degreesTold]) (rest := []) S (k_X5_within l D c N t0 tA_numbers tA_syllables tA_days tA_words tA_parents tA_otherParents tA_kinds tA_hopeDays tA_hopeTenths t_numbers t_syllables t_syllableCount t_days t_words t_parents t_otherParents t_kinds t_personCount t_hopeDays t_hopeTenths t_hopeCount t_degreesTold p1 t_degreesTold r_1 he_1) mi_X5_within tw_3_6 ⟨(Nat.le_of_ble_eq_true rfl), (Nat.le_of_ble_eq_true rfl)⟩ ⟨rfl, rfl⟩ hP hE hX hS (ci := 5) rfl rfl (q0 := 0) rfl rfl hl.1 rfl (Nat.le_of_ble_eq_true rfl) dX5_nearOf_6 ⟨(Nat.le_of_ble_eq_true rfl), (Nat.le_of_ble_eq_true rfl)⟩ ?_
  refine lv_iconst (v := (1 : Int32)) hx hb dX5_nearOf_9 (by decide) ?_
  refine lv_iload_n hx hb dX5_nearOf_10 rfl (lv_at hl 1 rfl) ?_
  refine lv_ishl hx hb dX5_nearOf_11 ?_
  refine lv_iconst (v := (-1 : Int32)) hx hb dX5_nearOf_12 (by decide) ?_
  refine lv_ixor hx hb dX5_nearOf_13 ?_
  refine lv_iand hx hb dX5_nearOf_14 ?_
  exact zRPi hQ hx hb hr hlk (Option.some.inj hf) dX5_nearOf_15
def f_X5_faultOfName (N : Nat) (t_numbers : Nat → Int32) (t_syllables : Nat → Int64) (t_syllableCount : Int32) (t_days : Nat → Int32) (t_words : Nat → Int64) (t_parents : Nat → Int32) (t_otherParents : Nat → Int32) (t_kinds : Nat → Int32) (t_personCount : Int32) (t_degreesTold : Int32) (p1 : Int32) : Option (Int32) := zz_gd (zz_in p1 16) (zz_let (t_words p1.toNatClampNeg) (fun v2_2 => (if v2_2 = (0 : Int64) then (some (1 : Int32)) else zz_b1 (f_X5_isName N t_numbers t_syllables t_syllableCount v2_2) (fun r_4 => (if r_4 = 0 then (some (2 : Int32)) else zz_b1 (f_X5_addsUp N t_numbers t_days t_words p1) (fun r_6 => (if r_6 = 0 then (some (3 : Int32)) else zz_b1 (f_X5_nearOf N t_parents t_otherParents t_kinds t_personCount t_degreesTold p1) (fun r_8 => zz_b1 (f_X5_leastCalled N t_words t_personCount v2_2 r_8) (fun r_9 => (if r_9 = (-1 : Int32) then (some (0 : Int32)) else (some (4 : Int32))))))))))))
abbrev rm_X5_faultOfName : Room := { frames := 7, cells := 0, slots := 0, locals := 175 }
theorem mi_X5_faultOfName : zMI RX5 yX5_faultOfName cX5_faultOfName 4 (some .int) 1 := ⟨⟨tw_3_77, tw_3_78, tw_1_2, tw_3_79⟩, by decide +kernel, by decide +kernel, by decide +kernel⟩
set_option maxHeartbeats 4000000 in
set_option maxRecDepth 100000 in
theorem k_X5_faultOfName (l : Launch) (D : va_G) (c : Nat → ClassId) (N : Nat) (t0 : Nat) (tA_numbers : Nat) (tA_syllables : Nat) (tA_days : Nat) (tA_words : Nat) (tA_parents : Nat) (tA_otherParents : Nat) (tA_kinds : Nat) (tA_hopeDays : Nat) (tA_hopeTenths : Nat) (t_numbers : Nat → Int32) (t_syllables : Nat → Int64) (t_syllableCount : Int32) (t_days : Nat → Int32) (t_words : Nat → Int64) (t_parents : Nat → Int32) (t_otherParents : Nat → Int32) (t_kinds : Nat → Int32) (t_personCount : Int32) (t_hopeDays : Nat → Int32) (t_hopeTenths : Nat → Int32) (t_hopeCount : Int32) (t_degreesTold : Int32) (p1 : Int32) (o : Int32) (hf : f_X5_faultOfName N t_numbers t_syllables t_syllableCount t_days t_words t_parents t_otherParents t_kinds t_personCount t_degreesTold p1 = some o) : zMPi l D c yX5_faultOfName cX5_faultOfName 4 (some .int) rm_X5_faultOfName (wX5 c t0 tA_numbers tA_syllables tA_days tA_words tA_parents tA_otherParents tA_kinds tA_hopeDays tA_hopeTenths t_numbers t_syllables t_syllableCount t_days t_words t_parents t_otherParents t_kinds t_personCount t_hopeDays t_hopeTenths t_hopeCount t_degreesTold) [.ref t0, .int p1] o := by
  refine zIP (by decide) (Nat.le_of_ble_eq_true rfl) ?_
  intro p e s m args below meth c0 Q hQ hx hb hr hlk hml hts hown hP hE hX hS ls hl
  have S : CallFix p m c0 cX5_faultOfName 4 s args zT RX5 := ⟨hx, hb, hml, hown, hts⟩
  have hl : lv_has ls 4 [(0, .ref t0), (1, .int p1)] := hl
  unfold f_X5_faultOfName at hf
  refine lv_aload_n hx hb dX5_faultOfName_0 rfl (lv_at hl 0 rfl) ?_
  refine zget S uw_X5 hE hP 0 4 rfl rfl (by decide) tw_1_43 rfl rfl dX5_faultOfName_1 ?_
  refine lv_iload_n hx hb dX5_faultOfName_4 rfl (lv_at hl 1 rfl) ?_
  obtain ⟨hin_1, hf⟩ := zz_gd_use hf
  refine zlld hx hb hE hP 4 rfl (zz_in_ok hin_1) dX5_faultOfName_5 ?_
  obtain ⟨v2_2, ev2_2, hf⟩ := zz_let_use hf
  refine ztl ev2_2 ?_
  refine lv_lstore_n (lv' := [(2, .long v2_2), (0, .ref t0), (1, .int p1)]) hx hb dX5_faultOfName_6 rfl hl (by decide) rfl (fun ls hl => ?_)
  refine lv_lload_n hx hb dX5_faultOfName_7 rfl (lv_at hl 0 rfl) ?_
  refine lv_lconst (v := (0 : Int64)) hx hb dX5_faultOfName_8 (by decide) ?_
  refine zlc_ne (tgt := 15) hx hb dX5_faultOfName_9 dX5_faultOfName_10 (by decide) (fun hc_3 => ?_) (fun hc_3 => ?_)
  · have hf := zz_if hf hc_3
    refine lv_aload_n hx hb dX5_faultOfName_15 rfl (lv_at hl 1 rfl) ?_
    refine lv_lload_n hx hb dX5_faultOfName_16 rfl (lv_at hl 0 rfl) ?_
    obtain ⟨r_4, he_4, hf⟩ := zz_b1_use hf
    refine zcVi (As := [.long v2_2]) (rest := []) S (k_X5_isName l D c N t0 tA_numbers tA_syllables tA_days tA_words tA_parents tA_otherParents tA_kinds tA_hopeDays tA_hopeTenths t_numbers t_syllables t_syllableCount t_days t_words t_parents t_otherParents t_kinds t_personCount t_hopeDays t_hopeTenths t_hopeCount t_degreesTold v2_2 r_4 he_4) mi_X5_isName tw_3_80 ⟨(Nat.le_of_ble_eq_true rfl), (Nat.le_of_ble_eq_true rfl)⟩ ⟨rfl, rfl⟩ hP hE hX hS (ci := 5) rfl rfl (q0 := 0) rfl rfl hl.1 rfl (Nat.le_of_ble_eq_true rfl) dX5_faultOfName_17 ⟨(Nat.le_of_ble_eq_true rfl), (Nat.le_of_ble_eq_true rfl)⟩ ?_
    refine lv_if_ne (tgt := 25) hx hb dX5_faultOfName_20 (by decide) (fun hc_5 => ?_) (fun hc_5 => ?_)
    · have hf := zz_if hf hc_5
      refine lv_aload_n hx hb dX5_faultOfName_25 rfl (lv_at hl 1 rfl) ?_
      refine lv_iload_n hx hb dX5_faultOfName_26 rfl (lv_at hl 2 rfl) ?_
      obtain ⟨r_6, he_6, hf⟩ := zz_b1_use hf
      refine zcVi (As := [.int p1]) (rest := []) S (k_X5_addsUp l D c N t0 tA_numbers tA_syllables tA_days tA_words tA_parents tA_otherParents tA_kinds tA_hopeDays tA_hopeTenths t_numbers t_syllables t_syllableCount t_days t_words t_parents t_otherParents t_kinds t_personCount t_hopeDays t_hopeTenths t_hopeCount t_degreesTold p1 r_6 he_6) mi_X5_addsUp tw_3_81 ⟨(Nat.le_of_ble_eq_true rfl), (Nat.le_of_ble_eq_true rfl)⟩ ⟨rfl, rfl⟩ hP hE hX hS (ci := 5) rfl rfl (q0 := 0) rfl rfl hl.1 rfl (Nat.le_of_ble_eq_true rfl) dX5_faultOfName_27 ⟨(Nat.le_of_ble_eq_true rfl), (Nat.le_of_ble_eq_true rfl)⟩ ?_
      refine lv_if_ne (tgt := 35) hx hb dX5_faultOfName_30 (by decide) (fun hc_7 => ?_) (fun hc_7 => ?_)
      · have hf := zz_if hf hc_7
        refine lv_aload_n hx hb dX5_faultOfName_35 rfl (lv_at hl 1 rfl) ?_
        refine lv_lload_n hx hb dX5_faultOfName_36 rfl (lv_at hl 0 rfl) ?_
        refine lv_aload_n hx hb dX5_faultOfName_37 rfl (lv_at hl 1 rfl) ?_
        refine lv_iload_n hx hb dX5_faultOfName_38 rfl (lv_at hl 2 rfl) ?_
        obtain ⟨r_8, he_8, hf⟩ := zz_b1_use hf
        refine zcVi (As := [.int p1]) (rest := [.long v2_2, .ref t0]) S (k_X5_nearOf l D c N t0 tA_numbers tA_syllables tA_days tA_words tA_parents tA_otherParents tA_kinds tA_hopeDays tA_hopeTenths t_numbers t_syllables t_syllableCount t_days t_words t_parents t_otherParents t_kinds t_personCount t_hopeDays t_hopeTenths t_hopeCount t_degreesTold p1 r_8 he_8) mi_X5_nearOf tw_3_85 ⟨(Nat.le_of_ble_eq_true rfl), (Nat.le_of_ble_eq_true rfl)⟩ ⟨rfl, rfl⟩ hP hE hX hS (ci := 5) rfl rfl (q0 := 0) rfl rfl hl.1 rfl (Nat.le_of_ble_eq_true rfl) dX5_faultOfName_39 ⟨(Nat.le_of_ble_eq_true rfl), (Nat.le_of_ble_eq_true rfl)⟩ ?_
        obtain ⟨r_9, he_9, hf⟩ := zz_b1_use hf
        refine zcVi (As := [.long v2_2, .int r_8]) (rest := []) S (k_X5_leastCalled l D c N t0 tA_numbers tA_syllables tA_days tA_words tA_parents tA_otherParents tA_kinds tA_hopeDays tA_hopeTenths t_numbers t_syllables t_syllableCount t_days t_words t_parents t_otherParents t_kinds t_personCount t_hopeDays t_hopeTenths t_hopeCount t_degreesTold v2_2 r_8 r_9 he_9) mi_X5_leastCalled tw_3_86 ⟨(Nat.le_of_ble_eq_true rfl), (Nat.le_of_ble_eq_true rfl)⟩ ⟨rfl, rfl⟩ hP hE hX hS (ci := 5) rfl rfl (q0 := 0) rfl rfl hl.1 rfl (Nat.le_of_ble_eq_true rfl) dX5_faultOfName_42 ⟨(Nat.le_of_ble_eq_true rfl), (Nat.le_of_ble_eq_true rfl)⟩ ?_
        refine lv_iconst (v := (-1 : Int32)) hx hb dX5_faultOfName_45 (by decide) ?_
        refine lv_icmp_ne (tgt := 53) hx hb dX5_faultOfName_46 (by decide) (fun hc_10 => ?_) (fun hc_10 => ?_)
        · have hf := zz_if hf hc_10
          refine lv_iconst (v := (4 : Int32)) hx hb dX5_faultOfName_53 (by decide) ?_
          exact zRPi hQ hx hb hr hlk (Option.some.inj hf) dX5_faultOfName_54
        · have hf := zz_it hf hc_10
          refine lv_iconst (v := (0 : Int32)) hx hb dX5_faultOfName_49 (by decide) ?_
          refine lv_goto (tgt := 54) hx hb dX5_faultOfName_50 (by decide) ?_
          exact zRPi hQ hx hb hr hlk (Option.some.inj hf) dX5_faultOfName_54
      · have hf := zz_it hf hc_7
        refine lv_iconst (v := (3 : Int32)) hx hb dX5_faultOfName_33 (by decide) ?_
        exact zRPi hQ hx hb hr hlk (Option.some.inj hf) dX5_faultOfName_34
    · have hf := zz_it hf hc_5
      refine lv_iconst (v := (2 : Int32)) hx hb dX5_faultOfName_23 (by decide) ?_
      exact zRPi hQ hx hb hr hlk (Option.some.inj hf) dX5_faultOfName_24
  · have hf := zz_it hf hc_3
    refine lv_iconst (v := (1 : Int32)) hx hb dX5_faultOfName_13 (by decide) ?_
    exact zRPi hQ hx hb hr hlk (Option.some.inj hf) dX5_faultOfName_14
def f_X5_nearChildOf (N : Nat) (t_parents : Nat → Int32) (t_otherParents : Nat → Int32) (t_kinds : Nat → Int32) (t_personCount : Int32) (t_degreesTold : Int32) (p1 : Int32) (p2 : Int32) : Option (Int32) := zz_b1 (f_X5_within N t_parents t_otherParents t_kinds t_personCount p1 (t_degreesTold - (1 : Int32))) (fun r_1 => zz_b1 (f_X5_within N t_parents t_otherParents t_kinds t_personCount p2 (t_degreesTold - (1 : Int32))) (fun r_2 => (some (r_1 ||| r_2))))
abbrev rm_X5_nearChildOf : Room := { frames := 2, cells := 0, slots := 0, locals := 48 }
theorem mi_X5_nearChildOf : zMI RX5 yX5_nearChildOf cX5_nearChildOf 3 (some .int) 2 := ⟨⟨tw_3_156, tw_3_157, tw_1_2, tw_3_158⟩, by decide +kernel, by decide +kernel, by decide +kernel⟩
set_option maxHeartbeats 4000000 in
set_option maxRecDepth 100000 in
theorem k_X5_nearChildOf (l : Launch) (D : va_G) (c : Nat → ClassId) (N : Nat) (t0 : Nat) (tA_numbers : Nat) (tA_syllables : Nat) (tA_days : Nat) (tA_words : Nat) (tA_parents : Nat) (tA_otherParents : Nat) (tA_kinds : Nat) (tA_hopeDays : Nat) (tA_hopeTenths : Nat) (t_numbers : Nat → Int32) (t_syllables : Nat → Int64) (t_syllableCount : Int32) (t_days : Nat → Int32) (t_words : Nat → Int64) (t_parents : Nat → Int32) (t_otherParents : Nat → Int32) (t_kinds : Nat → Int32) (t_personCount : Int32) (t_hopeDays : Nat → Int32) (t_hopeTenths : Nat → Int32) (t_hopeCount : Int32) (t_degreesTold : Int32) (p1 : Int32) (p2 : Int32) (o : Int32) (hf : f_X5_nearChildOf N t_parents t_otherParents t_kinds t_personCount t_degreesTold p1 p2 = some o) : zMPi l D c yX5_nearChildOf cX5_nearChildOf 3 (some .int) rm_X5_nearChildOf (wX5 c t0 tA_numbers tA_syllables tA_days tA_words tA_parents tA_otherParents tA_kinds tA_hopeDays tA_hopeTenths t_numbers t_syllables t_syllableCount t_days t_words t_parents t_otherParents t_kinds t_personCount t_hopeDays t_hopeTenths t_hopeCount t_degreesTold) [.ref t0, .int p1, .int p2] o := by
  refine zIP (by decide) (Nat.le_of_ble_eq_true rfl) ?_
  intro p e s m args below meth c0 Q hQ hx hb hr hlk hml hts hown hP hE hX hS ls hl
  have S : CallFix p m c0 cX5_nearChildOf 3 s args zT RX5 := ⟨hx, hb, hml, hown, hts⟩
  have hl : lv_has ls 3 [(0, .ref t0), (1, .int p1), (2, .int p2)] := hl
  unfold f_X5_nearChildOf at hf
  refine lv_aload_n hx hb dX5_nearChildOf_0 rfl (lv_at hl 0 rfl) ?_
  refine lv_iload_n hx hb dX5_nearChildOf_1 rfl (lv_at hl 1 rfl) ?_
  refine lv_aload_n hx hb dX5_nearChildOf_2 rfl (lv_at hl 0 rfl) ?_
  refine zget S uw_X5 hE hP 0 12 rfl rfl (by decide) tw_1_64 rfl rfl dX5_nearChildOf_3 ?_
  refine lv_iconst (v := (1 : Int32)) hx hb dX5_nearChildOf_6 (by decide) ?_
  refine lv_isub hx hb dX5_nearChildOf_7 ?_
  obtain ⟨r_1, he_1, hf⟩ := zz_b1_use hf
  refine zcVi (As := [.int p1, .int (t_degreesTold - (1 : Int32))]) (rest := []) S (k_X5_within l D c N t0 tA_numbers tA_syllables tA_days tA_words tA_parents tA_otherParents tA_kinds tA_hopeDays tA_hopeTenths t_numbers t_syllables t_syllableCount t_days t_words t_parents t_otherParents t_kinds t_personCount t_hopeDays t_hopeTenths t_hopeCount t_degreesTold p1 (t_degreesTold - (1 : Int32)) r_1 he_1) mi_X5_within tw_3_6 ⟨(Nat.le_of_ble_eq_true rfl), (Nat.le_of_ble_eq_true rfl)⟩ ⟨rfl, rfl⟩ hP hE hX hS (ci := 5) rfl rfl (q0 := 0) rfl rfl hl.1 rfl (Nat.le_of_ble_eq_true rfl) dX5_nearChildOf_8 ⟨(Nat.le_of_ble_eq_true rfl), (Nat.le_of_ble_eq_true rfl)⟩ ?_
  refine lv_aload_n hx hb dX5_nearChildOf_11 rfl (lv_at hl 0 rfl) ?_
  refine lv_iload_n hx hb dX5_nearChildOf_12 rfl (lv_at hl 2 rfl) ?_
  refine lv_aload_n hx hb dX5_nearChildOf_13 rfl (lv_at hl 0 rfl) ?_
  refine zget S uw_X5 hE hP 0 12 rfl rfl (by decide) tw_1_64 rfl rfl dX5_nearChildOf_14 ?_
  refine lv_iconst (v := (1 : Int32)) hx hb dX5_nearChildOf_17 (by decide) ?_
  refine lv_isub hx hb dX5_nearChildOf_18 ?_
  obtain ⟨r_2, he_2, hf⟩ := zz_b1_use hf
  refine zcVi (As := [.int p2, .int (t_degreesTold - (1 : Int32))]) (rest := [.int r_1]) S (k_X5_within l D c N t0 tA_numbers tA_syllables tA_days tA_words tA_parents tA_otherParents tA_kinds tA_hopeDays tA_hopeTenths t_numbers t_syllables t_syllableCount t_days t_words t_parents t_otherParents t_kinds t_personCount t_hopeDays t_hopeTenths t_hopeCount t_degreesTold p2 (t_degreesTold - (1 : Int32)) r_2 he_2) mi_X5_within tw_3_6 ⟨(Nat.le_of_ble_eq_true rfl), (Nat.le_of_ble_eq_true rfl)⟩ ⟨rfl, rfl⟩ hP hE hX hS (ci := 5) rfl rfl (q0 := 0) rfl rfl hl.1 rfl (Nat.le_of_ble_eq_true rfl) dX5_nearChildOf_19 ⟨(Nat.le_of_ble_eq_true rfl), (Nat.le_of_ble_eq_true rfl)⟩ ?_
  refine lv_ior hx hb dX5_nearChildOf_22 ?_
  exact zRPi hQ hx hb hr hlk (Option.some.inj hf) dX5_nearChildOf_23
def f_X5_stepsBetween_L7 (N : Nat) (k_2 : Option (Int32)) (t_parents : Nat → Int32) (t_otherParents : Nat → Int32) (t_kinds : Nat → Int32) (t_personCount : Int32) (p2 : Int32) : Nat → (Int32) → (Int32) → Option (Int32)
  | 0, _, _ => none
  | n_2 + 1, v3_3, v4_4 => (if (16 : Int32) ≤ v4_4 then k_2 else (if ((v3_3 >>> (p2 &&& 31)) &&& (1 : Int32)) = 0 then zz_b1 (f_X5_oneStepMore N t_parents t_otherParents t_kinds t_personCount v3_3) (fun r_7 => zz_let (v4_4 + (1 : Int32)) (fun v4_8 => (f_X5_stepsBetween_L7 N k_2 t_parents t_otherParents t_kinds t_personCount p2 n_2 r_7 v4_8))) else (some v4_4)))
theorem f_X5_stepsBetween_L7_s (N : Nat) (k_2 : Option (Int32)) (t_parents : Nat → Int32) (t_otherParents : Nat → Int32) (t_kinds : Nat → Int32) (t_personCount : Int32) (p2 : Int32) (n_2 : Nat) (v3_3 : Int32) (v4_4 : Int32) : f_X5_stepsBetween_L7 N k_2 t_parents t_otherParents t_kinds t_personCount p2 (n_2 + 1) v3_3 v4_4 = (if (16 : Int32) ≤ v4_4 then k_2 else (if ((v3_3 >>> (p2 &&& 31)) &&& (1 : Int32)) = 0 then zz_b1 (f_X5_oneStepMore N t_parents t_otherParents t_kinds t_personCount v3_3) (fun r_7 => zz_let (v4_4 + (1 : Int32)) (fun v4_8 => (f_X5_stepsBetween_L7 N k_2 t_parents t_otherParents t_kinds t_personCount p2 n_2 r_7 v4_8))) else (some v4_4))) := rfl
def f_X5_stepsBetween (N : Nat) (t_parents : Nat → Int32) (t_otherParents : Nat → Int32) (t_kinds : Nat → Int32) (t_personCount : Int32) (p1 : Int32) (p2 : Int32) : Option (Int32) := zz_let ((1 : Int32) <<< (p1 &&& 31)) (fun v3_1 => zz_let ((some (-1 : Int32))) (fun k_2 => f_X5_stepsBetween_L7 N k_2 t_parents t_otherParents t_kinds t_personCount p2 N v3_1 (0 : Int32)))
abbrev rm_X5_stepsBetween : Room := { frames := 1, cells := 0, slots := 0, locals := 24 }
theorem mi_X5_stepsBetween : zMI RX5 yX5_stepsBetween cX5_stepsBetween 5 (some .int) 2 := ⟨⟨tw_3_24, tw_3_25, tw_1_2, tw_3_26⟩, by decide +kernel, by decide +kernel, by decide +kernel⟩
set_option maxHeartbeats 4000000 in
set_option maxRecDepth 100000 in
theorem k_X5_stepsBetween (l : Launch) (D : va_G) (c : Nat → ClassId) (N : Nat) (t0 : Nat) (tA_numbers : Nat) (tA_syllables : Nat) (tA_days : Nat) (tA_words : Nat) (tA_parents : Nat) (tA_otherParents : Nat) (tA_kinds : Nat) (tA_hopeDays : Nat) (tA_hopeTenths : Nat) (t_numbers : Nat → Int32) (t_syllables : Nat → Int64) (t_syllableCount : Int32) (t_days : Nat → Int32) (t_words : Nat → Int64) (t_parents : Nat → Int32) (t_otherParents : Nat → Int32) (t_kinds : Nat → Int32) (t_personCount : Int32) (t_hopeDays : Nat → Int32) (t_hopeTenths : Nat → Int32) (t_hopeCount : Int32) (t_degreesTold : Int32) (p1 : Int32) (p2 : Int32) (o : Int32) (hf : f_X5_stepsBetween N t_parents t_otherParents t_kinds t_personCount p1 p2 = some o) : zMPi l D c yX5_stepsBetween cX5_stepsBetween 5 (some .int) rm_X5_stepsBetween (wX5 c t0 tA_numbers tA_syllables tA_days tA_words tA_parents tA_otherParents tA_kinds tA_hopeDays tA_hopeTenths t_numbers t_syllables t_syllableCount t_days t_words t_parents t_otherParents t_kinds t_personCount t_hopeDays t_hopeTenths t_hopeCount t_degreesTold) [.ref t0, .int p1, .int p2] o := by
  refine zIP (by decide) (Nat.le_of_ble_eq_true rfl) ?_
  intro p e s m args below meth c0 Q hQ hx hb hr hlk hml hts hown hP hE hX hS ls hl
  have S : CallFix p m c0 cX5_stepsBetween 5 s args zT RX5 := ⟨hx, hb, hml, hown, hts⟩
  have hl : lv_has ls 5 [(0, .ref t0), (1, .int p1), (2, .int p2)] := hl
  unfold f_X5_stepsBetween at hf
  refine lv_iconst (v := (1 : Int32)) hx hb dX5_stepsBetween_0 (by decide) ?_
  refine lv_iload_n hx hb dX5_stepsBetween_1 rfl (lv_at hl 1 rfl) ?_
  refine lv_ishl hx hb dX5_stepsBetween_2 ?_
  obtain ⟨v3_1, ev3_1, hf⟩ := zz_let_use hf
  refine zti ev3_1 ?_
  refine lv_istore_n (lv' := [(3, .int v3_1), (0, .ref t0), (1, .int p1), (2, .int p2)]) hx hb dX5_stepsBetween_3 rfl hl (by decide) rfl (fun ls hl => ?_)
  refine lv_iconst (v := (0 : Int32)) hx hb dX5_stepsBetween_4 (by decide) ?_
  refine lv_istore (lv' := [(4, .int (0 : Int32)), (3, .int v3_1), (0, .ref t0), (1, .int p1), (2, .int p2)]) hx hb dX5_stepsBetween_5 hl (by decide) rfl (fun ls hl => ?_)
  obtain ⟨k_2, hk_2, hf⟩ := zz_let_use hf
  have hX_2 : ∀ (ls : Array Slot), k_2 = some o → lv_has ls 5 [] → W p l e rm_X5_stepsBetween s m args below meth c0 s.heap [] 0 0 Q (F0 m 37 ls []) := by
    intro ls hf hl
    subst hk_2
    refine lv_iconst (v := (-1 : Int32)) hx hb dX5_stepsBetween_37 (by decide) ?_
    exact zRPi hQ hx hb hr hlk (Option.some.inj hf) dX5_stepsBetween_38
  have hL_2 : ∀ (n_2 : Nat) (v3_3 : Int32) (v4_4 : Int32) (ls : Array Slot), f_X5_stepsBetween_L7 N k_2 t_parents t_otherParents t_kinds t_personCount p2 n_2 v3_3 v4_4 = some o → lv_has ls 5 [(0, .ref t0), (2, .int p2), (3, .int v3_3), (4, .int v4_4)] → W p l e rm_X5_stepsBetween s m args below meth c0 s.heap [] 0 0 Q (F0 m 7 ls []) := by
    intro n_2
    induction n_2 with
    | zero => intro v3_3 v4_4 ls hf hl; exact zz_none hf
    | succ n_2 ih_2 =>
      intro v3_3 v4_4 ls hf hl
      rw [f_X5_stepsBetween_L7_s] at hf
      refine lv_iload hx hb dX5_stepsBetween_7 (lv_at hl 3 rfl) ?_
      refine lv_bipush (v := (16 : Int32)) hx hb dX5_stepsBetween_9 (by decide) ?_
      refine lv_icmp_ge (tgt := 37) hx hb dX5_stepsBetween_11 (by decide) (fun hc_5 => ?_) (fun hc_5 => ?_)
      · have hf := zz_it hf hc_5
        exact hX_2 ls hf (lv_sub hl [] rfl)
      · have hf := zz_if hf hc_5
        refine lv_iload_n hx hb dX5_stepsBetween_14 rfl (lv_at hl 2 rfl) ?_
        refine lv_iload_n hx hb dX5_stepsBetween_15 rfl (lv_at hl 1 rfl) ?_
        refine lv_ishr hx hb dX5_stepsBetween_16 ?_
        refine lv_iconst (v := (1 : Int32)) hx hb dX5_stepsBetween_17 (by decide) ?_
        refine lv_iand hx hb dX5_stepsBetween_18 ?_
        refine lv_if_eq (tgt := 25) hx hb dX5_stepsBetween_19 (by decide) (fun hc_6 => ?_) (fun hc_6 => ?_)
        · have hf := zz_it hf hc_6
          refine lv_aload_n hx hb dX5_stepsBetween_25 rfl (lv_at hl 0 rfl) ?_
          refine lv_iload_n hx hb dX5_stepsBetween_26 rfl (lv_at hl 2 rfl) ?_
          obtain ⟨r_7, he_7, hf⟩ := zz_b1_use hf
          refine zcVi (As := [.int v3_3]) (rest := []) S (k_X5_oneStepMore l D c N t0 tA_numbers tA_syllables tA_days tA_words tA_parents tA_otherParents tA_kinds tA_hopeDays tA_hopeTenths t_numbers t_syllables t_syllableCount t_days t_words t_parents t_otherParents t_kinds t_personCount t_hopeDays t_hopeTenths t_hopeCount t_degreesTold v3_3 r_7 he_7) mi_X5_oneStepMore tw_3_10 ⟨(Nat.le_of_ble_eq_true rfl), (Nat.le_of_ble_eq_true rfl)⟩ ⟨rfl, rfl⟩ hP hE hX hS (ci := 5) rfl rfl (q0 := 0) rfl rfl hl.1 rfl (Nat.le_of_ble_eq_true rfl) dX5_stepsBetween_27 ⟨(Nat.le_of_ble_eq_true rfl), (Nat.le_of_ble_eq_true rfl)⟩ ?_
          refine lv_istore_n (lv' := [(3, .int r_7), (0, .ref t0), (2, .int p2), (4, .int v4_4)]) hx hb dX5_stepsBetween_30 rfl hl (by decide) rfl (fun ls hl => ?_)
          obtain ⟨v4_8, ev4_8, hf⟩ := zz_let_use hf
          refine lv_iinc (v := v4_8) (lv' := [(4, .int v4_8), (3, .int r_7), (0, .ref t0), (2, .int p2)]) hx hb dX5_stepsBetween_31 hl (k := 3) rfl (by rw [← ev4_8]; rfl) (by decide) rfl (fun ls hl => ?_)
          refine lv_goto (tgt := 7) hx hb dX5_stepsBetween_34 (by decide) ?_
          exact ih_2 r_7 v4_8 ls hf (lv_sub hl [2, 3, 1, 0] rfl)
        · have hf := zz_if hf hc_6
          refine lv_iload hx hb dX5_stepsBetween_22 (lv_at hl 3 rfl) ?_
          exact zRPi hQ hx hb hr hlk (Option.some.inj hf) dX5_stepsBetween_24
  exact hL_2 N v3_1 (0 : Int32) ls hf (lv_sub hl [2, 4, 1, 0] rfl)
def f_X5_sumOfAll_L4 (N : Nat) (k_1 : (Int32) → Option (Int32)) (t_numbers : Nat → Int32) (t_words : Nat → Int64) (t_personCount : Int32) (p1 : Int32) : Nat → (Int32) → (Int32) → Option (Int32)
  | 0, _, _ => none
  | n_1 + 1, v2_2, v3_3 => (if t_personCount ≤ v3_3 then (k_1 v2_2) else zz_let (fun (v2_10 : Int32) => zz_let (v3_3 + (1 : Int32)) (fun v3_11 => (f_X5_sumOfAll_L4 N k_1 t_numbers t_words t_personCount p1 n_1 v2_10 v3_11))) (fun k_9 => (if ((p1 >>> (v3_3 &&& 31)) &&& (1 : Int32)) = 0 then (k_9 v2_2) else zz_gd (zz_in v3_3 16) (zz_b1 (f_X5_sumOf N t_numbers (t_words v3_3.toNatClampNeg)) (fun r_7 => zz_let (v2_2 + r_7) (fun v2_8 => (k_9 v2_8)))))))
theorem f_X5_sumOfAll_L4_s (N : Nat) (k_1 : (Int32) → Option (Int32)) (t_numbers : Nat → Int32) (t_words : Nat → Int64) (t_personCount : Int32) (p1 : Int32) (n_1 : Nat) (v2_2 : Int32) (v3_3 : Int32) : f_X5_sumOfAll_L4 N k_1 t_numbers t_words t_personCount p1 (n_1 + 1) v2_2 v3_3 = (if t_personCount ≤ v3_3 then (k_1 v2_2) else zz_let (fun (v2_10 : Int32) => zz_let (v3_3 + (1 : Int32)) (fun v3_11 => (f_X5_sumOfAll_L4 N k_1 t_numbers t_words t_personCount p1 n_1 v2_10 v3_11))) (fun k_9 => (if ((p1 >>> (v3_3 &&& 31)) &&& (1 : Int32)) = 0 then (k_9 v2_2) else zz_gd (zz_in v3_3 16) (zz_b1 (f_X5_sumOf N t_numbers (t_words v3_3.toNatClampNeg)) (fun r_7 => zz_let (v2_2 + r_7) (fun v2_8 => (k_9 v2_8))))))) := rfl
def f_X5_sumOfAll (N : Nat) (t_numbers : Nat → Int32) (t_words : Nat → Int64) (t_personCount : Int32) (p1 : Int32) : Option (Int32) := zz_let (fun (v2_12 : Int32) => (some v2_12)) (fun k_1 => f_X5_sumOfAll_L4 N k_1 t_numbers t_words t_personCount p1 N (0 : Int32) (0 : Int32))
abbrev rm_X5_sumOfAll : Room := { frames := 2, cells := 0, slots := 0, locals := 48 }
theorem mi_X5_sumOfAll : zMI RX5 yX5_sumOfAll cX5_sumOfAll 4 (some .int) 1 := ⟨⟨tw_4_81, tw_4_82, tw_1_2, tw_4_83⟩, by decide +kernel, by decide +kernel, by decide +kernel⟩
set_option maxHeartbeats 4000000 in
set_option maxRecDepth 100000 in
theorem k_X5_sumOfAll (l : Launch) (D : va_G) (c : Nat → ClassId) (N : Nat) (t0 : Nat) (tA_numbers : Nat) (tA_syllables : Nat) (tA_days : Nat) (tA_words : Nat) (tA_parents : Nat) (tA_otherParents : Nat) (tA_kinds : Nat) (tA_hopeDays : Nat) (tA_hopeTenths : Nat) (t_numbers : Nat → Int32) (t_syllables : Nat → Int64) (t_syllableCount : Int32) (t_days : Nat → Int32) (t_words : Nat → Int64) (t_parents : Nat → Int32) (t_otherParents : Nat → Int32) (t_kinds : Nat → Int32) (t_personCount : Int32) (t_hopeDays : Nat → Int32) (t_hopeTenths : Nat → Int32) (t_hopeCount : Int32) (t_degreesTold : Int32) (p1 : Int32) (o : Int32) (hf : f_X5_sumOfAll N t_numbers t_words t_personCount p1 = some o) : zMPi l D c yX5_sumOfAll cX5_sumOfAll 4 (some .int) rm_X5_sumOfAll (wX5 c t0 tA_numbers tA_syllables tA_days tA_words tA_parents tA_otherParents tA_kinds tA_hopeDays tA_hopeTenths t_numbers t_syllables t_syllableCount t_days t_words t_parents t_otherParents t_kinds t_personCount t_hopeDays t_hopeTenths t_hopeCount t_degreesTold) [.ref t0, .int p1] o := by
  refine zIP (by decide) (Nat.le_of_ble_eq_true rfl) ?_
  intro p e s m args below meth c0 Q hQ hx hb hr hlk hml hts hown hP hE hX hS ls hl
  have S : CallFix p m c0 cX5_sumOfAll 4 s args zT RX5 := ⟨hx, hb, hml, hown, hts⟩
  have hl : lv_has ls 4 [(0, .ref t0), (1, .int p1)] := hl
  unfold f_X5_sumOfAll at hf
  refine lv_iconst (v := (0 : Int32)) hx hb dX5_sumOfAll_0 (by decide) ?_
  refine lv_istore_n (lv' := [(2, .int (0 : Int32)), (0, .ref t0), (1, .int p1)]) hx hb dX5_sumOfAll_1 rfl hl (by decide) rfl (fun ls hl => ?_)
  refine lv_iconst (v := (0 : Int32)) hx hb dX5_sumOfAll_2 (by decide) ?_
  refine lv_istore_n (lv' := [(3, .int (0 : Int32)), (2, .int (0 : Int32)), (0, .ref t0), (1, .int p1)]) hx hb dX5_sumOfAll_3 rfl hl (by decide) rfl (fun ls hl => ?_)
  obtain ⟨k_1, hk_1, hf⟩ := zz_let_use hf
  have hX_1 : ∀ (v2_12 : Int32) (ls : Array Slot), k_1 v2_12 = some o → lv_has ls 4 [(2, .int v2_12)] → W p l e rm_X5_sumOfAll s m args below meth c0 s.heap [] 0 0 Q (F0 m 39 ls []) := by
    intro v2_12 ls hf hl
    subst hk_1
    refine lv_iload_n hx hb dX5_sumOfAll_39 rfl (lv_at hl 0 rfl) ?_
    exact zRPi hQ hx hb hr hlk (Option.some.inj hf) dX5_sumOfAll_40
  have hL_1 : ∀ (n_1 : Nat) (v2_2 : Int32) (v3_3 : Int32) (ls : Array Slot), f_X5_sumOfAll_L4 N k_1 t_numbers t_words t_personCount p1 n_1 v2_2 v3_3 = some o → lv_has ls 4 [(0, .ref t0), (1, .int p1), (2, .int v2_2), (3, .int v3_3)] → W p l e rm_X5_sumOfAll s m args below meth c0 s.heap [] 0 0 Q (F0 m 4 ls []) := by
    intro n_1
    induction n_1 with
    | zero => intro v2_2 v3_3 ls hf hl; exact zz_none hf
    | succ n_1 ih_1 =>
      intro v2_2 v3_3 ls hf hl
      rw [f_X5_sumOfAll_L4_s] at hf
      refine lv_iload_n hx hb dX5_sumOfAll_4 rfl (lv_at hl 3 rfl) ?_
      refine lv_aload_n hx hb dX5_sumOfAll_5 rfl (lv_at hl 0 rfl) ?_
      refine zget S uw_X5 hE hP 0 8 rfl rfl (by decide) tw_1_53 rfl rfl dX5_sumOfAll_6 ?_
      refine lv_icmp_ge (tgt := 39) hx hb dX5_sumOfAll_9 (by decide) (fun hc_4 => ?_) (fun hc_4 => ?_)
      · have hf := zz_it hf hc_4
        exact hX_1 v2_2 ls hf (lv_sub hl [2] rfl)
      · have hf := zz_if hf hc_4
        refine lv_iload_n hx hb dX5_sumOfAll_12 rfl (lv_at hl 1 rfl) ?_
        refine lv_iload_n hx hb dX5_sumOfAll_13 rfl (lv_at hl 3 rfl) ?_
        refine lv_ishr hx hb dX5_sumOfAll_14 ?_
        refine lv_iconst (v := (1 : Int32)) hx hb dX5_sumOfAll_15 (by decide) ?_
        refine lv_iand hx hb dX5_sumOfAll_16 ?_
        obtain ⟨k_9, hk_9, hf⟩ := zz_let_use hf
        have hJ_9 : ∀ (v2_10 : Int32) (ls : Array Slot), k_9 v2_10 = some o → lv_has ls 4 [(0, .ref t0), (1, .int p1), (2, .int v2_10), (3, .int v3_3)] → W p l e rm_X5_sumOfAll s m args below meth c0 s.heap [] 0 0 Q (F0 m 33 ls []) := by
          intro v2_10 ls hf hl
          subst hk_9
          obtain ⟨v3_11, ev3_11, hf⟩ := zz_let_use hf
          refine lv_iinc (v := v3_11) (lv' := [(3, .int v3_11), (0, .ref t0), (1, .int p1), (2, .int v2_10)]) hx hb dX5_sumOfAll_33 hl (k := 3) rfl (by rw [← ev3_11]; rfl) (by decide) rfl (fun ls hl => ?_)
          refine lv_goto (tgt := 4) hx hb dX5_sumOfAll_36 (by decide) ?_
          exact ih_1 v2_10 v3_11 ls hf (lv_sub hl [1, 2, 3, 0] rfl)
        refine lv_if_eq (tgt := 33) hx hb dX5_sumOfAll_17 (by decide) (fun hc_5 => ?_) (fun hc_5 => ?_)
        · have hf := zz_it hf hc_5
          exact hJ_9 v2_2 ls hf (lv_sub hl [0, 1, 2, 3] rfl)
        · have hf := zz_if hf hc_5
          refine lv_iload_n hx hb dX5_sumOfAll_20 rfl (lv_at hl 2 rfl) ?_
          refine lv_aload_n hx hb dX5_sumOfAll_21 rfl (lv_at hl 0 rfl) ?_
          refine lv_aload_n hx hb dX5_sumOfAll_22 rfl (lv_at hl 0 rfl) ?_
          refine zget S uw_X5 hE hP 0 4 rfl rfl (by decide) tw_1_43 rfl rfl dX5_sumOfAll_23 ?_
          refine lv_iload_n hx hb dX5_sumOfAll_26 rfl (lv_at hl 3 rfl) ?_
          obtain ⟨hin_6, hf⟩ := zz_gd_use hf
          refine zlld hx hb hE hP 4 rfl (zz_in_ok hin_6) dX5_sumOfAll_27 ?_
          obtain ⟨r_7, he_7, hf⟩ := zz_b1_use hf
          refine zcVi (As := [.long (t_words v3_3.toNatClampNeg)]) (rest := [.int v2_2]) S (k_X5_sumOf l D c N t0 tA_numbers tA_syllables tA_days tA_words tA_parents tA_otherParents tA_kinds tA_hopeDays tA_hopeTenths t_numbers t_syllables t_syllableCount t_days t_words t_parents t_otherParents t_kinds t_personCount t_hopeDays t_hopeTenths t_hopeCount t_degreesTold (t_words v3_3.toNatClampNeg) r_7 he_7) mi_X5_sumOf tw_3_67 ⟨(Nat.le_of_ble_eq_true rfl), (Nat.le_of_ble_eq_true rfl)⟩ ⟨rfl, rfl⟩ hP hE hX hS (ci := 5) rfl rfl (q0 := 0) rfl rfl hl.1 rfl (Nat.le_of_ble_eq_true rfl) dX5_sumOfAll_28 ⟨(Nat.le_of_ble_eq_true rfl), (Nat.le_of_ble_eq_true rfl)⟩ ?_
          refine lv_iadd hx hb dX5_sumOfAll_31 ?_
          obtain ⟨v2_8, ev2_8, hf⟩ := zz_let_use hf
          refine zti ev2_8 ?_
          refine lv_istore_n (lv' := [(2, .int v2_8), (0, .ref t0), (1, .int p1), (3, .int v3_3)]) hx hb dX5_sumOfAll_32 rfl hl (by decide) rfl (fun ls hl => ?_)
          exact hJ_9 v2_8 ls hf (lv_sub hl [1, 2, 0, 3] rfl)
  exact hL_1 N (0 : Int32) (0 : Int32) ls hf (lv_sub hl [2, 3, 1, 0] rfl)
def f_X5_othersOfNumber_L5 (N : Nat) (k_1 : (Int32) → Option (Int32)) (t_numbers : Nat → Int32) (p1 : Int32) (p2 : Int32) : Nat → (Int32) → (Int32) → Option (Int32)
  | 0, _, _ => none
  | n_1 + 1, v3_2, v4_3 => (if (26 : Int32) ≤ v4_3 then (k_1 v3_2) else zz_let (fun (v3_11 : Int32) => zz_let (v4_3 + (1 : Int32)) (fun v4_12 => (f_X5_othersOfNumber_L5 N k_1 t_numbers p1 p2 n_1 v3_11 v4_12))) (fun k_10 => (if v4_3 = p2 then (k_10 v3_2) else (if p1 ≤ 0 then (k_10 v3_2) else zz_gd (zz_in v4_3 26) ((if (t_numbers v4_3.toNatClampNeg) = p1 then zz_let (v3_2 + (1 : Int32)) (fun v3_9 => (k_10 v3_9)) else (k_10 v3_2)))))))
theorem f_X5_othersOfNumber_L5_s (N : Nat) (k_1 : (Int32) → Option (Int32)) (t_numbers : Nat → Int32) (p1 : Int32) (p2 : Int32) (n_1 : Nat) (v3_2 : Int32) (v4_3 : Int32) : f_X5_othersOfNumber_L5 N k_1 t_numbers p1 p2 (n_1 + 1) v3_2 v4_3 = (if (26 : Int32) ≤ v4_3 then (k_1 v3_2) else zz_let (fun (v3_11 : Int32) => zz_let (v4_3 + (1 : Int32)) (fun v4_12 => (f_X5_othersOfNumber_L5 N k_1 t_numbers p1 p2 n_1 v3_11 v4_12))) (fun k_10 => (if v4_3 = p2 then (k_10 v3_2) else (if p1 ≤ 0 then (k_10 v3_2) else zz_gd (zz_in v4_3 26) ((if (t_numbers v4_3.toNatClampNeg) = p1 then zz_let (v3_2 + (1 : Int32)) (fun v3_9 => (k_10 v3_9)) else (k_10 v3_2))))))) := rfl
def f_X5_othersOfNumber (N : Nat) (t_numbers : Nat → Int32) (p1 : Int32) (p2 : Int32) : Option (Int32) := zz_let (fun (v3_13 : Int32) => (some v3_13)) (fun k_1 => f_X5_othersOfNumber_L5 N k_1 t_numbers p1 p2 N (0 : Int32) (0 : Int32))
abbrev rm_X5_othersOfNumber : Room := { frames := 0, cells := 0, slots := 0, locals := 0 }
theorem mi_X5_othersOfNumber : zMI RX5 yX5_othersOfNumber cX5_othersOfNumber 5 (some .int) 2 := ⟨⟨tw_4_90, ts_X5_othersOfNumber, tw_1_2, tw_4_91⟩, by decide +kernel, by decide +kernel, by decide +kernel⟩
set_option maxHeartbeats 4000000 in
set_option maxRecDepth 100000 in
theorem k_X5_othersOfNumber (l : Launch) (D : va_G) (c : Nat → ClassId) (N : Nat) (t0 : Nat) (tA_numbers : Nat) (tA_syllables : Nat) (tA_days : Nat) (tA_words : Nat) (tA_parents : Nat) (tA_otherParents : Nat) (tA_kinds : Nat) (tA_hopeDays : Nat) (tA_hopeTenths : Nat) (t_numbers : Nat → Int32) (t_syllables : Nat → Int64) (t_syllableCount : Int32) (t_days : Nat → Int32) (t_words : Nat → Int64) (t_parents : Nat → Int32) (t_otherParents : Nat → Int32) (t_kinds : Nat → Int32) (t_personCount : Int32) (t_hopeDays : Nat → Int32) (t_hopeTenths : Nat → Int32) (t_hopeCount : Int32) (t_degreesTold : Int32) (p1 : Int32) (p2 : Int32) (o : Int32) (hf : f_X5_othersOfNumber N t_numbers p1 p2 = some o) : zMPi l D c yX5_othersOfNumber cX5_othersOfNumber 5 (some .int) rm_X5_othersOfNumber (wX5 c t0 tA_numbers tA_syllables tA_days tA_words tA_parents tA_otherParents tA_kinds tA_hopeDays tA_hopeTenths t_numbers t_syllables t_syllableCount t_days t_words t_parents t_otherParents t_kinds t_personCount t_hopeDays t_hopeTenths t_hopeCount t_degreesTold) [.ref t0, .int p1, .int p2] o := by
  refine zIP (by decide) (Nat.le_of_ble_eq_true rfl) ?_
  intro p e s m args below meth c0 Q hQ hx hb hr hlk hml hts hown hP hE hX hS ls hl
  have S : CallFix p m c0 cX5_othersOfNumber 5 s args zT RX5 := ⟨hx, hb, hml, hown, hts⟩
  have hl : lv_has ls 5 [(0, .ref t0), (1, .int p1), (2, .int p2)] := hl
  unfold f_X5_othersOfNumber at hf
  refine lv_iconst (v := (0 : Int32)) hx hb dX5_othersOfNumber_0 (by decide) ?_
  refine lv_istore_n (lv' := [(3, .int (0 : Int32)), (0, .ref t0), (1, .int p1), (2, .int p2)]) hx hb dX5_othersOfNumber_1 rfl hl (by decide) rfl (fun ls hl => ?_)
  refine lv_iconst (v := (0 : Int32)) hx hb dX5_othersOfNumber_2 (by decide) ?_
  refine lv_istore (lv' := [(4, .int (0 : Int32)), (3, .int (0 : Int32)), (0, .ref t0), (1, .int p1), (2, .int p2)]) hx hb dX5_othersOfNumber_3 hl (by decide) rfl (fun ls hl => ?_)
  obtain ⟨k_1, hk_1, hf⟩ := zz_let_use hf
  have hX_1 : ∀ (v3_13 : Int32) (ls : Array Slot), k_1 v3_13 = some o → lv_has ls 5 [(3, .int v3_13)] → W p l e rm_X5_othersOfNumber s m args below meth c0 s.heap [] 0 0 Q (F0 m 42 ls []) := by
    intro v3_13 ls hf hl
    subst hk_1
    refine lv_iload_n hx hb dX5_othersOfNumber_42 rfl (lv_at hl 0 rfl) ?_
    exact zRPi hQ hx hb hr hlk (Option.some.inj hf) dX5_othersOfNumber_43
  have hL_1 : ∀ (n_1 : Nat) (v3_2 : Int32) (v4_3 : Int32) (ls : Array Slot), f_X5_othersOfNumber_L5 N k_1 t_numbers p1 p2 n_1 v3_2 v4_3 = some o → lv_has ls 5 [(0, .ref t0), (1, .int p1), (2, .int p2), (3, .int v3_2), (4, .int v4_3)] → W p l e rm_X5_othersOfNumber s m args below meth c0 s.heap [] 0 0 Q (F0 m 5 ls []) := by
    intro n_1
    induction n_1 with
    | zero => intro v3_2 v4_3 ls hf hl; exact zz_none hf
    | succ n_1 ih_1 =>
      intro v3_2 v4_3 ls hf hl
      rw [f_X5_othersOfNumber_L5_s] at hf
      refine lv_iload hx hb dX5_othersOfNumber_5 (lv_at hl 4 rfl) ?_
      refine lv_bipush (v := (26 : Int32)) hx hb dX5_othersOfNumber_7 (by decide) ?_
      refine lv_icmp_ge (tgt := 42) hx hb dX5_othersOfNumber_9 (by decide) (fun hc_4 => ?_) (fun hc_4 => ?_)
      · have hf := zz_it hf hc_4
        exact hX_1 v3_2 ls hf (lv_sub hl [3] rfl)
      · have hf := zz_if hf hc_4
        refine lv_iload hx hb dX5_othersOfNumber_12 (lv_at hl 4 rfl) ?_
        refine lv_iload_n hx hb dX5_othersOfNumber_14 rfl (lv_at hl 2 rfl) ?_
        obtain ⟨k_10, hk_10, hf⟩ := zz_let_use hf
        have hJ_10 : ∀ (v3_11 : Int32) (ls : Array Slot), k_10 v3_11 = some o → lv_has ls 5 [(0, .ref t0), (1, .int p1), (2, .int p2), (3, .int v3_11), (4, .int v4_3)] → W p l e rm_X5_othersOfNumber s m args below meth c0 s.heap [] 0 0 Q (F0 m 36 ls []) := by
          intro v3_11 ls hf hl
          subst hk_10
          obtain ⟨v4_12, ev4_12, hf⟩ := zz_let_use hf
          refine lv_iinc (v := v4_12) (lv' := [(4, .int v4_12), (0, .ref t0), (1, .int p1), (2, .int p2), (3, .int v3_11)]) hx hb dX5_othersOfNumber_36 hl (k := 4) rfl (by rw [← ev4_12]; rfl) (by decide) rfl (fun ls hl => ?_)
          refine lv_goto (tgt := 5) hx hb dX5_othersOfNumber_39 (by decide) ?_
          exact ih_1 v3_11 v4_12 ls hf (lv_sub hl [1, 2, 3, 4, 0] rfl)
        refine lv_icmp_eq (tgt := 36) hx hb dX5_othersOfNumber_15 (by decide) (fun hc_5 => ?_) (fun hc_5 => ?_)
        · have hf := zz_it hf hc_5
          exact hJ_10 v3_2 ls hf (lv_sub hl [0, 1, 2, 3, 4] rfl)
        · have hf := zz_if hf hc_5
          refine lv_iload_n hx hb dX5_othersOfNumber_18 rfl (lv_at hl 1 rfl) ?_
          refine lv_if_le (tgt := 36) hx hb dX5_othersOfNumber_19 (by decide) (fun hc_6 => ?_) (fun hc_6 => ?_)
          · have hf := zz_it hf hc_6
            exact hJ_10 v3_2 ls hf (lv_sub hl [0, 1, 2, 3, 4] rfl)
          · have hf := zz_if hf hc_6
            refine lv_aload_n hx hb dX5_othersOfNumber_22 rfl (lv_at hl 0 rfl) ?_
            refine zget S uw_X5 hE hP 0 0 rfl rfl (by decide) tw_1_30 rfl rfl dX5_othersOfNumber_23 ?_
            refine lv_iload hx hb dX5_othersOfNumber_26 (lv_at hl 4 rfl) ?_
            obtain ⟨hin_7, hf⟩ := zz_gd_use hf
            refine zild hx hb hE hP 1 rfl (zz_in_ok hin_7) dX5_othersOfNumber_28 ?_
            refine lv_iload_n hx hb dX5_othersOfNumber_29 rfl (lv_at hl 1 rfl) ?_
            refine lv_icmp_ne (tgt := 36) hx hb dX5_othersOfNumber_30 (by decide) (fun hc_8 => ?_) (fun hc_8 => ?_)
            · have hf := zz_if hf hc_8
              exact hJ_10 v3_2 ls hf (lv_sub hl [0, 1, 2, 3, 4] rfl)
            · have hf := zz_it hf hc_8
              obtain ⟨v3_9, ev3_9, hf⟩ := zz_let_use hf
              refine lv_iinc (v := v3_9) (lv' := [(3, .int v3_9), (0, .ref t0), (1, .int p1), (2, .int p2), (4, .int v4_3)]) hx hb dX5_othersOfNumber_33 hl (k := 3) rfl (by rw [← ev3_9]; rfl) (by decide) rfl (fun ls hl => ?_)
              exact hJ_10 v3_9 ls hf (lv_sub hl [1, 2, 3, 0, 4] rfl)
  exact hL_1 N (0 : Int32) (0 : Int32) ls hf (lv_sub hl [2, 3, 4, 1, 0] rfl)
def f_X5_changesBy_L9 (N : Nat) (k_1 : (Int32) → Option (Int32)) (t_numbers : Nat → Int32) (p3 : Int32) : Nat → (Int32) → (Int64) → (Int32) → Option (Int32)
  | 0, _, _, _ => none
  | n_1 + 1, v4_2, v5_3, v7_4 => (if (9 : Int32) ≤ v7_4 then (k_1 v4_2) else (if v5_3 ≤ (0 : Int64) then (k_1 v4_2) else zz_b1 (f_X6_lastLetter N v5_3) (fun r_7 => zz_b1 (f_X6_isLetter N r_7) (fun r_8 => zz_let (fun (v4_14 : Int32) => zz_let (v5_3 / (27 : Int64)) (fun v5_15 => zz_let (v7_4 + (1 : Int32)) (fun v7_16 => (f_X5_changesBy_L9 N k_1 t_numbers p3 n_1 v4_14 v5_15 v7_16)))) (fun k_13 => (if r_8 = 0 then (k_13 v4_2) else zz_gd (zz_in r_7 26) (zz_b1 (f_X5_othersOfNumber N t_numbers ((t_numbers r_7.toNatClampNeg) + p3) r_7) (fun r_11 => zz_let (v4_2 + r_11) (fun v4_12 => (k_13 v4_12))))))))))
theorem f_X5_changesBy_L9_s (N : Nat) (k_1 : (Int32) → Option (Int32)) (t_numbers : Nat → Int32) (p3 : Int32) (n_1 : Nat) (v4_2 : Int32) (v5_3 : Int64) (v7_4 : Int32) : f_X5_changesBy_L9 N k_1 t_numbers p3 (n_1 + 1) v4_2 v5_3 v7_4 = (if (9 : Int32) ≤ v7_4 then (k_1 v4_2) else (if v5_3 ≤ (0 : Int64) then (k_1 v4_2) else zz_b1 (f_X6_lastLetter N v5_3) (fun r_7 => zz_b1 (f_X6_isLetter N r_7) (fun r_8 => zz_let (fun (v4_14 : Int32) => zz_let (v5_3 / (27 : Int64)) (fun v5_15 => zz_let (v7_4 + (1 : Int32)) (fun v7_16 => (f_X5_changesBy_L9 N k_1 t_numbers p3 n_1 v4_14 v5_15 v7_16)))) (fun k_13 => (if r_8 = 0 then (k_13 v4_2) else zz_gd (zz_in r_7 26) (zz_b1 (f_X5_othersOfNumber N t_numbers ((t_numbers r_7.toNatClampNeg) + p3) r_7) (fun r_11 => zz_let (v4_2 + r_11) (fun v4_12 => (k_13 v4_12)))))))))) := rfl
def f_X5_changesBy (N : Nat) (t_numbers : Nat → Int32) (p1 : Int64) (p3 : Int32) : Option (Int32) := zz_let (fun (v4_17 : Int32) => (some v4_17)) (fun k_1 => f_X5_changesBy_L9 N k_1 t_numbers p3 N (0 : Int32) p1 (0 : Int32))
abbrev rm_X5_changesBy : Room := { frames := 1, cells := 0, slots := 0, locals := 24 }
theorem mi_X5_changesBy : zMI RX5 yX5_changesBy cX5_changesBy 9 (some .int) 2 := ⟨⟨tw_4_85, tw_4_86, tw_1_2, tw_4_87⟩, by decide +kernel, by decide +kernel, by decide +kernel⟩
set_option maxHeartbeats 4000000 in
set_option maxRecDepth 100000 in
theorem k_X5_changesBy (l : Launch) (D : va_G) (c : Nat → ClassId) (N : Nat) (t0 : Nat) (tA_numbers : Nat) (tA_syllables : Nat) (tA_days : Nat) (tA_words : Nat) (tA_parents : Nat) (tA_otherParents : Nat) (tA_kinds : Nat) (tA_hopeDays : Nat) (tA_hopeTenths : Nat) (t_numbers : Nat → Int32) (t_syllables : Nat → Int64) (t_syllableCount : Int32) (t_days : Nat → Int32) (t_words : Nat → Int64) (t_parents : Nat → Int32) (t_otherParents : Nat → Int32) (t_kinds : Nat → Int32) (t_personCount : Int32) (t_hopeDays : Nat → Int32) (t_hopeTenths : Nat → Int32) (t_hopeCount : Int32) (t_degreesTold : Int32) (p1 : Int64) (p3 : Int32) (o : Int32) (hf : f_X5_changesBy N t_numbers p1 p3 = some o) : zMPi l D c yX5_changesBy cX5_changesBy 9 (some .int) rm_X5_changesBy (wX5 c t0 tA_numbers tA_syllables tA_days tA_words tA_parents tA_otherParents tA_kinds tA_hopeDays tA_hopeTenths t_numbers t_syllables t_syllableCount t_days t_words t_parents t_otherParents t_kinds t_personCount t_hopeDays t_hopeTenths t_hopeCount t_degreesTold) [.ref t0, .long p1, .int p3] o := by
  refine zIP (by decide) (Nat.le_of_ble_eq_true rfl) ?_
  intro p e s m args below meth c0 Q hQ hx hb hr hlk hml hts hown hP hE hX hS ls hl
  have S : CallFix p m c0 cX5_changesBy 9 s args zT RX5 := ⟨hx, hb, hml, hown, hts⟩
  have hl : lv_has ls 9 [(0, .ref t0), (1, .long p1), (3, .int p3)] := hl
  unfold f_X5_changesBy at hf
  refine lv_iconst (v := (0 : Int32)) hx hb dX5_changesBy_0 (by decide) ?_
  refine lv_istore (lv' := [(4, .int (0 : Int32)), (0, .ref t0), (1, .long p1), (3, .int p3)]) hx hb dX5_changesBy_1 hl (by decide) rfl (fun ls hl => ?_)
  refine lv_lload_n hx hb dX5_changesBy_3 rfl (lv_at hl 2 rfl) ?_
  refine lv_lstore (lv' := [(5, .long p1), (4, .int (0 : Int32)), (0, .ref t0), (1, .long p1), (3, .int p3)]) hx hb dX5_changesBy_4 hl (by decide) rfl (fun ls hl => ?_)
  refine lv_iconst (v := (0 : Int32)) hx hb dX5_changesBy_6 (by decide) ?_
  refine lv_istore (lv' := [(7, .int (0 : Int32)), (5, .long p1), (4, .int (0 : Int32)), (0, .ref t0), (1, .long p1), (3, .int p3)]) hx hb dX5_changesBy_7 hl (by decide) rfl (fun ls hl => ?_)
  obtain ⟨k_1, hk_1, hf⟩ := zz_let_use hf
  have hX_1 : ∀ (v4_17 : Int32) (ls : Array Slot), k_1 v4_17 = some o → lv_has ls 9 [(4, .int v4_17)] → W p l e rm_X5_changesBy s m args below meth c0 s.heap [] 0 0 Q (F0 m 72 ls []) := by
    intro v4_17 ls hf hl
    subst hk_1
    refine lv_iload hx hb dX5_changesBy_72 (lv_at hl 0 rfl) ?_
    exact zRPi hQ hx hb hr hlk (Option.some.inj hf) dX5_changesBy_74
  have hL_1 : ∀ (n_1 : Nat) (v4_2 : Int32) (v5_3 : Int64) (v7_4 : Int32) (ls : Array Slot), f_X5_changesBy_L9 N k_1 t_numbers p3 n_1 v4_2 v5_3 v7_4 = some o → lv_has ls 9 [(0, .ref t0), (3, .int p3), (4, .int v4_2), (5, .long v5_3), (7, .int v7_4)] → W p l e rm_X5_changesBy s m args below meth c0 s.heap [] 0 0 Q (F0 m 9 ls []) := by
    intro n_1
    induction n_1 with
    | zero => intro v4_2 v5_3 v7_4 ls hf hl; exact zz_none hf
    | succ n_1 ih_1 =>
      intro v4_2 v5_3 v7_4 ls hf hl
      rw [f_X5_changesBy_L9_s] at hf
      refine lv_iload hx hb dX5_changesBy_9 (lv_at hl 4 rfl) ?_
      refine lv_bipush (v := (9 : Int32)) hx hb dX5_changesBy_11 (by decide) ?_
      refine lv_icmp_ge (tgt := 72) hx hb dX5_changesBy_13 (by decide) (fun hc_5 => ?_) (fun hc_5 => ?_)
      · have hf := zz_it hf hc_5
        exact hX_1 v4_2 ls hf (lv_sub hl [2] rfl)
      · have hf := zz_if hf hc_5
        refine lv_lload hx hb dX5_changesBy_16 (lv_at hl 3 rfl) ?_
        refine lv_lconst (v := (0 : Int64)) hx hb dX5_changesBy_18 (by decide) ?_
        refine zlc_le (tgt := 72) hx hb dX5_changesBy_19 dX5_changesBy_20 (by decide) (fun hc_6 => ?_) (fun hc_6 => ?_)
        · have hf := zz_it hf hc_6
          exact hX_1 v4_2 ls hf (lv_sub hl [2] rfl)
        · have hf := zz_if hf hc_6
          refine lv_lload hx hb dX5_changesBy_23 (lv_at hl 3 rfl) ?_
          obtain ⟨r_7, he_7, hf⟩ := zz_b1_use hf
          refine zcNi (As := [.long v5_3]) (rest := []) S (k_X6_lastLetter l D c N  v5_3 r_7 he_7) mi_X6_lastLetter tn_X5_67 ⟨(Nat.le_of_ble_eq_true rfl), (Nat.le_of_ble_eq_true rfl)⟩ ⟨rfl, rfl⟩ (zpnil) hE hX hS rfl hl.1 rfl (Nat.le_of_ble_eq_true rfl) dX5_changesBy_25 ⟨(Nat.le_of_ble_eq_true rfl), (Nat.le_of_ble_eq_true rfl)⟩ ?_
          refine lv_istore (lv' := [(8, .int r_7), (0, .ref t0), (3, .int p3), (4, .int v4_2), (5, .long v5_3), (7, .int v7_4)]) hx hb dX5_changesBy_28 hl (by decide) rfl (fun ls hl => ?_)
          refine lv_iload hx hb dX5_changesBy_30 (lv_at hl 0 rfl) ?_
          obtain ⟨r_8, he_8, hf⟩ := zz_b1_use hf
          refine zcNi (As := [.int r_7]) (rest := []) S (k_X6_isLetter l D c N  r_7 r_8 he_8) mi_X6_isLetter tn_X5_71 ⟨(Nat.le_of_ble_eq_true rfl), (Nat.le_of_ble_eq_true rfl)⟩ ⟨rfl, rfl⟩ (zpnil) hE hX hS rfl hl.1 rfl (Nat.le_of_ble_eq_true rfl) dX5_changesBy_32 ⟨(Nat.le_of_ble_eq_true rfl), (Nat.le_of_ble_eq_true rfl)⟩ ?_
          obtain ⟨k_13, hk_13, hf⟩ := zz_let_use hf
          have hJ_13 : ∀ (v4_14 : Int32) (ls : Array Slot), k_13 v4_14 = some o → lv_has ls 9 [(0, .ref t0), (3, .int p3), (4, .int v4_14), (5, .long v5_3), (7, .int v7_4)] → W p l e rm_X5_changesBy s m args below meth c0 s.heap [] 0 0 Q (F0 m 58 ls []) := by
            intro v4_14 ls hf hl
            subst hk_13
            refine lv_lload hx hb dX5_changesBy_58 (lv_at hl 3 rfl) ?_
            refine lv_ldc2 (v := (27 : Int64)) hx hb hown (hts _ tw_3_54) dX5_changesBy_60 ?_
            refine lv_ldiv hx hb dX5_changesBy_63 (by decide) ?_
            obtain ⟨v5_15, ev5_15, hf⟩ := zz_let_use hf
            refine ztl ev5_15 ?_
            refine lv_lstore (lv' := [(5, .long v5_15), (0, .ref t0), (3, .int p3), (4, .int v4_14), (7, .int v7_4)]) hx hb dX5_changesBy_64 hl (by decide) rfl (fun ls hl => ?_)
            obtain ⟨v7_16, ev7_16, hf⟩ := zz_let_use hf
            refine lv_iinc (v := v7_16) (lv' := [(7, .int v7_16), (5, .long v5_15), (0, .ref t0), (3, .int p3), (4, .int v4_14)]) hx hb dX5_changesBy_66 hl (k := 4) rfl (by rw [← ev7_16]; rfl) (by decide) rfl (fun ls hl => ?_)
            refine lv_goto (tgt := 9) hx hb dX5_changesBy_69 (by decide) ?_
            exact ih_1 v4_14 v5_15 v7_16 ls hf (lv_sub hl [2, 3, 4, 1, 0] rfl)
          refine lv_if_eq (tgt := 58) hx hb dX5_changesBy_35 (by decide) (fun hc_9 => ?_) (fun hc_9 => ?_)
          · have hf := zz_it hf hc_9
            exact hJ_13 v4_2 ls hf (lv_sub hl [1, 2, 3, 4, 5] rfl)
          · have hf := zz_if hf hc_9
            refine lv_iload hx hb dX5_changesBy_38 (lv_at hl 3 rfl) ?_
            refine lv_aload_n hx hb dX5_changesBy_40 rfl (lv_at hl 1 rfl) ?_
            refine lv_aload_n hx hb dX5_changesBy_41 rfl (lv_at hl 1 rfl) ?_
            refine zget S uw_X5 hE hP 0 0 rfl rfl (by decide) tw_1_30 rfl rfl dX5_changesBy_42 ?_
            refine lv_iload hx hb dX5_changesBy_45 (lv_at hl 0 rfl) ?_
            obtain ⟨hin_10, hf⟩ := zz_gd_use hf
            refine zild hx hb hE hP 1 rfl (zz_in_ok hin_10) dX5_changesBy_47 ?_
            refine lv_iload_n hx hb dX5_changesBy_48 rfl (lv_at hl 2 rfl) ?_
            refine lv_iadd hx hb dX5_changesBy_49 ?_
            refine lv_iload hx hb dX5_changesBy_50 (lv_at hl 0 rfl) ?_
            obtain ⟨r_11, he_11, hf⟩ := zz_b1_use hf
            refine zcVi (As := [.int ((t_numbers r_7.toNatClampNeg) + p3), .int r_7]) (rest := [.int v4_2]) S (k_X5_othersOfNumber l D c N t0 tA_numbers tA_syllables tA_days tA_words tA_parents tA_otherParents tA_kinds tA_hopeDays tA_hopeTenths t_numbers t_syllables t_syllableCount t_days t_words t_parents t_otherParents t_kinds t_personCount t_hopeDays t_hopeTenths t_hopeCount t_degreesTold ((t_numbers r_7.toNatClampNeg) + p3) r_7 r_11 he_11) mi_X5_othersOfNumber tw_4_88 ⟨(Nat.le_of_ble_eq_true rfl), (Nat.le_of_ble_eq_true rfl)⟩ ⟨rfl, rfl⟩ hP hE hX hS (ci := 5) rfl rfl (q0 := 0) rfl rfl hl.1 rfl (Nat.le_of_ble_eq_true rfl) dX5_changesBy_52 ⟨(Nat.le_of_ble_eq_true rfl), (Nat.le_of_ble_eq_true rfl)⟩ ?_
            refine lv_iadd hx hb dX5_changesBy_55 ?_
            obtain ⟨v4_12, ev4_12, hf⟩ := zz_let_use hf
            refine zti ev4_12 ?_
            refine lv_istore (lv' := [(4, .int v4_12), (8, .int r_7), (0, .ref t0), (3, .int p3), (5, .long v5_3), (7, .int v7_4)]) hx hb dX5_changesBy_56 hl (by decide) rfl (fun ls hl => ?_)
            exact hJ_13 v4_12 ls hf (lv_sub hl [2, 3, 0, 4, 5] rfl)
  exact hL_1 N (0 : Int32) p1 (0 : Int32) ls hf (lv_sub hl [3, 5, 2, 1, 0] rfl)
def f_J6_bitCount_0f7a4 (N : Nat) (p0 : Int32) : Option (Int32) := zz_let (p0 - (((p0.toUInt32 >>> ((1 : Int32).toUInt32 &&& Int32.toUInt32 31)).toInt32) &&& (1431655765 : Int32))) (fun v0_1 => zz_let ((v0_1 &&& (858993459 : Int32)) + (((v0_1.toUInt32 >>> ((2 : Int32).toUInt32 &&& Int32.toUInt32 31)).toInt32) &&& (858993459 : Int32))) (fun v0_2 => zz_let ((v0_2 + ((v0_2.toUInt32 >>> ((4 : Int32).toUInt32 &&& Int32.toUInt32 31)).toInt32)) &&& (252645135 : Int32)) (fun v0_3 => zz_let (v0_3 + ((v0_3.toUInt32 >>> ((8 : Int32).toUInt32 &&& Int32.toUInt32 31)).toInt32)) (fun v0_4 => zz_let (v0_4 + ((v0_4.toUInt32 >>> ((16 : Int32).toUInt32 &&& Int32.toUInt32 31)).toInt32)) (fun v0_5 => (some (v0_5 &&& (63 : Int32))))))))
abbrev rm_J6_bitCount_0f7a4 : Room := { frames := 0, cells := 0, slots := 0, locals := 0 }
theorem mi_J6_bitCount_0f7a4 : zMS yJ6_bitCount_0f7a4 cJ6_bitCount_0f7a4 1 (some .int) 1 := ⟨⟨tw_3_35, tw_1_14, tw_3_36⟩, by decide +kernel, by decide +kernel, by decide +kernel⟩
set_option maxHeartbeats 4000000 in
set_option maxRecDepth 100000 in
theorem k_J6_bitCount_0f7a4 (l : Launch) (D : va_G) (c : Nat → ClassId) (N : Nat)  (p0 : Int32) (o : Int32) (hf : f_J6_bitCount_0f7a4 N p0 = some o) : zMPi l D c yJ6_bitCount_0f7a4 cJ6_bitCount_0f7a4 1 (some .int) rm_J6_bitCount_0f7a4 ([] : va_W) [.int p0] o := by
  refine zIP (by decide) (Nat.le_of_ble_eq_true rfl) ?_
  intro p e s m args below meth c0 Q hQ hx hb hr hlk hml hts hown hP hE hX hS ls hl
  have S : CallFix p m c0 cJ6_bitCount_0f7a4 1 s args zT RJ6 := ⟨hx, hb, hml, hown, hts⟩
  have hl : lv_has ls 1 [(0, .int p0)] := hl
  unfold f_J6_bitCount_0f7a4 at hf
  refine lv_iload_n hx hb dJ6_bitCount_0f7a4_0 rfl (lv_at hl 0 rfl) ?_
  refine lv_iload_n hx hb dJ6_bitCount_0f7a4_1 rfl (lv_at hl 0 rfl) ?_
  refine lv_iconst (v := (1 : Int32)) hx hb dJ6_bitCount_0f7a4_2 (by decide) ?_
  refine lv_iushr (v := (p0.toUInt32 >>> ((1 : Int32).toUInt32 &&& Int32.toUInt32 31)).toInt32) hx hb dJ6_bitCount_0f7a4_3 rfl ?_
  refine lv_ldcw (v := (1431655765 : Int32)) hx hb hown (hts _ tw_3_37) dJ6_bitCount_0f7a4_4 ?_
  refine lv_iand hx hb dJ6_bitCount_0f7a4_7 ?_
  refine lv_isub hx hb dJ6_bitCount_0f7a4_8 ?_
  obtain ⟨v0_1, ev0_1, hf⟩ := zz_let_use hf
  refine zti ev0_1 ?_
  refine lv_istore_n (lv' := [(0, .int v0_1)]) hx hb dJ6_bitCount_0f7a4_9 rfl hl (by decide) rfl (fun ls hl => ?_)
  refine lv_iload_n hx hb dJ6_bitCount_0f7a4_10 rfl (lv_at hl 0 rfl) ?_
  refine lv_ldcw (v := (858993459 : Int32)) hx hb hown (hts _ tw_3_38) dJ6_bitCount_0f7a4_11 ?_
  refine lv_iand hx hb dJ6_bitCount_0f7a4_14 ?_
  refine lv_iload_n hx hb dJ6_bitCount_0f7a4_15 rfl (lv_at hl 0 rfl) ?_
  refine lv_iconst (v := (2 : Int32)) hx hb dJ6_bitCount_0f7a4_16 (by decide) ?_
  refine lv_iushr (v := (v0_1.toUInt32 >>> ((2 : Int32).toUInt32 &&& Int32.toUInt32 31)).toInt32) hx hb dJ6_bitCount_0f7a4_17 rfl ?_
  refine lv_ldcw (v := (858993459 : Int32)) hx hb hown (hts _ tw_3_38) dJ6_bitCount_0f7a4_18 ?_
  refine lv_iand hx hb dJ6_bitCount_0f7a4_21 ?_
  refine lv_iadd hx hb dJ6_bitCount_0f7a4_22 ?_
  obtain ⟨v0_2, ev0_2, hf⟩ := zz_let_use hf
  refine zti ev0_2 ?_
  refine lv_istore_n (lv' := [(0, .int v0_2)]) hx hb dJ6_bitCount_0f7a4_23 rfl hl (by decide) rfl (fun ls hl => ?_)
  refine lv_iload_n hx hb dJ6_bitCount_0f7a4_24 rfl (lv_at hl 0 rfl) ?_
  refine lv_iload_n hx hb dJ6_bitCount_0f7a4_25 rfl (lv_at hl 0 rfl) ?_
  refine lv_iconst (v := (4 : Int32)) hx hb dJ6_bitCount_0f7a4_26 (by decide) ?_
  refine lv_iushr (v := (v0_2.toUInt32 >>> ((4 : Int32).toUInt32 &&& Int32.toUInt32 31)).toInt32) hx hb dJ6_bitCount_0f7a4_27 rfl ?_
  refine lv_iadd hx hb dJ6_bitCount_0f7a4_28 ?_
  refine lv_ldcw (v := (252645135 : Int32)) hx hb hown (hts _ tw_3_39) dJ6_bitCount_0f7a4_29 ?_
  refine lv_iand hx hb dJ6_bitCount_0f7a4_32 ?_
  obtain ⟨v0_3, ev0_3, hf⟩ := zz_let_use hf
  refine zti ev0_3 ?_
  refine lv_istore_n (lv' := [(0, .int v0_3)]) hx hb dJ6_bitCount_0f7a4_33 rfl hl (by decide) rfl (fun ls hl => ?_)
  refine lv_iload_n hx hb dJ6_bitCount_0f7a4_34 rfl (lv_at hl 0 rfl) ?_
  refine lv_iload_n hx hb dJ6_bitCount_0f7a4_35 rfl (lv_at hl 0 rfl) ?_
  refine lv_bipush (v := (8 : Int32)) hx hb dJ6_bitCount_0f7a4_36 (by decide) ?_
  refine lv_iushr (v := (v0_3.toUInt32 >>> ((8 : Int32).toUInt32 &&& Int32.toUInt32 31)).toInt32) hx hb dJ6_bitCount_0f7a4_38 rfl ?_
  refine lv_iadd hx hb dJ6_bitCount_0f7a4_39 ?_
  obtain ⟨v0_4, ev0_4, hf⟩ := zz_let_use hf
  refine zti ev0_4 ?_
  refine lv_istore_n (lv' := [(0, .int v0_4)]) hx hb dJ6_bitCount_0f7a4_40 rfl hl (by decide) rfl (fun ls hl => ?_)
  refine lv_iload_n hx hb dJ6_bitCount_0f7a4_41 rfl (lv_at hl 0 rfl) ?_
  refine lv_iload_n hx hb dJ6_bitCount_0f7a4_42 rfl (lv_at hl 0 rfl) ?_
  refine lv_bipush (v := (16 : Int32)) hx hb dJ6_bitCount_0f7a4_43 (by decide) ?_
  refine lv_iushr (v := (v0_4.toUInt32 >>> ((16 : Int32).toUInt32 &&& Int32.toUInt32 31)).toInt32) hx hb dJ6_bitCount_0f7a4_45 rfl ?_
  refine lv_iadd hx hb dJ6_bitCount_0f7a4_46 ?_
  obtain ⟨v0_5, ev0_5, hf⟩ := zz_let_use hf
  refine zti ev0_5 ?_
  refine lv_istore_n (lv' := [(0, .int v0_5)]) hx hb dJ6_bitCount_0f7a4_47 rfl hl (by decide) rfl (fun ls hl => ?_)
  refine lv_iload_n hx hb dJ6_bitCount_0f7a4_48 rfl (lv_at hl 0 rfl) ?_
  refine lv_bipush (v := (63 : Int32)) hx hb dJ6_bitCount_0f7a4_49 (by decide) ?_
  refine lv_iand hx hb dJ6_bitCount_0f7a4_51 ?_
  exact zRPi hQ hx hb hr hlk (Option.some.inj hf) dJ6_bitCount_0f7a4_52
def f_X6_isOfKind (N : Nat) (p0 : Int32) (p1 : Int32) : Option (Int32) := (if p1 = 1 then (if p0 = 0 then (some (1 : Int32)) else (some (0 : Int32))) else (if p1 = 2 then (if p0 = (1 : Int32) then (some (1 : Int32)) else (if p0 = (2 : Int32) then (some (1 : Int32)) else (some (0 : Int32)))) else (if p1 = 3 then (if p0 = (2 : Int32) then (some (1 : Int32)) else (some (0 : Int32))) else (some (1 : Int32)))))
abbrev rm_X6_isOfKind : Room := { frames := 0, cells := 0, slots := 0, locals := 0 }
theorem mi_X6_isOfKind : zMS yX6_isOfKind cX6_isOfKind 2 (some .boolean) 2 := ⟨⟨tw_3_32, tw_1_1, tw_3_33⟩, by decide +kernel, by decide +kernel, by decide +kernel⟩
set_option maxHeartbeats 4000000 in
set_option maxRecDepth 100000 in
theorem k_X6_isOfKind (l : Launch) (D : va_G) (c : Nat → ClassId) (N : Nat)  (p0 : Int32) (p1 : Int32) (o : Int32) (hf : f_X6_isOfKind N p0 p1 = some o) : zMPi l D c yX6_isOfKind cX6_isOfKind 2 (some .boolean) rm_X6_isOfKind ([] : va_W) [.int p0, .int p1] o := by
  refine zIP (by decide) (Nat.le_of_ble_eq_true rfl) ?_
  intro p e s m args below meth c0 Q hQ hx hb hr hlk hml hts hown hP hE hX hS ls hl
  have S : CallFix p m c0 cX6_isOfKind 2 s args zT RX6 := ⟨hx, hb, hml, hown, hts⟩
  have hl : lv_has ls 2 [(0, .int p0), (1, .int p1)] := hl
  unfold f_X6_isOfKind at hf
  refine lv_iload_n hx hb dX6_isOfKind_0 rfl (lv_at hl 1 rfl) ?_
  by_cases hs_1_0 : p1 = 1
  · have hf := zz_it hf hs_1_0
    refine lv_tableIn (tgt := 28) hx hb dX6_isOfKind_1 (by rw [hs_1_0]; decide) (by rw [hs_1_0]; decide) (by rw [hs_1_0]; rfl) (by decide) ?_
    refine lv_iload_n hx hb dX6_isOfKind_28 rfl (lv_at hl 0 rfl) ?_
    refine lv_if_ne (tgt := 36) hx hb dX6_isOfKind_29 (by decide) (fun hc_2 => ?_) (fun hc_2 => ?_)
    · have hf := zz_if hf hc_2
      refine lv_iconst (v := (0 : Int32)) hx hb dX6_isOfKind_36 (by decide) ?_
      exact zRPz hQ hx hb hr hlk rfl (Option.some.inj hf) dX6_isOfKind_37
    · have hf := zz_it hf hc_2
      refine lv_iconst (v := (1 : Int32)) hx hb dX6_isOfKind_32 (by decide) ?_
      refine lv_goto (tgt := 37) hx hb dX6_isOfKind_33 (by decide) ?_
      exact zRPz hQ hx hb hr hlk rfl (Option.some.inj hf) dX6_isOfKind_37
  · have hf := zz_if hf hs_1_0
    by_cases hs_1_1 : p1 = 2
    · have hf := zz_it hf hs_1_1
      refine lv_tableIn (tgt := 38) hx hb dX6_isOfKind_1 (by rw [hs_1_1]; decide) (by rw [hs_1_1]; decide) (by rw [hs_1_1]; rfl) (by decide) ?_
      refine lv_iload_n hx hb dX6_isOfKind_38 rfl (lv_at hl 0 rfl) ?_
      refine lv_iconst (v := (1 : Int32)) hx hb dX6_isOfKind_39 (by decide) ?_
      refine lv_icmp_eq (tgt := 48) hx hb dX6_isOfKind_40 (by decide) (fun hc_3 => ?_) (fun hc_3 => ?_)
      · have hf := zz_it hf hc_3
        refine lv_iconst (v := (1 : Int32)) hx hb dX6_isOfKind_48 (by decide) ?_
        refine lv_goto (tgt := 53) hx hb dX6_isOfKind_49 (by decide) ?_
        exact zRPz hQ hx hb hr hlk rfl (Option.some.inj hf) dX6_isOfKind_53
      · have hf := zz_if hf hc_3
        refine lv_iload_n hx hb dX6_isOfKind_43 rfl (lv_at hl 0 rfl) ?_
        refine lv_iconst (v := (2 : Int32)) hx hb dX6_isOfKind_44 (by decide) ?_
        refine lv_icmp_ne (tgt := 52) hx hb dX6_isOfKind_45 (by decide) (fun hc_4 => ?_) (fun hc_4 => ?_)
        · have hf := zz_if hf hc_4
          refine lv_iconst (v := (0 : Int32)) hx hb dX6_isOfKind_52 (by decide) ?_
          exact zRPz hQ hx hb hr hlk rfl (Option.some.inj hf) dX6_isOfKind_53
        · have hf := zz_it hf hc_4
          refine lv_iconst (v := (1 : Int32)) hx hb dX6_isOfKind_48 (by decide) ?_
          refine lv_goto (tgt := 53) hx hb dX6_isOfKind_49 (by decide) ?_
          exact zRPz hQ hx hb hr hlk rfl (Option.some.inj hf) dX6_isOfKind_53
    · have hf := zz_if hf hs_1_1
      by_cases hs_1_2 : p1 = 3
      · have hf := zz_it hf hs_1_2
        refine lv_tableIn (tgt := 54) hx hb dX6_isOfKind_1 (by rw [hs_1_2]; decide) (by rw [hs_1_2]; decide) (by rw [hs_1_2]; rfl) (by decide) ?_
        refine lv_iload_n hx hb dX6_isOfKind_54 rfl (lv_at hl 0 rfl) ?_
        refine lv_iconst (v := (2 : Int32)) hx hb dX6_isOfKind_55 (by decide) ?_
        refine lv_icmp_ne (tgt := 63) hx hb dX6_isOfKind_56 (by decide) (fun hc_5 => ?_) (fun hc_5 => ?_)
        · have hf := zz_if hf hc_5
          refine lv_iconst (v := (0 : Int32)) hx hb dX6_isOfKind_63 (by decide) ?_
          exact zRPz hQ hx hb hr hlk rfl (Option.some.inj hf) dX6_isOfKind_64
        · have hf := zz_it hf hc_5
          refine lv_iconst (v := (1 : Int32)) hx hb dX6_isOfKind_59 (by decide) ?_
          refine lv_goto (tgt := 64) hx hb dX6_isOfKind_60 (by decide) ?_
          exact zRPz hQ hx hb hr hlk rfl (Option.some.inj hf) dX6_isOfKind_64
      · have hf := zz_if hf hs_1_2
        refine lv_tableOut (tgt := 65) hx hb dX6_isOfKind_1 (zz_out_1_3 hs_1_0 hs_1_1 hs_1_2) (by decide) ?_
        refine lv_iconst (v := (1 : Int32)) hx hb dX6_isOfKind_65 (by decide) ?_
        exact zRPz hQ hx hb hr hlk rfl (Option.some.inj hf) dX6_isOfKind_66
def f_X6_lettersOf_L20 (N : Nat) (k_3 : (Int32) → Option (Int32))  : Nat → (Int32) → (Int64) → Option (Int32)
  | 0, _, _ => none
  | n_3 + 1, v2_4, v3_5 => (if (9 : Int32) ≤ v2_4 then (k_3 v2_4) else (if v3_5 ≤ (0 : Int64) then (k_3 v2_4) else (if (v3_5 - v3_5 / (27 : Int64) * (27 : Int64)) = (0 : Int64) then (some (0 : Int32)) else zz_let (v3_5 / (27 : Int64)) (fun v3_9 => zz_let (v2_4 + (1 : Int32)) (fun v2_10 => (f_X6_lettersOf_L20 N k_3 n_3 v2_10 v3_9))))))
theorem f_X6_lettersOf_L20_s (N : Nat) (k_3 : (Int32) → Option (Int32))  (n_3 : Nat) (v2_4 : Int32) (v3_5 : Int64) : f_X6_lettersOf_L20 N k_3 (n_3 + 1) v2_4 v3_5 = (if (9 : Int32) ≤ v2_4 then (k_3 v2_4) else (if v3_5 ≤ (0 : Int64) then (k_3 v2_4) else (if (v3_5 - v3_5 / (27 : Int64) * (27 : Int64)) = (0 : Int64) then (some (0 : Int32)) else zz_let (v3_5 / (27 : Int64)) (fun v3_9 => zz_let (v2_4 + (1 : Int32)) (fun v2_10 => (f_X6_lettersOf_L20 N k_3 n_3 v2_10 v3_9)))))) := rfl
def f_X6_lettersOf (N : Nat) (p0 : Int64) : Option (Int32) := (if p0 < (1 : Int64) then (some (0 : Int32)) else (if p0 ≤ (7625597484986 : Int64) then zz_let (fun (v2_11 : Int32) => (some v2_11)) (fun k_3 => f_X6_lettersOf_L20 N k_3 N (0 : Int32) p0) else (some (0 : Int32))))
abbrev rm_X6_lettersOf : Room := { frames := 0, cells := 0, slots := 0, locals := 0 }
theorem mi_X6_lettersOf : zMS yX6_lettersOf cX6_lettersOf 5 (some .int) 1 := ⟨⟨tw_3_45, tw_1_1, tw_3_46⟩, by decide +kernel, by decide +kernel, by decide +kernel⟩
set_option maxHeartbeats 4000000 in
set_option maxRecDepth 100000 in
theorem k_X6_lettersOf (l : Launch) (D : va_G) (c : Nat → ClassId) (N : Nat)  (p0 : Int64) (o : Int32) (hf : f_X6_lettersOf N p0 = some o) : zMPi l D c yX6_lettersOf cX6_lettersOf 5 (some .int) rm_X6_lettersOf ([] : va_W) [.long p0] o := by
  refine zIP (by decide) (Nat.le_of_ble_eq_true rfl) ?_
  intro p e s m args below meth c0 Q hQ hx hb hr hlk hml hts hown hP hE hX hS ls hl
  have S : CallFix p m c0 cX6_lettersOf 5 s args zT RX6 := ⟨hx, hb, hml, hown, hts⟩
  have hl : lv_has ls 5 [(0, .long p0)] := hl
  unfold f_X6_lettersOf at hf
  refine lv_lload_n hx hb dX6_lettersOf_0 rfl (lv_at hl 0 rfl) ?_
  refine lv_lconst (v := (1 : Int64)) hx hb dX6_lettersOf_1 (by decide) ?_
  refine zlc_lt (tgt := 14) hx hb dX6_lettersOf_2 dX6_lettersOf_3 (by decide) (fun hc_1 => ?_) (fun hc_1 => ?_)
  · have hf := zz_it hf hc_1
    refine lv_iconst (v := (0 : Int32)) hx hb dX6_lettersOf_14 (by decide) ?_
    exact zRPi hQ hx hb hr hlk (Option.some.inj hf) dX6_lettersOf_15
  · have hf := zz_if hf hc_1
    refine lv_lload_n hx hb dX6_lettersOf_6 rfl (lv_at hl 0 rfl) ?_
    refine lv_ldc2 (v := (7625597484986 : Int64)) hx hb hown (hts _ tw_3_47) dX6_lettersOf_7 ?_
    refine zlc_le (tgt := 16) hx hb dX6_lettersOf_10 dX6_lettersOf_11 (by decide) (fun hc_2 => ?_) (fun hc_2 => ?_)
    · have hf := zz_it hf hc_2
      refine lv_iconst (v := (0 : Int32)) hx hb dX6_lettersOf_16 (by decide) ?_
      refine lv_istore_n (lv' := [(2, .int (0 : Int32)), (0, .long p0)]) hx hb dX6_lettersOf_17 rfl hl (by decide) rfl (fun ls hl => ?_)
      refine lv_lload_n hx hb dX6_lettersOf_18 rfl (lv_at hl 1 rfl) ?_
      refine lv_lstore_n (lv' := [(3, .long p0), (2, .int (0 : Int32)), (0, .long p0)]) hx hb dX6_lettersOf_19 rfl hl (by decide) rfl (fun ls hl => ?_)
      obtain ⟨k_3, hk_3, hf⟩ := zz_let_use hf
      have hX_3 : ∀ (v2_11 : Int32) (ls : Array Slot), k_3 v2_11 = some o → lv_has ls 5 [(2, .int v2_11)] → W p l e rm_X6_lettersOf s m args below meth c0 s.heap [] 0 0 Q (F0 m 56 ls []) := by
        intro v2_11 ls hf hl
        subst hk_3
        refine lv_iload_n hx hb dX6_lettersOf_56 rfl (lv_at hl 0 rfl) ?_
        exact zRPi hQ hx hb hr hlk (Option.some.inj hf) dX6_lettersOf_57
      have hL_3 : ∀ (n_3 : Nat) (v2_4 : Int32) (v3_5 : Int64) (ls : Array Slot), f_X6_lettersOf_L20 N k_3 n_3 v2_4 v3_5 = some o → lv_has ls 5 [(2, .int v2_4), (3, .long v3_5)] → W p l e rm_X6_lettersOf s m args below meth c0 s.heap [] 0 0 Q (F0 m 20 ls []) := by
        intro n_3
        induction n_3 with
        | zero => intro v2_4 v3_5 ls hf hl; exact zz_none hf
        | succ n_3 ih_3 =>
          intro v2_4 v3_5 ls hf hl
          rw [f_X6_lettersOf_L20_s] at hf
          refine lv_iload_n hx hb dX6_lettersOf_20 rfl (lv_at hl 0 rfl) ?_
          refine lv_bipush (v := (9 : Int32)) hx hb dX6_lettersOf_21 (by decide) ?_
          refine lv_icmp_ge (tgt := 56) hx hb dX6_lettersOf_23 (by decide) (fun hc_6 => ?_) (fun hc_6 => ?_)
          · have hf := zz_it hf hc_6
            exact hX_3 v2_4 ls hf (lv_sub hl [0] rfl)
          · have hf := zz_if hf hc_6
            refine lv_lload_n hx hb dX6_lettersOf_26 rfl (lv_at hl 1 rfl) ?_
            refine lv_lconst (v := (0 : Int64)) hx hb dX6_lettersOf_27 (by decide) ?_
            refine zlc_le (tgt := 56) hx hb dX6_lettersOf_28 dX6_lettersOf_29 (by decide) (fun hc_7 => ?_) (fun hc_7 => ?_)
            · have hf := zz_it hf hc_7
              exact hX_3 v2_4 ls hf (lv_sub hl [0] rfl)
            · have hf := zz_if hf hc_7
              refine lv_lload_n hx hb dX6_lettersOf_32 rfl (lv_at hl 1 rfl) ?_
              refine lv_ldc2 (v := (27 : Int64)) hx hb hown (hts _ tw_2_146) dX6_lettersOf_33 ?_
              refine lv_lrem hx hb dX6_lettersOf_36 (by decide) ?_
              refine lv_lconst (v := (0 : Int64)) hx hb dX6_lettersOf_37 (by decide) ?_
              refine zlc_ne (tgt := 44) hx hb dX6_lettersOf_38 dX6_lettersOf_39 (by decide) (fun hc_8 => ?_) (fun hc_8 => ?_)
              · have hf := zz_if hf hc_8
                refine lv_lload_n hx hb dX6_lettersOf_44 rfl (lv_at hl 1 rfl) ?_
                refine lv_ldc2 (v := (27 : Int64)) hx hb hown (hts _ tw_2_146) dX6_lettersOf_45 ?_
                refine lv_ldiv hx hb dX6_lettersOf_48 (by decide) ?_
                obtain ⟨v3_9, ev3_9, hf⟩ := zz_let_use hf
                refine ztl ev3_9 ?_
                refine lv_lstore_n (lv' := [(3, .long v3_9), (2, .int v2_4)]) hx hb dX6_lettersOf_49 rfl hl (by decide) rfl (fun ls hl => ?_)
                obtain ⟨v2_10, ev2_10, hf⟩ := zz_let_use hf
                refine lv_iinc (v := v2_10) (lv' := [(2, .int v2_10), (3, .long v3_9)]) hx hb dX6_lettersOf_50 hl (k := 1) rfl (by rw [← ev2_10]; rfl) (by decide) rfl (fun ls hl => ?_)
                refine lv_goto (tgt := 20) hx hb dX6_lettersOf_53 (by decide) ?_
                exact ih_3 v2_10 v3_9 ls hf (lv_sub hl [0, 1] rfl)
              · have hf := zz_it hf hc_8
                refine lv_iconst (v := (0 : Int32)) hx hb dX6_lettersOf_42 (by decide) ?_
                exact zRPi hQ hx hb hr hlk (Option.some.inj hf) dX6_lettersOf_43
      exact hL_3 N (0 : Int32) p0 ls hf (lv_sub hl [1, 0] rfl)
    · have hf := zz_if hf hc_2
      refine lv_iconst (v := (0 : Int32)) hx hb dX6_lettersOf_14 (by decide) ?_
      exact zRPi hQ hx hb hr hlk (Option.some.inj hf) dX6_lettersOf_15
def f_X6_commonDivisor_L9 (N : Nat) (k_1 : (Int64) → Option (Int64))  : Nat → (Int64) → (Int64) → (Int32) → Option (Int64)
  | 0, _, _, _ => none
  | n_1 + 1, v4_2, v6_3, v8_4 => (if (100 : Int32) ≤ v8_4 then (k_1 v4_2) else (if v6_3 = (0 : Int64) then (k_1 v4_2) else zz_gd (zz_nzL v6_3) (zz_let (v4_2 - v4_2 / v6_3 * v6_3) (fun v9_8 => zz_let (v8_4 + (1 : Int32)) (fun v8_9 => (f_X6_commonDivisor_L9 N k_1 n_1 v6_3 v9_8 v8_9))))))
theorem f_X6_commonDivisor_L9_s (N : Nat) (k_1 : (Int64) → Option (Int64))  (n_1 : Nat) (v4_2 : Int64) (v6_3 : Int64) (v8_4 : Int32) : f_X6_commonDivisor_L9 N k_1 (n_1 + 1) v4_2 v6_3 v8_4 = (if (100 : Int32) ≤ v8_4 then (k_1 v4_2) else (if v6_3 = (0 : Int64) then (k_1 v4_2) else zz_gd (zz_nzL v6_3) (zz_let (v4_2 - v4_2 / v6_3 * v6_3) (fun v9_8 => zz_let (v8_4 + (1 : Int32)) (fun v8_9 => (f_X6_commonDivisor_L9 N k_1 n_1 v6_3 v9_8 v8_9)))))) := rfl
def f_X6_commonDivisor (N : Nat) (p0 : Int64) (p2 : Int64) : Option (Int64) := zz_let (fun (v4_10 : Int64) => (some (if v4_10 < (1 : Int64) then (1 : Int64) else v4_10))) (fun k_1 => f_X6_commonDivisor_L9 N k_1 N p0 p2 (0 : Int32))
abbrev rm_X6_commonDivisor : Room := { frames := 1, cells := 0, slots := 0, locals := 24 }
theorem mi_X6_commonDivisor : zMS yX6_commonDivisor cX6_commonDivisor 11 (some .long) 2 := ⟨⟨tw_3_181, tw_1_1, tw_3_182⟩, by decide +kernel, by decide +kernel, by decide +kernel⟩
set_option maxHeartbeats 4000000 in
set_option maxRecDepth 100000 in
theorem k_X6_commonDivisor (l : Launch) (D : va_G) (c : Nat → ClassId) (N : Nat)  (p0 : Int64) (p2 : Int64) (o : Int64) (hf : f_X6_commonDivisor N p0 p2 = some o) : zMPl l D c yX6_commonDivisor cX6_commonDivisor 11 (some .long) rm_X6_commonDivisor ([] : va_W) [.long p0, .long p2] o := by
  refine zIP (by decide) (Nat.le_of_ble_eq_true rfl) ?_
  intro p e s m args below meth c0 Q hQ hx hb hr hlk hml hts hown hP hE hX hS ls hl
  have S : CallFix p m c0 cX6_commonDivisor 11 s args zT RX6 := ⟨hx, hb, hml, hown, hts⟩
  have hl : lv_has ls 11 [(0, .long p0), (2, .long p2)] := hl
  unfold f_X6_commonDivisor at hf
  refine lv_lload_n hx hb dX6_commonDivisor_0 rfl (lv_at hl 0 rfl) ?_
  refine lv_lstore (lv' := [(4, .long p0), (0, .long p0), (2, .long p2)]) hx hb dX6_commonDivisor_1 hl (by decide) rfl (fun ls hl => ?_)
  refine lv_lload_n hx hb dX6_commonDivisor_3 rfl (lv_at hl 2 rfl) ?_
  refine lv_lstore (lv' := [(6, .long p2), (4, .long p0), (0, .long p0), (2, .long p2)]) hx hb dX6_commonDivisor_4 hl (by decide) rfl (fun ls hl => ?_)
  refine lv_iconst (v := (0 : Int32)) hx hb dX6_commonDivisor_6 (by decide) ?_
  refine lv_istore (lv' := [(8, .int (0 : Int32)), (6, .long p2), (4, .long p0), (0, .long p0), (2, .long p2)]) hx hb dX6_commonDivisor_7 hl (by decide) rfl (fun ls hl => ?_)
  obtain ⟨k_1, hk_1, hf⟩ := zz_let_use hf
  have hX_1 : ∀ (v4_10 : Int64) (ls : Array Slot), k_1 v4_10 = some o → lv_has ls 11 [(4, .long v4_10)] → W p l e rm_X6_commonDivisor s m args below meth c0 s.heap [] 0 0 Q (F0 m 44 ls []) := by
    intro v4_10 ls hf hl
    subst hk_1
    refine lv_lconst (v := (1 : Int64)) hx hb dX6_commonDivisor_44 (by decide) ?_
    refine lv_lload hx hb dX6_commonDivisor_45 (lv_at hl 0 rfl) ?_
    refine va_mmax_long hx hb (hml.trans hl.1.symm) hown (hts _ tw_3_183) (hts _ tw_3_184) (hts _ tw_1_15) (hts _ tw_3_185) (Nat.le_of_ble_eq_true rfl) (Nat.le_of_ble_eq_true rfl) (Nat.zero_le _) (Nat.zero_le _) dX6_commonDivisor_47 ?_
    exact zRPl hQ hx hb hr hlk (Option.some.inj hf) dX6_commonDivisor_50
  have hL_1 : ∀ (n_1 : Nat) (v4_2 : Int64) (v6_3 : Int64) (v8_4 : Int32) (ls : Array Slot), f_X6_commonDivisor_L9 N k_1 n_1 v4_2 v6_3 v8_4 = some o → lv_has ls 11 [(4, .long v4_2), (6, .long v6_3), (8, .int v8_4)] → W p l e rm_X6_commonDivisor s m args below meth c0 s.heap [] 0 0 Q (F0 m 9 ls []) := by
    intro n_1
    induction n_1 with
    | zero => intro v4_2 v6_3 v8_4 ls hf hl; exact zz_none hf
    | succ n_1 ih_1 =>
      intro v4_2 v6_3 v8_4 ls hf hl
      rw [f_X6_commonDivisor_L9_s] at hf
      refine lv_iload hx hb dX6_commonDivisor_9 (lv_at hl 2 rfl) ?_
      refine lv_bipush (v := (100 : Int32)) hx hb dX6_commonDivisor_11 (by decide) ?_
      refine lv_icmp_ge (tgt := 44) hx hb dX6_commonDivisor_13 (by decide) (fun hc_5 => ?_) (fun hc_5 => ?_)
      · have hf := zz_it hf hc_5
        exact hX_1 v4_2 ls hf (lv_sub hl [0] rfl)
      · have hf := zz_if hf hc_5
        refine lv_lload hx hb dX6_commonDivisor_16 (lv_at hl 1 rfl) ?_
        refine lv_lconst (v := (0 : Int64)) hx hb dX6_commonDivisor_18 (by decide) ?_
        refine zlc_eq (tgt := 44) hx hb dX6_commonDivisor_19 dX6_commonDivisor_20 (by decide) (fun hc_6 => ?_) (fun hc_6 => ?_)
        · have hf := zz_it hf hc_6
          exact hX_1 v4_2 ls hf (lv_sub hl [0] rfl)
        · have hf := zz_if hf hc_6
          refine lv_lload hx hb dX6_commonDivisor_23 (lv_at hl 0 rfl) ?_
          refine lv_lload hx hb dX6_commonDivisor_25 (lv_at hl 1 rfl) ?_
          obtain ⟨hnz_7, hf⟩ := zz_gd_use hf
          refine lv_lrem hx hb dX6_commonDivisor_27 (zz_nzL_ok hnz_7) ?_
          obtain ⟨v9_8, ev9_8, hf⟩ := zz_let_use hf
          refine ztl ev9_8 ?_
          refine lv_lstore (lv' := [(9, .long v9_8), (4, .long v4_2), (6, .long v6_3), (8, .int v8_4)]) hx hb dX6_commonDivisor_28 hl (by decide) rfl (fun ls hl => ?_)
          refine lv_lload hx hb dX6_commonDivisor_30 (lv_at hl 2 rfl) ?_
          refine lv_lstore (lv' := [(4, .long v6_3), (9, .long v9_8), (6, .long v6_3), (8, .int v8_4)]) hx hb dX6_commonDivisor_32 hl (by decide) rfl (fun ls hl => ?_)
          refine lv_lload hx hb dX6_commonDivisor_34 (lv_at hl 1 rfl) ?_
          refine lv_lstore (lv' := [(6, .long v9_8), (4, .long v6_3), (9, .long v9_8), (8, .int v8_4)]) hx hb dX6_commonDivisor_36 hl (by decide) rfl (fun ls hl => ?_)
          obtain ⟨v8_9, ev8_9, hf⟩ := zz_let_use hf
          refine lv_iinc (v := v8_9) (lv' := [(8, .int v8_9), (6, .long v9_8), (4, .long v6_3), (9, .long v9_8)]) hx hb dX6_commonDivisor_38 hl (k := 3) rfl (by rw [← ev8_9]; rfl) (by decide) rfl (fun ls hl => ?_)
          refine lv_goto (tgt := 9) hx hb dX6_commonDivisor_41 (by decide) ?_
          exact ih_1 v6_3 v9_8 v8_9 ls hf (lv_sub hl [2, 1, 0] rfl)
  exact hL_1 N p0 p2 (0 : Int32) ls hf (lv_sub hl [2, 1, 0] rfl)
def f_X6_isZeroOrOne (N : Nat) (p0 : Int32) : Option (Int32) := (if p0 = 0 then (some (1 : Int32)) else (if p0 = (1 : Int32) then (some (1 : Int32)) else (some (0 : Int32))))
abbrev rm_X6_isZeroOrOne : Room := { frames := 0, cells := 0, slots := 0, locals := 0 }
theorem mi_X6_isZeroOrOne : zMS yX6_isZeroOrOne cX6_isZeroOrOne 1 (some .boolean) 1 := ⟨⟨tw_3_153, tw_1_1, tw_3_154⟩, by decide +kernel, by decide +kernel, by decide +kernel⟩
set_option maxHeartbeats 4000000 in
set_option maxRecDepth 100000 in
theorem k_X6_isZeroOrOne (l : Launch) (D : va_G) (c : Nat → ClassId) (N : Nat)  (p0 : Int32) (o : Int32) (hf : f_X6_isZeroOrOne N p0 = some o) : zMPi l D c yX6_isZeroOrOne cX6_isZeroOrOne 1 (some .boolean) rm_X6_isZeroOrOne ([] : va_W) [.int p0] o := by
  refine zIP (by decide) (Nat.le_of_ble_eq_true rfl) ?_
  intro p e s m args below meth c0 Q hQ hx hb hr hlk hml hts hown hP hE hX hS ls hl
  have S : CallFix p m c0 cX6_isZeroOrOne 1 s args zT RX6 := ⟨hx, hb, hml, hown, hts⟩
  have hl : lv_has ls 1 [(0, .int p0)] := hl
  unfold f_X6_isZeroOrOne at hf
  refine lv_iload_n hx hb dX6_isZeroOrOne_0 rfl (lv_at hl 0 rfl) ?_
  refine lv_if_eq (tgt := 9) hx hb dX6_isZeroOrOne_1 (by decide) (fun hc_1 => ?_) (fun hc_1 => ?_)
  · have hf := zz_it hf hc_1
    refine lv_iconst (v := (1 : Int32)) hx hb dX6_isZeroOrOne_9 (by decide) ?_
    refine lv_goto (tgt := 14) hx hb dX6_isZeroOrOne_10 (by decide) ?_
    exact zRPz hQ hx hb hr hlk rfl (Option.some.inj hf) dX6_isZeroOrOne_14
  · have hf := zz_if hf hc_1
    refine lv_iload_n hx hb dX6_isZeroOrOne_4 rfl (lv_at hl 0 rfl) ?_
    refine lv_iconst (v := (1 : Int32)) hx hb dX6_isZeroOrOne_5 (by decide) ?_
    refine lv_icmp_ne (tgt := 13) hx hb dX6_isZeroOrOne_6 (by decide) (fun hc_2 => ?_) (fun hc_2 => ?_)
    · have hf := zz_if hf hc_2
      refine lv_iconst (v := (0 : Int32)) hx hb dX6_isZeroOrOne_13 (by decide) ?_
      exact zRPz hQ hx hb hr hlk rfl (Option.some.inj hf) dX6_isZeroOrOne_14
    · have hf := zz_it hf hc_2
      refine lv_iconst (v := (1 : Int32)) hx hb dX6_isZeroOrOne_9 (by decide) ?_
      refine lv_goto (tgt := 14) hx hb dX6_isZeroOrOne_10 (by decide) ?_
      exact zRPz hQ hx hb hr hlk rfl (Option.some.inj hf) dX6_isZeroOrOne_14
def f_X6_areDays (N : Nat) (p0 : Int32) (p1 : Int32) : Option (Int32) := zz_b1 (f_X6_isDay N p0) (fun r_1 => (if r_1 = 0 then (some (0 : Int32)) else zz_b1 (f_X6_isDay N p1) (fun r_3 => (if r_3 = 0 then (some (0 : Int32)) else (if p1 < p0 then (some (0 : Int32)) else (some (1 : Int32)))))))
abbrev rm_X6_areDays : Room := { frames := 1, cells := 0, slots := 0, locals := 20 }
theorem mi_X6_areDays : zMS yX6_areDays cX6_areDays 2 (some .boolean) 2 := ⟨⟨tw_3_191, tw_1_1, tw_3_192⟩, by decide +kernel, by decide +kernel, by decide +kernel⟩
set_option maxHeartbeats 4000000 in
set_option maxRecDepth 100000 in
theorem k_X6_areDays (l : Launch) (D : va_G) (c : Nat → ClassId) (N : Nat)  (p0 : Int32) (p1 : Int32) (o : Int32) (hf : f_X6_areDays N p0 p1 = some o) : zMPi l D c yX6_areDays cX6_areDays 2 (some .boolean) rm_X6_areDays ([] : va_W) [.int p0, .int p1] o := by
  refine zIP (by decide) (Nat.le_of_ble_eq_true rfl) ?_
  intro p e s m args below meth c0 Q hQ hx hb hr hlk hml hts hown hP hE hX hS ls hl
  have S : CallFix p m c0 cX6_areDays 2 s args zT RX6 := ⟨hx, hb, hml, hown, hts⟩
  have hl : lv_has ls 2 [(0, .int p0), (1, .int p1)] := hl
  unfold f_X6_areDays at hf
  refine lv_iload_n hx hb dX6_areDays_0 rfl (lv_at hl 0 rfl) ?_
  obtain ⟨r_1, he_1, hf⟩ := zz_b1_use hf
  refine zcSi (As := [.int p0]) (rest := []) S (k_X6_isDay l D c N  p0 r_1 he_1) mi_X6_isDay tw_3_99 ⟨(Nat.le_of_ble_eq_true rfl), (Nat.le_of_ble_eq_true rfl)⟩ ⟨rfl, rfl⟩ hP hE hX hS rfl hl.1 rfl (Nat.le_of_ble_eq_true rfl) dX6_areDays_1 ⟨(Nat.le_of_ble_eq_true rfl), (Nat.le_of_ble_eq_true rfl)⟩ ?_
  refine lv_if_eq (tgt := 23) hx hb dX6_areDays_4 (by decide) (fun hc_2 => ?_) (fun hc_2 => ?_)
  · have hf := zz_it hf hc_2
    refine lv_iconst (v := (0 : Int32)) hx hb dX6_areDays_23 (by decide) ?_
    exact zRPz hQ hx hb hr hlk rfl (Option.some.inj hf) dX6_areDays_24
  · have hf := zz_if hf hc_2
    refine lv_iload_n hx hb dX6_areDays_7 rfl (lv_at hl 1 rfl) ?_
    obtain ⟨r_3, he_3, hf⟩ := zz_b1_use hf
    refine zcSi (As := [.int p1]) (rest := []) S (k_X6_isDay l D c N  p1 r_3 he_3) mi_X6_isDay tw_3_99 ⟨(Nat.le_of_ble_eq_true rfl), (Nat.le_of_ble_eq_true rfl)⟩ ⟨rfl, rfl⟩ hP hE hX hS rfl hl.1 rfl (Nat.le_of_ble_eq_true rfl) dX6_areDays_8 ⟨(Nat.le_of_ble_eq_true rfl), (Nat.le_of_ble_eq_true rfl)⟩ ?_
    refine lv_if_eq (tgt := 23) hx hb dX6_areDays_11 (by decide) (fun hc_4 => ?_) (fun hc_4 => ?_)
    · have hf := zz_it hf hc_4
      refine lv_iconst (v := (0 : Int32)) hx hb dX6_areDays_23 (by decide) ?_
      exact zRPz hQ hx hb hr hlk rfl (Option.some.inj hf) dX6_areDays_24
    · have hf := zz_if hf hc_4
      refine lv_iload_n hx hb dX6_areDays_14 rfl (lv_at hl 0 rfl) ?_
      refine lv_iload_n hx hb dX6_areDays_15 rfl (lv_at hl 1 rfl) ?_
      refine lv_icmp_gt (tgt := 23) hx hb dX6_areDays_16 (by decide) (fun hc_5 => ?_) (fun hc_5 => ?_)
      · have hf := zz_it hf hc_5
        refine lv_iconst (v := (0 : Int32)) hx hb dX6_areDays_23 (by decide) ?_
        exact zRPz hQ hx hb hr hlk rfl (Option.some.inj hf) dX6_areDays_24
      · have hf := zz_if hf hc_5
        refine lv_iconst (v := (1 : Int32)) hx hb dX6_areDays_19 (by decide) ?_
        refine lv_goto (tgt := 24) hx hb dX6_areDays_20 (by decide) ?_
        exact zRPz hQ hx hb hr hlk rfl (Option.some.inj hf) dX6_areDays_24
def f_X6_isLane (N : Nat) (p0 : Int32) : Option (Int32) := (if p0 < 0 then (some (0 : Int32)) else (if (2 : Int32) < p0 then (some (0 : Int32)) else (some (1 : Int32))))
abbrev rm_X6_isLane : Room := { frames := 0, cells := 0, slots := 0, locals := 0 }
theorem mi_X6_isLane : zMS yX6_isLane cX6_isLane 1 (some .boolean) 1 := ⟨⟨tw_4_100, tw_1_1, tw_4_101⟩, by decide +kernel, by decide +kernel, by decide +kernel⟩
set_option maxHeartbeats 4000000 in
set_option maxRecDepth 100000 in
theorem k_X6_isLane (l : Launch) (D : va_G) (c : Nat → ClassId) (N : Nat)  (p0 : Int32) (o : Int32) (hf : f_X6_isLane N p0 = some o) : zMPi l D c yX6_isLane cX6_isLane 1 (some .boolean) rm_X6_isLane ([] : va_W) [.int p0] o := by
  refine zIP (by decide) (Nat.le_of_ble_eq_true rfl) ?_
  intro p e s m args below meth c0 Q hQ hx hb hr hlk hml hts hown hP hE hX hS ls hl
  have S : CallFix p m c0 cX6_isLane 1 s args zT RX6 := ⟨hx, hb, hml, hown, hts⟩
  have hl : lv_has ls 1 [(0, .int p0)] := hl
  unfold f_X6_isLane at hf
  refine lv_iload_n hx hb dX6_isLane_0 rfl (lv_at hl 0 rfl) ?_
  refine lv_if_lt (tgt := 13) hx hb dX6_isLane_1 (by decide) (fun hc_1 => ?_) (fun hc_1 => ?_)
  · have hf := zz_it hf hc_1
    refine lv_iconst (v := (0 : Int32)) hx hb dX6_isLane_13 (by decide) ?_
    exact zRPz hQ hx hb hr hlk rfl (Option.some.inj hf) dX6_isLane_14
  · have hf := zz_if hf hc_1
    refine lv_iload_n hx hb dX6_isLane_4 rfl (lv_at hl 0 rfl) ?_
    refine lv_iconst (v := (2 : Int32)) hx hb dX6_isLane_5 (by decide) ?_
    refine lv_icmp_gt (tgt := 13) hx hb dX6_isLane_6 (by decide) (fun hc_2 => ?_) (fun hc_2 => ?_)
    · have hf := zz_it hf hc_2
      refine lv_iconst (v := (0 : Int32)) hx hb dX6_isLane_13 (by decide) ?_
      exact zRPz hQ hx hb hr hlk rfl (Option.some.inj hf) dX6_isLane_14
    · have hf := zz_if hf hc_2
      refine lv_iconst (v := (1 : Int32)) hx hb dX6_isLane_9 (by decide) ?_
      refine lv_goto (tgt := 14) hx hb dX6_isLane_10 (by decide) ?_
      exact zRPz hQ hx hb hr hlk rfl (Option.some.inj hf) dX6_isLane_14
def f_X6_isSheet (N : Nat) (p0 : Int32) : Option (Int32) := (if p0 < 0 then (some (0 : Int32)) else (if (3 : Int32) ≤ p0 then (some (0 : Int32)) else (some (1 : Int32))))
abbrev rm_X6_isSheet : Room := { frames := 0, cells := 0, slots := 0, locals := 0 }
theorem mi_X6_isSheet : zMS yX6_isSheet cX6_isSheet 1 (some .boolean) 1 := ⟨⟨tw_4_97, tw_1_1, tw_4_98⟩, by decide +kernel, by decide +kernel, by decide +kernel⟩
set_option maxHeartbeats 4000000 in
set_option maxRecDepth 100000 in
theorem k_X6_isSheet (l : Launch) (D : va_G) (c : Nat → ClassId) (N : Nat)  (p0 : Int32) (o : Int32) (hf : f_X6_isSheet N p0 = some o) : zMPi l D c yX6_isSheet cX6_isSheet 1 (some .boolean) rm_X6_isSheet ([] : va_W) [.int p0] o := by
  refine zIP (by decide) (Nat.le_of_ble_eq_true rfl) ?_
  intro p e s m args below meth c0 Q hQ hx hb hr hlk hml hts hown hP hE hX hS ls hl
  have S : CallFix p m c0 cX6_isSheet 1 s args zT RX6 := ⟨hx, hb, hml, hown, hts⟩
  have hl : lv_has ls 1 [(0, .int p0)] := hl
  unfold f_X6_isSheet at hf
  refine lv_iload_n hx hb dX6_isSheet_0 rfl (lv_at hl 0 rfl) ?_
  refine lv_if_lt (tgt := 13) hx hb dX6_isSheet_1 (by decide) (fun hc_1 => ?_) (fun hc_1 => ?_)
  · have hf := zz_it hf hc_1
    refine lv_iconst (v := (0 : Int32)) hx hb dX6_isSheet_13 (by decide) ?_
    exact zRPz hQ hx hb hr hlk rfl (Option.some.inj hf) dX6_isSheet_14
  · have hf := zz_if hf hc_1
    refine lv_iload_n hx hb dX6_isSheet_4 rfl (lv_at hl 0 rfl) ?_
    refine lv_iconst (v := (3 : Int32)) hx hb dX6_isSheet_5 (by decide) ?_
    refine lv_icmp_ge (tgt := 13) hx hb dX6_isSheet_6 (by decide) (fun hc_2 => ?_) (fun hc_2 => ?_)
    · have hf := zz_it hf hc_2
      refine lv_iconst (v := (0 : Int32)) hx hb dX6_isSheet_13 (by decide) ?_
      exact zRPz hQ hx hb hr hlk rfl (Option.some.inj hf) dX6_isSheet_14
    · have hf := zz_if hf hc_2
      refine lv_iconst (v := (1 : Int32)) hx hb dX6_isSheet_9 (by decide) ?_
      refine lv_goto (tgt := 14) hx hb dX6_isSheet_10 (by decide) ?_
      exact zRPz hQ hx hb hr hlk rfl (Option.some.inj hf) dX6_isSheet_14
def f_X6_isImage (N : Nat) (p0 : Int32) : Option (Int32) := (if p0 < 0 then (some (0 : Int32)) else (if (2 : Int32) ≤ p0 then (some (0 : Int32)) else (some (1 : Int32))))
abbrev rm_X6_isImage : Room := { frames := 0, cells := 0, slots := 0, locals := 0 }
theorem mi_X6_isImage : zMS yX6_isImage cX6_isImage 1 (some .boolean) 1 := ⟨⟨tw_4_146, tw_1_1, tw_4_147⟩, by decide +kernel, by decide +kernel, by decide +kernel⟩
set_option maxHeartbeats 4000000 in
set_option maxRecDepth 100000 in
theorem k_X6_isImage (l : Launch) (D : va_G) (c : Nat → ClassId) (N : Nat)  (p0 : Int32) (o : Int32) (hf : f_X6_isImage N p0 = some o) : zMPi l D c yX6_isImage cX6_isImage 1 (some .boolean) rm_X6_isImage ([] : va_W) [.int p0] o := by
  refine zIP (by decide) (Nat.le_of_ble_eq_true rfl) ?_
  intro p e s m args below meth c0 Q hQ hx hb hr hlk hml hts hown hP hE hX hS ls hl
  have S : CallFix p m c0 cX6_isImage 1 s args zT RX6 := ⟨hx, hb, hml, hown, hts⟩
  have hl : lv_has ls 1 [(0, .int p0)] := hl
  unfold f_X6_isImage at hf
  refine lv_iload_n hx hb dX6_isImage_0 rfl (lv_at hl 0 rfl) ?_
  refine lv_if_lt (tgt := 13) hx hb dX6_isImage_1 (by decide) (fun hc_1 => ?_) (fun hc_1 => ?_)
  · have hf := zz_it hf hc_1
    refine lv_iconst (v := (0 : Int32)) hx hb dX6_isImage_13 (by decide) ?_
    exact zRPz hQ hx hb hr hlk rfl (Option.some.inj hf) dX6_isImage_14
  · have hf := zz_if hf hc_1
    refine lv_iload_n hx hb dX6_isImage_4 rfl (lv_at hl 0 rfl) ?_
    refine lv_iconst (v := (2 : Int32)) hx hb dX6_isImage_5 (by decide) ?_
    refine lv_icmp_ge (tgt := 13) hx hb dX6_isImage_6 (by decide) (fun hc_2 => ?_) (fun hc_2 => ?_)
    · have hf := zz_it hf hc_2
      refine lv_iconst (v := (0 : Int32)) hx hb dX6_isImage_13 (by decide) ?_
      exact zRPz hQ hx hb hr hlk rfl (Option.some.inj hf) dX6_isImage_14
    · have hf := zz_if hf hc_2
      refine lv_iconst (v := (1 : Int32)) hx hb dX6_isImage_9 (by decide) ?_
      refine lv_goto (tgt := 14) hx hb dX6_isImage_10 (by decide) ?_
      exact zRPz hQ hx hb hr hlk rfl (Option.some.inj hf) dX6_isImage_14
