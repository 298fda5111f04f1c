def f_X6_write (N : Nat) (r_text : Nat → Int32) (r_length : Int32) (p1 : Int64) (p3 : Int32) : Option (Int32 × (Nat → Int32) × (Int32)) := (if p3 < (1 : Int32) then (some ((-3 : Int32), r_text, r_length)) else (if p3 ≤ (8 : Int32) then zz_b3 (f_X3_append N r_text r_length p1 p3) (fun r_3 r_text_4 r_length_5 => (if r_3 = 0 then (some ((-5 : Int32), r_text_4, r_length_5)) else (some (r_length_5, r_text_4, r_length_5)))) else (some ((-3 : Int32), r_text, r_length))))
abbrev rm_X6_write : Room := { frames := 1, cells := 0, slots := 0, locals := 24 }
theorem mi_X6_write : zMI RX6 yX6_write cX6_write 4 (some .int) 2 := ⟨⟨tw_2_35, tw_2_36, tw_1_1, tw_2_37⟩, by decide +kernel, by decide +kernel, by decide +kernel⟩
set_option maxHeartbeats 4000000 in
set_option maxRecDepth 100000 in
theorem k_X6_write (l : Launch) (D : va_G) (c : Nat → ClassId) (N : Nat) (t0 : Nat) (n0 : Nat) (tA_images : Nat) (r0 : Nat) (m0 : Nat) (h0 : Nat) (o0 : Nat) (sA : Nat) (tA_rooms : Nat) (t_rooms : Nat → Int32) (r0_x : Nat) (rA_text : Nat) (d0 : Nat) (r_text : Nat → Int32) (r_length : Int32) (r_lines : Int32) (r_place : Int32) (r_token : Int32) (r_begin : Int32) (r_bytes : Int32) (r_value : Int64) (r_parent : Int32) (r_otherParent : Int32) (d0_x : Nat) (dA_numbers : Nat) (dA_syllables : Nat) (dA_days : Nat) (dA_words : Nat) (dA_parents : Nat) (dA_otherParents : Nat) (dA_kinds : Nat) (dA_hopeDays : Nat) (dA_hopeTenths : Nat) (d_numbers : Nat → Int32) (d_syllables : Nat → Int64) (d_syllableCount : Int32) (d_days : Nat → Int32) (d_words : Nat → Int64) (d_parents : Nat → Int32) (d_otherParents : Nat → Int32) (d_kinds : Nat → Int32) (d_personCount : Int32) (d_hopeDays : Nat → Int32) (d_hopeTenths : Nat → Int32) (d_hopeCount : Int32) (d_degreesTold : Int32) (p1 : Int64) (p3 : Int32) (o : Int32) (o_r_text : Nat → Int32) (o_r_length : Int32) (hf : f_X6_write N r_text r_length p1 p3 = some (o, o_r_text, o_r_length)) : zMWi l D c yX6_write cX6_write 4 (some .int) rm_X6_write (wX6 c t0 n0 tA_images r0 m0 h0 o0 sA tA_rooms t_rooms ++ wX3 c r0 rA_text d0 r_text r_length r_lines r_place r_token r_begin r_bytes r_value r_parent r_otherParent ++ wX5 c d0 dA_numbers dA_syllables dA_days dA_words dA_parents dA_otherParents dA_kinds dA_hopeDays dA_hopeTenths d_numbers d_syllables d_syllableCount d_days d_words d_parents d_otherParents d_kinds d_personCount d_hopeDays d_hopeTenths d_hopeCount d_degreesTold) (wX6 c t0 n0 tA_images r0 m0 h0 o0 sA tA_rooms t_rooms ++ wX3 c r0 rA_text d0 o_r_text o_r_length r_lines r_place r_token r_begin r_bytes r_value r_parent r_otherParent ++ wX5 c d0 dA_numbers dA_syllables dA_days dA_words dA_parents dA_otherParents dA_kinds dA_hopeDays dA_hopeTenths d_numbers d_syllables d_syllableCount d_days d_words d_parents d_otherParents d_kinds d_personCount d_hopeDays d_hopeTenths d_hopeCount d_degreesTold) [.ref t0, .long p1, .int p3] o := by
  intro sz
  refine zIW (by decide) (Nat.le_of_ble_eq_true rfl) ?_
  intro p e s m args below meth c0 Q A hAe hQ hx hb hr hlk hml hts hown hP hE hD hS hA hsz hmn hX ls hl
  rw [← hAe] at hQ
  have S : CallFix p m c0 cX6_write 4 s args zT RX6 := ⟨hx, hb, hml, hown, hts⟩
  have hl : lv_has ls 4 [(0, .ref t0), (1, .long p1), (3, .int p3)] := hl
  unfold f_X6_write at hf
  refine lv_iload_n hx hb dX6_write_0 rfl (lv_at hl 2 rfl) ?_
  refine lv_iconst (v := (1 : Int32)) hx hb dX6_write_1 (by decide) ?_
  refine lv_icmp_lt (tgt := 11) hx hb dX6_write_2 (by decide) (fun hc_1 => ?_) (fun hc_1 => ?_)
  · have hf := zz_it hf hc_1
    refine lv_bipush (v := (-3 : Int32)) hx hb dX6_write_11 (by decide) ?_
    cases hf
    exact zRWi hQ hx hb hr hlk rfl hP hD hS dX6_write_13
  · have hf := zz_if hf hc_1
    refine lv_iload_n hx hb dX6_write_5 rfl (lv_at hl 2 rfl) ?_
    refine lv_bipush (v := (8 : Int32)) hx hb dX6_write_6 (by decide) ?_
    refine lv_icmp_le (tgt := 14) hx hb dX6_write_8 (by decide) (fun hc_2 => ?_) (fun hc_2 => ?_)
    · have hf := zz_it hf hc_2
      refine lv_aload_n hx hb dX6_write_14 rfl (lv_at hl 0 rfl) ?_
      refine zget S uw_X6 hE hP 0 2 rfl rfl (by decide) tw_2_11 rfl rfl dX6_write_15 ?_
      refine lv_lload_n hx hb dX6_write_18 rfl (lv_at hl 1 rfl) ?_
      refine lv_iload_n hx hb dX6_write_19 rfl (lv_at hl 2 rfl) ?_
      obtain ⟨r_3, r_text_4, r_length_5, he_5, hf⟩ := zz_b3_use hf
      refine zwVi (As := [.long p1, .int p3]) (rest := []) (wr := (wX6 c t0 n0 tA_images r0 m0 h0 o0 sA tA_rooms t_rooms)) (wX6 c t0 n0 tA_images r0 m0 h0 o0 sA tA_rooms t_rooms ++ wX3 c r0 rA_text d0 r_text_4 r_length_5 r_lines r_place r_token r_begin r_bytes r_value r_parent r_otherParent ++ wX5 c d0 dA_numbers dA_syllables dA_days dA_words dA_parents dA_otherParents dA_kinds dA_hopeDays dA_hopeTenths d_numbers d_syllables d_syllableCount d_days d_words d_parents d_otherParents d_kinds d_personCount d_hopeDays d_hopeTenths d_hopeCount d_degreesTold) [2, 3, 4, 5, 6, 7, 8, 9, 10, 11, 12, 13] [0, 1] [0, 1, 2, 3, 4, 5, 6, 7, 8, 9, 10, 11, 12, 13] S (k_X3_append l D c N r0 rA_text d0 r_text r_length r_lines r_place r_token r_begin r_bytes r_value r_parent r_otherParent d0 dA_numbers dA_syllables dA_days dA_words dA_parents dA_otherParents dA_kinds dA_hopeDays dA_hopeTenths d_numbers d_syllables d_syllableCount d_days d_words d_parents d_otherParents d_kinds d_personCount d_hopeDays d_hopeTenths d_hopeCount d_degreesTold p1 p3 r_3 r_text_4 r_length_5 he_5) mi_X3_append tw_2_38 ⟨(Nat.le_of_ble_eq_true rfl), (Nat.le_of_ble_eq_true rfl)⟩ ⟨rfl, rfl⟩ hP hD hS hA rfl rfl rfl rfl (by decide) rfl rfl hE hX (ci := 3) rfl rfl (q0 := 0) rfl rfl hl.1 rfl (Nat.le_of_ble_eq_true rfl) dX6_write_20 ⟨(Nat.le_of_ble_eq_true rfl), (Nat.le_of_ble_eq_true rfl)⟩ (fun H locs hP hD hS => ?_)
      refine lv_if_eq (tgt := 36) hx hb dX6_write_23 (by decide) (fun hc_6 => ?_) (fun hc_6 => ?_)
      · have hf := zz_it hf hc_6
        refine lv_bipush (v := (-5 : Int32)) hx hb dX6_write_36 (by decide) ?_
        cases hf
        exact zRWi hQ hx hb hr hlk rfl hP hD hS dX6_write_38
      · have hf := zz_if hf hc_6
        refine lv_aload_n hx hb dX6_write_26 rfl (lv_at hl 0 rfl) ?_
        refine zget S uw_X6 hE hP 0 2 rfl rfl (by decide) tw_2_11 rfl rfl dX6_write_27 ?_
        refine zget S uw_X3 hE hP 2 1 rfl rfl (by decide) tw_1_107 rfl rfl dX6_write_30 ?_
        refine lv_goto (tgt := 38) hx hb dX6_write_33 (by decide) ?_
        cases hf
        exact zRWi hQ hx hb hr hlk rfl hP hD hS dX6_write_38
    · have hf := zz_if hf hc_2
      refine lv_bipush (v := (-3 : Int32)) hx hb dX6_write_11 (by decide) ?_
      cases hf
      exact zRWi hQ hx hb hr hlk rfl hP hD hS dX6_write_13
def f_X6_erase (N : Nat) (r_length : Int32) : Option (Int32 × (Int32)) := (some (r_length, (0 : Int32)))
abbrev rm_X6_erase : Room := { frames := 0, cells := 0, slots := 0, locals := 0 }
theorem mi_X6_erase : zMI RX6 yX6_erase cX6_erase 2 (some .int) 0 := ⟨⟨tw_2_44, tw_2_45, tw_1_1, tw_2_46⟩, by decide +kernel, by decide +kernel, by decide +kernel⟩
set_option maxHeartbeats 4000000 in
set_option maxRecDepth 100000 in
theorem k_X6_erase (l : Launch) (D : va_G) (c : Nat → ClassId) (N : Nat) (t0 : Nat) (n0 : Nat) (tA_images : Nat) (r0 : Nat) (m0 : Nat) (h0 : Nat) (o0 : Nat) (sA : Nat) (tA_rooms : Nat) (t_rooms : Nat → Int32) (r0_x : Nat) (rA_text : Nat) (d0 : Nat) (r_text : Nat → Int32) (r_length : Int32) (r_lines : Int32) (r_place : Int32) (r_token : Int32) (r_begin : Int32) (r_bytes : Int32) (r_value : Int64) (r_parent : Int32) (r_otherParent : Int32) (d0_x : Nat) (dA_numbers : Nat) (dA_syllables : Nat) (dA_days : Nat) (dA_words : Nat) (dA_parents : Nat) (dA_otherParents : Nat) (dA_kinds : Nat) (dA_hopeDays : Nat) (dA_hopeTenths : Nat) (d_numbers : Nat → Int32) (d_syllables : Nat → Int64) (d_syllableCount : Int32) (d_days : Nat → Int32) (d_words : Nat → Int64) (d_parents : Nat → Int32) (d_otherParents : Nat → Int32) (d_kinds : Nat → Int32) (d_personCount : Int32) (d_hopeDays : Nat → Int32) (d_hopeTenths : Nat → Int32) (d_hopeCount : Int32) (d_degreesTold : Int32)  (o : Int32) (o_r_length : Int32) (hf : f_X6_erase N r_length = some (o, o_r_length)) : zMWi l D c yX6_erase cX6_erase 2 (some .int) rm_X6_erase (wX6 c t0 n0 tA_images r0 m0 h0 o0 sA tA_rooms t_rooms ++ wX3 c r0 rA_text d0 r_text r_length r_lines r_place r_token r_begin r_bytes r_value r_parent r_otherParent ++ wX5 c d0 dA_numbers dA_syllables dA_days dA_words dA_parents dA_otherParents dA_kinds dA_hopeDays dA_hopeTenths d_numbers d_syllables d_syllableCount d_days d_words d_parents d_otherParents d_kinds d_personCount d_hopeDays d_hopeTenths d_hopeCount d_degreesTold) (wX6 c t0 n0 tA_images r0 m0 h0 o0 sA tA_rooms t_rooms ++ wX3 c r0 rA_text d0 r_text o_r_length r_lines r_place r_token r_begin r_bytes r_value r_parent r_otherParent ++ wX5 c d0 dA_numbers dA_syllables dA_days dA_words dA_parents dA_otherParents dA_kinds dA_hopeDays dA_hopeTenths d_numbers d_syllables d_syllableCount d_days d_words d_parents d_otherParents d_kinds d_personCount d_hopeDays d_hopeTenths d_hopeCount d_degreesTold) [.ref t0] o := by
  intro sz
  refine zIW (by decide) (Nat.le_of_ble_eq_true rfl) ?_
  intro p e s m args below meth c0 Q A hAe hQ hx hb hr hlk hml hts hown hP hE hD hS hA hsz hmn hX ls hl
  rw [← hAe] at hQ
  have S : CallFix p m c0 cX6_erase 2 s args zT RX6 := ⟨hx, hb, hml, hown, hts⟩
  have hl : lv_has ls 2 [(0, .ref t0)] := hl
  unfold f_X6_erase at hf
  refine lv_aload_n hx hb dX6_erase_0 rfl (lv_at hl 0 rfl) ?_
  refine zget S uw_X6 hE hP 0 2 rfl rfl (by decide) tw_2_11 rfl rfl dX6_erase_1 ?_
  refine zget S uw_X3 hE hP 2 1 rfl rfl (by decide) tw_1_107 rfl rfl dX6_erase_4 ?_
  refine lv_istore_n (lv' := [(1, .int r_length), (0, .ref t0)]) hx hb dX6_erase_7 rfl hl (by decide) rfl (fun ls hl => ?_)
  refine lv_aload_n hx hb dX6_erase_8 rfl (lv_at hl 1 rfl) ?_
  refine zget S uw_X6 hE hP 0 2 rfl rfl (by decide) tw_2_11 rfl rfl dX6_erase_9 ?_
  refine lv_iconst (v := (0 : Int32)) hx hb dX6_erase_12 (by decide) ?_
  refine zput S uw_X3 tyX3_ok nmX3 hE hP hD hS 2 1 (ty := .int) (wX6 c t0 n0 tA_images r0 m0 h0 o0 sA tA_rooms t_rooms ++ wX3 c r0 rA_text d0 r_text (0 : Int32) r_lines r_place r_token r_begin r_bytes r_value r_parent r_otherParent ++ wX5 c d0 dA_numbers dA_syllables dA_days dA_words dA_parents dA_otherParents dA_kinds dA_hopeDays dA_hopeTenths d_numbers d_syllables d_syllableCount d_days d_words d_parents d_otherParents d_kinds d_personCount d_hopeDays d_hopeTenths d_hopeCount d_degreesTold) rfl rfl (by decide) tw_1_107 rfl rfl (by decide +kernel) rfl rfl (Nat.le_of_ble_eq_true rfl) rfl dX6_erase_13 (fun H locs hP hD hS => ?_)
  refine lv_iload_n hx hb dX6_erase_16 rfl (lv_at hl 0 rfl) ?_
  cases hf
  exact zRWi hQ hx hb hr hlk rfl hP hD hS dX6_erase_17
def f_X6_fault (N : Nat) (n_numbers : Nat → Int32) (n_syllables : Nat → Int64) (n_syllableCount : Int32) (n_days : Nat → Int32) (n_words : Nat → Int64) (n_parents : Nat → Int32) (n_otherParents : Nat → Int32) (n_kinds : Nat → Int32) (n_personCount : Int32) (n_hopeDays : Nat → Int32) (n_hopeTenths : Nat → Int32) (n_hopeCount : Int32) (n_degreesTold : Int32) (r_text : Nat → Int32) (r_length : Int32) (r_lines : Int32) (r_token : Int32) (r_begin : Int32) (r_bytes : Int32) (r_value : Int64) (r_parent : Int32) (r_otherParent : Int32) (d_numbers : Nat → Int32) (d_syllables : Nat → Int64) (d_days : Nat → Int32) (d_words : Nat → Int64) (d_parents : Nat → Int32) (d_otherParents : Nat → Int32) (d_kinds : Nat → Int32) (d_hopeDays : Nat → Int32) (d_hopeTenths : Nat → Int32) : Option (Int32 × (Int32) × (Int32) × (Int32) × (Int32) × (Int32) × (Int64) × (Int32) × (Int32) × (Nat → Int32) × (Nat → Int64) × (Int32) × (Nat → Int32) × (Nat → Int64) × (Nat → Int32) × (Nat → Int32) × (Nat → Int32) × (Int32) × (Nat → Int32) × (Nat → Int32) × (Int32) × (Int32)) := zz_b22 (f_X3_read N r_text r_length r_lines r_token r_begin r_bytes r_value r_parent r_otherParent d_numbers d_syllables d_days d_words d_parents d_otherParents d_kinds d_hopeDays d_hopeTenths n_numbers n_syllables n_syllableCount n_days n_words n_parents n_otherParents n_kinds n_personCount n_hopeDays n_hopeTenths n_hopeCount n_degreesTold) (fun r_1 r_lines_2 r_place_3 r_token_4 r_begin_5 r_bytes_6 r_value_7 r_parent_8 r_otherParent_9 d_numbers_10 d_syllables_11 d_syllableCount_12 d_days_13 d_words_14 d_parents_15 d_otherParents_16 d_kinds_17 d_personCount_18 d_hopeDays_19 d_hopeTenths_20 d_hopeCount_21 d_degreesTold_22 => (some (r_1, r_lines_2, r_place_3, r_token_4, r_begin_5, r_bytes_6, r_value_7, r_parent_8, r_otherParent_9, d_numbers_10, d_syllables_11, d_syllableCount_12, d_days_13, d_words_14, d_parents_15, d_otherParents_16, d_kinds_17, d_personCount_18, d_hopeDays_19, d_hopeTenths_20, d_hopeCount_21, d_degreesTold_22)))
abbrev rm_X6_fault : Room := { frames := 7, cells := 0, slots := 0, locals := 205 }
theorem mi_X6_fault : zMI RX6 yX6_fault cX6_fault 1 (some .int) 0 := ⟨⟨tw_2_48, tw_2_49, tw_1_1, tw_2_50⟩, by decide +kernel, by decide +kernel, by decide +kernel⟩
set_option maxHeartbeats 4000000 in
set_option maxRecDepth 100000 in
theorem k_X6_fault (l : Launch) (D : va_G) (c : Nat → ClassId) (N : Nat) (t0 : Nat) (n0 : Nat) (tA_images : Nat) (r0 : Nat) (m0 : Nat) (h0 : Nat) (o0 : Nat) (sA : Nat) (tA_rooms : Nat) (t_rooms : Nat → Int32) (n0_x : Nat) (nA_numbers : Nat) (nA_syllables : Nat) (nA_days : Nat) (nA_words : Nat) (nA_parents : Nat) (nA_otherParents : Nat) (nA_kinds : Nat) (nA_hopeDays : Nat) (nA_hopeTenths : Nat) (n_numbers : Nat → Int32) (n_syllables : Nat → Int64) (n_syllableCount : Int32) (n_days : Nat → Int32) (n_words : Nat → Int64) (n_parents : Nat → Int32) (n_otherParents : Nat → Int32) (n_kinds : Nat → Int32) (n_personCount : Int32) (n_hopeDays : Nat → Int32) (n_hopeTenths : Nat → Int32) (n_hopeCount : Int32) (n_degreesTold : Int32) (r0_x : Nat) (rA_text : Nat) (d0 : Nat) (r_text : Nat → Int32) (r_length : Int32) (r_lines : Int32) (r_place : Int32) (r_token : Int32) (r_begin : Int32) (r_bytes : Int32) (r_value : Int64) (r_parent : Int32) (r_otherParent : Int32) (d0_x : Nat) (dA_numbers : Nat) (dA_syllables : Nat) (dA_days : Nat) (dA_words : Nat) (dA_parents : Nat) (dA_otherParents : Nat) (dA_kinds : Nat) (dA_hopeDays : Nat) (dA_hopeTenths : Nat) (d_numbers : Nat → Int32) (d_syllables : Nat → Int64) (d_syllableCount : Int32) (d_days : Nat → Int32) (d_words : Nat → Int64) (d_parents : Nat → Int32) (d_otherParents : Nat → Int32) (d_kinds : Nat → Int32) (d_personCount : Int32) (d_hopeDays : Nat → Int32) (d_hopeTenths : Nat → Int32) (d_hopeCount : Int32) (d_degreesTold : Int32)  (o : Int32) (o_r_lines : Int32) (o_r_place : Int32) (o_r_token : Int32) (o_r_begin : Int32) (o_r_bytes : Int32) (o_r_value : Int64) (o_r_parent : Int32) (o_r_otherParent : Int32) (o_d_numbers : Nat → Int32) (o_d_syllables : Nat → Int64) (o_d_syllableCount : Int32) (o_d_days : Nat → Int32) (o_d_words : Nat → Int64) (o_d_parents : Nat → Int32) (o_d_otherParents : Nat → Int32) (o_d_kinds : Nat → Int32) (o_d_personCount : Int32) (o_d_hopeDays : Nat → Int32) (o_d_hopeTenths : Nat → Int32) (o_d_hopeCount : Int32) (o_d_degreesTold : Int32) (hf : f_X6_fault N n_numbers n_syllables n_syllableCount n_days n_words n_parents n_otherParents n_kinds n_personCount n_hopeDays n_hopeTenths n_hopeCount n_degreesTold r_text r_length r_lines r_token r_begin r_bytes r_value r_parent r_otherParent d_numbers d_syllables d_days d_words d_parents d_otherParents d_kinds d_hopeDays d_hopeTenths = some (o, o_r_lines, o_r_place, o_r_token, o_r_begin, o_r_bytes, o_r_value, o_r_parent, o_r_otherParent, o_d_numbers, o_d_syllables, o_d_syllableCount, o_d_days, o_d_words, o_d_parents, o_d_otherParents, o_d_kinds, o_d_personCount, o_d_hopeDays, o_d_hopeTenths, o_d_hopeCount, o_d_degreesTold)) : zMWi l D c yX6_fault cX6_fault 1 (some .int) rm_X6_fault (wX6 c t0 n0 tA_images r0 m0 h0 o0 sA tA_rooms t_rooms ++ wX5 c n0 nA_numbers nA_syllables nA_days nA_words nA_parents nA_otherParents nA_kinds nA_hopeDays nA_hopeTenths n_numbers n_syllables n_syllableCount n_days n_words n_parents n_otherParents n_kinds n_personCount n_hopeDays n_hopeTenths n_hopeCount n_degreesTold ++ wX3 c r0 rA_text d0 r_text r_length r_lines r_place r_token r_begin r_bytes r_value r_parent r_otherParent ++ wX5 c d0 dA_numbers dA_syllables dA_days dA_words dA_parents dA_otherParents dA_kinds dA_hopeDays dA_hopeTenths d_numbers d_syllables d_syllableCount d_days d_words d_parents d_otherParents d_kinds d_personCount d_hopeDays d_hopeTenths d_hopeCount d_degreesTold) (wX6 c t0 n0 tA_images r0 m0 h0 o0 sA tA_rooms t_rooms ++ wX5 c n0 nA_numbers nA_syllables nA_days nA_words nA_parents nA_otherParents nA_kinds nA_hopeDays nA_hopeTenths n_numbers n_syllables n_syllableCount n_days n_words n_parents n_otherParents n_kinds n_personCount n_hopeDays n_hopeTenths n_hopeCount n_degreesTold ++ wX3 c r0 rA_text d0 r_text r_length o_r_lines o_r_place o_r_token o_r_begin o_r_bytes o_r_value o_r_parent o_r_otherParent ++ wX5 c d0 dA_numbers dA_syllables dA_days dA_words dA_parents dA_otherParents dA_kinds dA_hopeDays dA_hopeTenths o_d_numbers o_d_syllables o_d_syllableCount o_d_days o_d_words o_d_parents o_d_otherParents o_d_kinds o_d_personCount o_d_hopeDays o_d_hopeTenths o_d_hopeCount o_d_degreesTold) [.ref t0] o := by
  intro sz
  refine zIW (by decide) (Nat.le_of_ble_eq_true rfl) ?_
  intro p e s m args below meth c0 Q A hAe hQ hx hb hr hlk hml hts hown hP hE hD hS hA hsz hmn hX ls hl
  rw [← hAe] at hQ
  have S : CallFix p m c0 cX6_fault 1 s args zT RX6 := ⟨hx, hb, hml, hown, hts⟩
  have hl : lv_has ls 1 [(0, .ref t0)] := hl
  unfold f_X6_fault at hf
  refine lv_aload_n hx hb dX6_fault_0 rfl (lv_at hl 0 rfl) ?_
  refine zget S uw_X6 hE hP 0 2 rfl rfl (by decide) tw_2_11 rfl rfl dX6_fault_1 ?_
  refine lv_aload_n hx hb dX6_fault_4 rfl (lv_at hl 0 rfl) ?_
  refine zget S uw_X6 hE hP 0 0 rfl rfl (by decide) tw_2_9 rfl rfl dX6_fault_5 ?_
  obtain ⟨r_1, r_lines_2, r_place_3, r_token_4, r_begin_5, r_bytes_6, r_value_7, r_parent_8, r_otherParent_9, d_numbers_10, d_syllables_11, d_syllableCount_12, d_days_13, d_words_14, d_parents_15, d_otherParents_16, d_kinds_17, d_personCount_18, d_hopeDays_19, d_hopeTenths_20, d_hopeCount_21, d_degreesTold_22, he_22, hf⟩ := zz_b22_use hf
  refine zwVi (As := [.ref n0]) (rest := []) (wr := (wX6 c t0 n0 tA_images r0 m0 h0 o0 sA tA_rooms t_rooms)) (wX6 c t0 n0 tA_images r0 m0 h0 o0 sA tA_rooms t_rooms ++ wX5 c n0 nA_numbers nA_syllables nA_days nA_words nA_parents nA_otherParents nA_kinds nA_hopeDays nA_hopeTenths n_numbers n_syllables n_syllableCount n_days n_words n_parents n_otherParents n_kinds n_personCount n_hopeDays n_hopeTenths n_hopeCount n_degreesTold ++ wX3 c r0 rA_text d0 r_text r_length r_lines_2 r_place_3 r_token_4 r_begin_5 r_bytes_6 r_value_7 r_parent_8 r_otherParent_9 ++ wX5 c d0 dA_numbers dA_syllables dA_days dA_words dA_parents dA_otherParents dA_kinds dA_hopeDays dA_hopeTenths d_numbers_10 d_syllables_11 d_syllableCount_12 d_days_13 d_words_14 d_parents_15 d_otherParents_16 d_kinds_17 d_personCount_18 d_hopeDays_19 d_hopeTenths_20 d_hopeCount_21 d_degreesTold_22) [12, 13, 14, 15, 16, 17, 18, 19, 20, 21, 22, 23, 2, 3, 4, 5, 6, 7, 8, 9, 10, 11] [0, 1] [0, 1, 14, 15, 16, 17, 18, 19, 20, 21, 22, 23, 2, 3, 4, 5, 6, 7, 8, 9, 10, 11, 12, 13] S (k_X3_read l D c N r0 rA_text d0 r_text r_length r_lines r_place r_token r_begin r_bytes r_value r_parent r_otherParent d0 dA_numbers dA_syllables dA_days dA_words dA_parents dA_otherParents dA_kinds dA_hopeDays dA_hopeTenths d_numbers d_syllables d_syllableCount d_days d_words d_parents d_otherParents d_kinds d_personCount d_hopeDays d_hopeTenths d_hopeCount d_degreesTold n0 nA_numbers nA_syllables nA_days nA_words nA_parents nA_otherParents nA_kinds nA_hopeDays nA_hopeTenths n_numbers n_syllables n_syllableCount n_days n_words n_parents n_otherParents n_kinds n_personCount n_hopeDays n_hopeTenths n_hopeCount n_degreesTold  r_1 r_lines_2 r_place_3 r_token_4 r_begin_5 r_bytes_6 r_value_7 r_parent_8 r_otherParent_9 d_numbers_10 d_syllables_11 d_syllableCount_12 d_days_13 d_words_14 d_parents_15 d_otherParents_16 d_kinds_17 d_personCount_18 d_hopeDays_19 d_hopeTenths_20 d_hopeCount_21 d_degreesTold_22 he_22) mi_X3_read tw_2_51 ⟨(Nat.le_of_ble_eq_true rfl), (Nat.le_of_ble_eq_true rfl)⟩ ⟨rfl, rfl⟩ hP hD hS hA rfl rfl rfl rfl (by decide) rfl rfl hE hX (ci := 3) rfl rfl (q0 := 0) rfl rfl hl.1 rfl (Nat.le_of_ble_eq_true rfl) dX6_fault_8 ⟨(Nat.le_of_ble_eq_true rfl), (Nat.le_of_ble_eq_true rfl)⟩ (fun H locs hP hD hS => ?_)
  cases hf
  exact zRWi hQ hx hb hr hlk rfl hP hD hS dX6_fault_11
def f_X6_told (N : Nat) (n_numbers : Nat → Int32) (n_syllables : Nat → Int64) (n_syllableCount : Int32) (n_days : Nat → Int32) (n_words : Nat → Int64) (n_parents : Nat → Int32) (n_otherParents : Nat → Int32) (n_kinds : Nat → Int32) (n_personCount : Int32) (n_hopeDays : Nat → Int32) (n_hopeTenths : Nat → Int32) (n_hopeCount : Int32) (n_degreesTold : Int32) (r_text : Nat → Int32) (r_length : Int32) (r_lines : Int32) (r_token : Int32) (r_begin : Int32) (r_bytes : Int32) (r_value : Int64) (r_parent : Int32) (r_otherParent : Int32) (d_numbers : Nat → Int32) (d_syllables : Nat → Int64) (d_days : Nat → Int32) (d_words : Nat → Int64) (d_parents : Nat → Int32) (d_otherParents : Nat → Int32) (d_kinds : Nat → Int32) (d_hopeDays : Nat → Int32) (d_hopeTenths : Nat → Int32) : Option (Int32 × (Nat → Int32) × (Nat → Int64) × (Int32) × (Nat → Int32) × (Nat → Int64) × (Nat → Int32) × (Nat → Int32) × (Nat → Int32) × (Int32) × (Nat → Int32) × (Nat → Int32) × (Int32) × (Int32) × (Int32) × (Int32) × (Int32) × (Int32) × (Int32) × (Int32) × (Int64) × (Int32) × (Int32) × (Nat → Int32) × (Nat → Int64) × (Int32) × (Nat → Int32) × (Nat → Int64) × (Nat → Int32) × (Nat → Int32) × (Nat → Int32) × (Int32) × (Nat → Int32) × (Nat → Int32) × (Int32) × (Int32)) := zz_b22 (f_X3_read N r_text r_length r_lines r_token r_begin r_bytes r_value r_parent r_otherParent d_numbers d_syllables d_days d_words d_parents d_otherParents d_kinds d_hopeDays d_hopeTenths n_numbers n_syllables n_syllableCount n_days n_words n_parents n_otherParents n_kinds n_personCount n_hopeDays n_hopeTenths n_hopeCount n_degreesTold) (fun r_1 r_lines_2 r_place_3 r_token_4 r_begin_5 r_bytes_6 r_value_7 r_parent_8 r_otherParent_9 d_numbers_10 d_syllables_11 d_syllableCount_12 d_days_13 d_words_14 d_parents_15 d_otherParents_16 d_kinds_17 d_personCount_18 d_hopeDays_19 d_hopeTenths_20 d_hopeCount_21 d_degreesTold_22 => (if r_1 = (-1 : Int32) then zz_b13 (f_X5_takeFrom N n_numbers n_syllables n_days n_words n_parents n_otherParents n_kinds n_hopeDays n_hopeTenths d_numbers_10 d_syllables_11 d_syllableCount_12 d_days_13 d_words_14 d_parents_15 d_otherParents_16 d_kinds_17 d_personCount_18 d_hopeDays_19 d_hopeTenths_20 d_hopeCount_21 d_degreesTold_22) (fun n_numbers_24 n_syllables_25 n_syllableCount_26 n_days_27 n_words_28 n_parents_29 n_otherParents_30 n_kinds_31 n_personCount_32 n_hopeDays_33 n_hopeTenths_34 n_hopeCount_35 n_degreesTold_36 => (some (r_lines_2, n_numbers_24, n_syllables_25, n_syllableCount_26, n_days_27, n_words_28, n_parents_29, n_otherParents_30, n_kinds_31, n_personCount_32, n_hopeDays_33, n_hopeTenths_34, n_hopeCount_35, n_degreesTold_36, (0 : Int32), r_lines_2, r_place_3, r_token_4, r_begin_5, r_bytes_6, r_value_7, r_parent_8, r_otherParent_9, d_numbers_10, d_syllables_11, d_syllableCount_12, d_days_13, d_words_14, d_parents_15, d_otherParents_16, d_kinds_17, d_personCount_18, d_hopeDays_19, d_hopeTenths_20, d_hopeCount_21, d_degreesTold_22))) else (some ((-4 : Int32), n_numbers, n_syllables, n_syllableCount, n_days, n_words, n_parents, n_otherParents, n_kinds, n_personCount, n_hopeDays, n_hopeTenths, n_hopeCount, n_degreesTold, r_length, r_lines_2, r_place_3, r_token_4, r_begin_5, r_bytes_6, r_value_7, r_parent_8, r_otherParent_9, d_numbers_10, d_syllables_11, d_syllableCount_12, d_days_13, d_words_14, d_parents_15, d_otherParents_16, d_kinds_17, d_personCount_18, d_hopeDays_19, d_hopeTenths_20, d_hopeCount_21, d_degreesTold_22))))
abbrev rm_X6_told : Room := { frames := 7, cells := 0, slots := 0, locals := 205 }
theorem mi_X6_told : zMI RX6 yX6_told cX6_told 1 (some .int) 0 := ⟨⟨tw_2_225, tw_2_226, tw_1_1, tw_2_227⟩, by decide +kernel, by decide +kernel, by decide +kernel⟩
set_option maxHeartbeats 4000000 in
set_option maxRecDepth 100000 in
theorem k_X6_told (l : Launch) (D : va_G) (c : Nat → ClassId) (N : Nat) (t0 : Nat) (n0 : Nat) (tA_images : Nat) (r0 : Nat) (m0 : Nat) (h0 : Nat) (o0 : Nat) (sA : Nat) (tA_rooms : Nat) (t_rooms : Nat → Int32) (n0_x : Nat) (nA_numbers : Nat) (nA_syllables : Nat) (nA_days : Nat) (nA_words : Nat) (nA_parents : Nat) (nA_otherParents : Nat) (nA_kinds : Nat) (nA_hopeDays : Nat) (nA_hopeTenths : Nat) (n_numbers : Nat → Int32) (n_syllables : Nat → Int64) (n_syllableCount : Int32) (n_days : Nat → Int32) (n_words : Nat → Int64) (n_parents : Nat → Int32) (n_otherParents : Nat → Int32) (n_kinds : Nat → Int32) (n_personCount : Int32) (n_hopeDays : Nat → Int32) (n_hopeTenths : Nat → Int32) (n_hopeCount : Int32) (n_degreesTold : Int32) (r0_x : Nat) (rA_text : Nat) (d0 : Nat) (r_text : Nat → Int32) (r_length : Int32) (r_lines : Int32) (r_place : Int32) (r_token : Int32) (r_begin : Int32) (r_bytes : Int32) (r_value : Int64) (r_parent : Int32) (r_otherParent : Int32) (d0_x : Nat) (dA_numbers : Nat) (dA_syllables : Nat) (dA_days : Nat) (dA_words : Nat) (dA_parents : Nat) (dA_otherParents : Nat) (dA_kinds : Nat) (dA_hopeDays : Nat) (dA_hopeTenths : Nat) (d_numbers : Nat → Int32) (d_syllables : Nat → Int64) (d_syllableCount : Int32) (d_days : Nat → Int32) (d_words : Nat → Int64) (d_parents : Nat → Int32) (d_otherParents : Nat → Int32) (d_kinds : Nat → Int32) (d_personCount : Int32) (d_hopeDays : Nat → Int32) (d_hopeTenths : Nat → Int32) (d_hopeCount : Int32) (d_degreesTold : Int32)  (o : Int32) (o_n_numbers : Nat → Int32) (o_n_syllables : Nat → Int64) (o_n_syllableCount : Int32) (o_n_days : Nat → Int32) (o_n_words : Nat → Int64) (o_n_parents : Nat → Int32) (o_n_otherParents : Nat → Int32) (o_n_kinds : Nat → Int32) (o_n_personCount : Int32) (o_n_hopeDays : Nat → Int32) (o_n_hopeTenths : Nat → Int32) (o_n_hopeCount : Int32) (o_n_degreesTold : Int32) (o_r_length : Int32) (o_r_lines : Int32) (o_r_place : Int32) (o_r_token : Int32) (o_r_begin : Int32) (o_r_bytes : Int32) (o_r_value : Int64) (o_r_parent : Int32) (o_r_otherParent : Int32) (o_d_numbers : Nat → Int32) (o_d_syllables : Nat → Int64) (o_d_syllableCount : Int32) (o_d_days : Nat → Int32) (o_d_words : Nat → Int64) (o_d_parents : Nat → Int32) (o_d_otherParents : Nat → Int32) (o_d_kinds : Nat → Int32) (o_d_personCount : Int32) (o_d_hopeDays : Nat → Int32) (o_d_hopeTenths : Nat → Int32) (o_d_hopeCount : Int32) (o_d_degreesTold : Int32) (hf : f_X6_told N n_numbers n_syllables n_syllableCount n_days n_words n_parents n_otherParents n_kinds n_personCount n_hopeDays n_hopeTenths n_hopeCount n_degreesTold r_text r_length r_lines r_token r_begin r_bytes r_value r_parent r_otherParent d_numbers d_syllables d_days d_words d_parents d_otherParents d_kinds d_hopeDays d_hopeTenths = some (o, o_n_numbers, o_n_syllables, o_n_syllableCount, o_n_days, o_n_words, o_n_parents, o_n_otherParents, o_n_kinds, o_n_personCount, o_n_hopeDays, o_n_hopeTenths, o_n_hopeCount, o_n_degreesTold, o_r_length, o_r_lines, o_r_place, o_r_token, o_r_begin, o_r_bytes, o_r_value, o_r_parent, o_r_otherParent, o_d_numbers, o_d_syllables, o_d_syllableCount, o_d_days, o_d_words, o_d_parents, o_d_otherParents, o_d_kinds, o_d_personCount, o_d_hopeDays, o_d_hopeTenths, o_d_hopeCount, o_d_degreesTold)) : zMWi l D c yX6_told cX6_told 1 (some .int) rm_X6_told (wX6 c t0 n0 tA_images r0 m0 h0 o0 sA tA_rooms t_rooms ++ wX5 c n0 nA_numbers nA_syllables nA_days nA_words nA_parents nA_otherParents nA_kinds nA_hopeDays nA_hopeTenths n_numbers n_syllables n_syllableCount n_days n_words n_parents n_otherParents n_kinds n_personCount n_hopeDays n_hopeTenths n_hopeCount n_degreesTold ++ wX3 c r0 rA_text d0 r_text r_length r_lines r_place r_token r_begin r_bytes r_value r_parent r_otherParent ++ wX5 c d0 dA_numbers dA_syllables dA_days dA_words dA_parents dA_otherParents dA_kinds dA_hopeDays dA_hopeTenths d_numbers d_syllables d_syllableCount d_days d_words d_parents d_otherParents d_kinds d_personCount d_hopeDays d_hopeTenths d_hopeCount d_degreesTold) (wX6 c t0 n0 tA_images r0 m0 h0 o0 sA tA_rooms t_rooms ++ wX5 c n0 nA_numbers nA_syllables nA_days nA_words nA_parents nA_otherParents nA_kinds nA_hopeDays nA_hopeTenths o_n_numbers o_n_syllables o_n_syllableCount o_n_days o_n_words o_n_parents o_n_otherParents o_n_kinds o_n_personCount o_n_hopeDays o_n_hopeTenths o_n_hopeCount o_n_degreesTold ++ wX3 c r0 rA_text d0 r_text o_r_length o_r_lines o_r_place o_r_token o_r_begin o_r_bytes o_r_value o_r_parent o_r_otherParent ++ wX5 c d0 dA_numbers dA_syllables dA_days dA_words dA_parents dA_otherParents dA_kinds dA_hopeDays dA_hopeTenths o_d_numbers o_d_syllables o_d_syllableCount o_d_days o_d_words o_d_parents o_d_otherParents o_d_kinds o_d_personCount o_d_hopeDays o_d_hopeTenths o_d_hopeCount o_d_degreesTold) [.ref t0] o := by
  intro sz
  refine zIW (by decide) (Nat.le_of_ble_eq_true rfl) ?_
  intro p e s m args below meth c0 Q A hAe hQ hx hb hr hlk hml hts hown hP hE hD hS hA hsz hmn hX ls hl
  rw [← hAe] at hQ
  have S : CallFix p m c0 cX6_told 1 s args zT RX6 := ⟨hx, hb, hml, hown, hts⟩
  have hl : lv_has ls 1 [(0, .ref t0)] := hl
  unfold f_X6_told at hf
  refine lv_aload_n hx hb dX6_told_0 rfl (lv_at hl 0 rfl) ?_
  refine zget S uw_X6 hE hP 0 2 rfl rfl (by decide) tw_2_11 rfl rfl dX6_told_1 ?_
  refine lv_aload_n hx hb dX6_told_4 rfl (lv_at hl 0 rfl) ?_
  refine zget S uw_X6 hE hP 0 0 rfl rfl (by decide) tw_2_9 rfl rfl dX6_told_5 ?_
  obtain ⟨r_1, r_lines_2, r_place_3, r_token_4, r_begin_5, r_bytes_6, r_value_7, r_parent_8, r_otherParent_9, d_numbers_10, d_syllables_11, d_syllableCount_12, d_days_13, d_words_14, d_parents_15, d_otherParents_16, d_kinds_17, d_personCount_18, d_hopeDays_19, d_hopeTenths_20, d_hopeCount_21, d_degreesTold_22, he_22, hf⟩ := zz_b22_use hf
  refine zwVi (As := [.ref n0]) (rest := []) (wr := (wX6 c t0 n0 tA_images r0 m0 h0 o0 sA tA_rooms t_rooms)) (wX6 c t0 n0 tA_images r0 m0 h0 o0 sA tA_rooms t_rooms ++ wX5 c n0 nA_numbers nA_syllables nA_days nA_words nA_parents nA_otherParents nA_kinds nA_hopeDays nA_hopeTenths n_numbers n_syllables n_syllableCount n_days n_words n_parents n_otherParents n_kinds n_personCount n_hopeDays n_hopeTenths n_hopeCount n_degreesTold ++ wX3 c r0 rA_text d0 r_text r_length r_lines_2 r_place_3 r_token_4 r_begin_5 r_bytes_6 r_value_7 r_parent_8 r_otherParent_9 ++ wX5 c d0 dA_numbers dA_syllables dA_days dA_words dA_parents dA_otherParents dA_kinds dA_hopeDays dA_hopeTenths d_numbers_10 d_syllables_11 d_syllableCount_12 d_days_13 d_words_14 d_parents_15 d_otherParents_16 d_kinds_17 d_personCount_18 d_hopeDays_19 d_hopeTenths_20 d_hopeCount_21 d_degreesTold_22) [12, 13, 14, 15, 16, 17, 18, 19, 20, 21, 22, 23, 2, 3, 4, 5, 6, 7, 8, 9, 10, 11] [0, 1] [0, 1, 14, 15, 16, 17, 18, 19, 20, 21, 22, 23, 2, 3, 4, 5, 6, 7, 8, 9, 10, 11, 12, 13] S (k_X3_read l D c N r0 rA_text d0 r_text r_length r_lines r_place r_token r_begin r_bytes r_value r_parent r_otherParent d0 dA_numbers dA_syllables dA_days dA_words dA_parents dA_otherParents dA_kinds dA_hopeDays dA_hopeTenths d_numbers d_syllables d_syllableCount d_days d_words d_parents d_otherParents d_kinds d_personCount d_hopeDays d_hopeTenths d_hopeCount d_degreesTold n0 nA_numbers nA_syllables nA_days nA_words nA_parents nA_otherParents nA_kinds nA_hopeDays nA_hopeTenths n_numbers n_syllables n_syllableCount n_days n_words n_parents n_otherParents n_kinds n_personCount n_hopeDays n_hopeTenths n_hopeCount n_degreesTold  r_1 r_lines_2 r_place_3 r_token_4 r_begin_5 r_bytes_6 r_value_7 r_parent_8 r_otherParent_9 d_numbers_10 d_syllables_11 d_syllableCount_12 d_days_13 d_words_14 d_parents_15 d_otherParents_16 d_kinds_17 d_personCount_18 d_hopeDays_19 d_hopeTenths_20 d_hopeCount_21 d_degreesTold_22 he_22) mi_X3_read tw_2_51 ⟨(Nat.le_of_ble_eq_true rfl), (Nat.le_of_ble_eq_true rfl)⟩ ⟨rfl, rfl⟩ hP hD hS hA rfl rfl rfl rfl (by decide) rfl rfl hE hX (ci := 3) rfl rfl (q0 := 0) rfl rfl hl.1 rfl (Nat.le_of_ble_eq_true rfl) dX6_told_8 ⟨(Nat.le_of_ble_eq_true rfl), (Nat.le_of_ble_eq_true rfl)⟩ (fun H locs hP hD hS => ?_)
  refine lv_iconst (v := (-1 : Int32)) hx hb dX6_told_11 (by decide) ?_
  refine lv_icmp_eq (tgt := 18) hx hb dX6_told_12 (by decide) (fun hc_23 => ?_) (fun hc_23 => ?_)
  · have hf := zz_it hf hc_23
    refine lv_aload_n hx hb dX6_told_18 rfl (lv_at hl 0 rfl) ?_
    refine zget S uw_X6 hE hP 0 0 rfl rfl (by decide) tw_2_9 rfl rfl dX6_told_19 ?_
    refine lv_aload_n hx hb dX6_told_22 rfl (lv_at hl 0 rfl) ?_
    refine zget S uw_X6 hE hP 0 2 rfl rfl (by decide) tw_2_11 rfl rfl dX6_told_23 ?_
    refine zget S uw_X3 hE hP 12 2 rfl rfl (by decide) tw_1_109 rfl rfl dX6_told_26 ?_
    obtain ⟨n_numbers_24, n_syllables_25, n_syllableCount_26, n_days_27, n_words_28, n_parents_29, n_otherParents_30, n_kinds_31, n_personCount_32, n_hopeDays_33, n_hopeTenths_34, n_hopeCount_35, n_degreesTold_36, he_36, hf⟩ := zz_b13_use hf
    refine zwVv (As := [.ref d0]) (rest := []) (wr := (wX6 c t0 n0 tA_images r0 m0 h0 o0 sA tA_rooms t_rooms ++ wX3 c r0 rA_text d0 r_text r_length r_lines_2 r_place_3 r_token_4 r_begin_5 r_bytes_6 r_value_7 r_parent_8 r_otherParent_9)) (wX6 c t0 n0 tA_images r0 m0 h0 o0 sA tA_rooms t_rooms ++ wX5 c n0 nA_numbers nA_syllables nA_days nA_words nA_parents nA_otherParents nA_kinds nA_hopeDays nA_hopeTenths n_numbers_24 n_syllables_25 n_syllableCount_26 n_days_27 n_words_28 n_parents_29 n_otherParents_30 n_kinds_31 n_personCount_32 n_hopeDays_33 n_hopeTenths_34 n_hopeCount_35 n_degreesTold_36 ++ wX3 c r0 rA_text d0 r_text r_length r_lines_2 r_place_3 r_token_4 r_begin_5 r_bytes_6 r_value_7 r_parent_8 r_otherParent_9 ++ wX5 c d0 dA_numbers dA_syllables dA_days dA_words dA_parents dA_otherParents dA_kinds dA_hopeDays dA_hopeTenths d_numbers_10 d_syllables_11 d_syllableCount_12 d_days_13 d_words_14 d_parents_15 d_otherParents_16 d_kinds_17 d_personCount_18 d_hopeDays_19 d_hopeTenths_20 d_hopeCount_21 d_degreesTold_22) [2, 3, 4, 5, 6, 7, 8, 9, 10, 11, 14, 15, 16, 17, 18, 19, 20, 21, 22, 23] [0, 1, 12, 13] [0, 1, 4, 5, 6, 7, 8, 9, 10, 11, 12, 13, 2, 3, 14, 15, 16, 17, 18, 19, 20, 21, 22, 23] S (k_X5_takeFrom l D c N n0 nA_numbers nA_syllables nA_days nA_words nA_parents nA_otherParents nA_kinds nA_hopeDays nA_hopeTenths n_numbers n_syllables n_syllableCount n_days n_words n_parents n_otherParents n_kinds n_personCount n_hopeDays n_hopeTenths n_hopeCount n_degreesTold d0 dA_numbers dA_syllables dA_days dA_words dA_parents dA_otherParents dA_kinds dA_hopeDays dA_hopeTenths d_numbers_10 d_syllables_11 d_syllableCount_12 d_days_13 d_words_14 d_parents_15 d_otherParents_16 d_kinds_17 d_personCount_18 d_hopeDays_19 d_hopeTenths_20 d_hopeCount_21 d_degreesTold_22  n_numbers_24 n_syllables_25 n_syllableCount_26 n_days_27 n_words_28 n_parents_29 n_otherParents_30 n_kinds_31 n_personCount_32 n_hopeDays_33 n_hopeTenths_34 n_hopeCount_35 n_degreesTold_36 he_36) mi_X5_takeFrom tw_2_228 ⟨(Nat.le_of_ble_eq_true rfl), (Nat.le_of_ble_eq_true rfl)⟩ ⟨rfl, rfl⟩ hP hD hS hA rfl rfl rfl rfl (by decide) rfl rfl hE hX (ci := 5) rfl rfl (q0 := 0) rfl rfl hl.1 rfl (Nat.le_of_ble_eq_true rfl) dX6_told_29 ⟨(Nat.le_of_ble_eq_true rfl), (Nat.le_of_ble_eq_true rfl)⟩ (fun H locs hP hD hS => ?_)
    refine lv_aload_n hx hb dX6_told_32 rfl (lv_at hl 0 rfl) ?_
    refine zget S uw_X6 hE hP 0 2 rfl rfl (by decide) tw_2_11 rfl rfl dX6_told_33 ?_
    refine lv_iconst (v := (0 : Int32)) hx hb dX6_told_36 (by decide) ?_
    refine zput S uw_X3 tyX3_ok nmX3 hE hP hD hS 12 1 (ty := .int) (wX6 c t0 n0 tA_images r0 m0 h0 o0 sA tA_rooms t_rooms ++ wX5 c n0 nA_numbers nA_syllables nA_days nA_words nA_parents nA_otherParents nA_kinds nA_hopeDays nA_hopeTenths n_numbers_24 n_syllables_25 n_syllableCount_26 n_days_27 n_words_28 n_parents_29 n_otherParents_30 n_kinds_31 n_personCount_32 n_hopeDays_33 n_hopeTenths_34 n_hopeCount_35 n_degreesTold_36 ++ wX3 c r0 rA_text d0 r_text (0 : Int32) r_lines_2 r_place_3 r_token_4 r_begin_5 r_bytes_6 r_value_7 r_parent_8 r_otherParent_9 ++ wX5 c d0 dA_numbers dA_syllables dA_days dA_words dA_parents dA_otherParents dA_kinds dA_hopeDays dA_hopeTenths d_numbers_10 d_syllables_11 d_syllableCount_12 d_days_13 d_words_14 d_parents_15 d_otherParents_16 d_kinds_17 d_personCount_18 d_hopeDays_19 d_hopeTenths_20 d_hopeCount_21 d_degreesTold_22) rfl rfl (by decide) tw_1_107 rfl rfl (by decide +kernel) rfl rfl (Nat.le_of_ble_eq_true rfl) rfl dX6_told_37 (fun H locs hP hD hS => ?_)
    refine lv_aload_n hx hb dX6_told_40 rfl (lv_at hl 0 rfl) ?_
    refine zget S uw_X6 hE hP 0 2 rfl rfl (by decide) tw_2_11 rfl rfl dX6_told_41 ?_
    refine zget S uw_X3 hE hP 12 3 rfl rfl (by decide) tw_1_111 rfl rfl dX6_told_44 ?_
    cases hf
    exact zRWi hQ hx hb hr hlk rfl hP hD hS dX6_told_47
  · have hf := zz_if hf hc_23
    refine lv_bipush (v := (-4 : Int32)) hx hb dX6_told_15 (by decide) ?_
    cases hf
    exact zRWi hQ hx hb hr hlk rfl hP hD hS dX6_told_17
def f_X6_letter (N : Nat) (n_numbers : Nat → Int32) (p1 : Int32) : Option (Int32) := zz_b1 (f_X6_isLetter N p1) (fun r_1 => (if r_1 = 0 then (some (-2 : Int32)) else zz_gd (zz_in p1 26) ((some (n_numbers p1.toNatClampNeg)))))
abbrev rm_X6_letter : Room := { frames := 1, cells := 0, slots := 0, locals := 20 }
theorem mi_X6_letter : zMI RX6 yX6_letter cX6_letter 2 (some .int) 1 := ⟨⟨tw_2_230, tw_2_231, tw_1_1, tw_2_232⟩, by decide +kernel, by decide +kernel, by decide +kernel⟩
set_option maxHeartbeats 4000000 in
set_option maxRecDepth 100000 in
theorem k_X6_letter (l : Launch) (D : va_G) (c : Nat → ClassId) (N : Nat) (t0 : Nat) (n0 : Nat) (tA_images : Nat) (r0 : Nat) (m0 : Nat) (h0 : Nat) (o0 : Nat) (sA : Nat) (tA_rooms : Nat) (t_rooms : Nat → Int32) (n0_x : Nat) (nA_numbers : Nat) (nA_syllables : Nat) (nA_days : Nat) (nA_words : Nat) (nA_parents : Nat) (nA_otherParents : Nat) (nA_kinds : Nat) (nA_hopeDays : Nat) (nA_hopeTenths : Nat) (n_numbers : Nat → Int32) (n_syllables : Nat → Int64) (n_syllableCount : Int32) (n_days : Nat → Int32) (n_words : Nat → Int64) (n_parents : Nat → Int32) (n_otherParents : Nat → Int32) (n_kinds : Nat → Int32) (n_personCount : Int32) (n_hopeDays : Nat → Int32) (n_hopeTenths : Nat → Int32) (n_hopeCount : Int32) (n_degreesTold : Int32) (p1 : Int32) (o : Int32) (hf : f_X6_letter N n_numbers p1 = some o) : zMPi l D c yX6_letter cX6_letter 2 (some .int) rm_X6_letter (wX6 c t0 n0 tA_images r0 m0 h0 o0 sA tA_rooms t_rooms ++ wX5 c n0 nA_numbers nA_syllables nA_days nA_words nA_parents nA_otherParents nA_kinds nA_hopeDays nA_hopeTenths n_numbers n_syllables n_syllableCount n_days n_words n_parents n_otherParents n_kinds n_personCount n_hopeDays n_hopeTenths n_hopeCount n_degreesTold) [.ref t0, .int p1] o := by
  refine zIP (by decide) (Nat.le_of_ble_eq_true rfl) ?_
  intro p e s m args below meth c0 Q hQ hx hb hr hlk hml hts hown hP hE hX hS ls hl
  have S : CallFix p m c0 cX6_letter 2 s args zT RX6 := ⟨hx, hb, hml, hown, hts⟩
  have hl : lv_has ls 2 [(0, .ref t0), (1, .int p1)] := hl
  unfold f_X6_letter at hf
  refine lv_iload_n hx hb dX6_letter_0 rfl (lv_at hl 1 rfl) ?_
  obtain ⟨r_1, he_1, hf⟩ := zz_b1_use hf
  refine zcSi (As := [.int p1]) (rest := []) S (k_X6_isLetter l D c N  p1 r_1 he_1) mi_X6_isLetter tw_2_233 ⟨(Nat.le_of_ble_eq_true rfl), (Nat.le_of_ble_eq_true rfl)⟩ ⟨rfl, rfl⟩ (zpnil) hE hX hS rfl hl.1 rfl (Nat.le_of_ble_eq_true rfl) dX6_letter_1 ⟨(Nat.le_of_ble_eq_true rfl), (Nat.le_of_ble_eq_true rfl)⟩ ?_
  refine lv_if_eq (tgt := 19) hx hb dX6_letter_4 (by decide) (fun hc_2 => ?_) (fun hc_2 => ?_)
  · have hf := zz_it hf hc_2
    refine lv_bipush (v := (-2 : Int32)) hx hb dX6_letter_19 (by decide) ?_
    exact zRPi hQ hx hb hr hlk (Option.some.inj hf) dX6_letter_21
  · have hf := zz_if hf hc_2
    refine lv_aload_n hx hb dX6_letter_7 rfl (lv_at hl 0 rfl) ?_
    refine zget S uw_X6 hE hP 0 0 rfl rfl (by decide) tw_2_9 rfl rfl dX6_letter_8 ?_
    refine zget S uw_X5 hE hP 2 0 rfl rfl (by decide) tw_1_32 rfl rfl dX6_letter_11 ?_
    refine lv_iload_n hx hb dX6_letter_14 rfl (lv_at hl 1 rfl) ?_
    obtain ⟨hin_3, hf⟩ := zz_gd_use hf
    refine zild hx hb hE hP 3 rfl (zz_in_ok hin_3) dX6_letter_15 ?_
    refine lv_goto (tgt := 21) hx hb dX6_letter_16 (by decide) ?_
    exact zRPi hQ hx hb hr hlk (Option.some.inj hf) dX6_letter_21
def f_X6_person (N : Nat) (n_days : Nat → Int32) (n_parents : Nat → Int32) (n_otherParents : Nat → Int32) (n_kinds : Nat → Int32) (n_personCount : Int32) (n_degreesTold : Int32) (p1 : Int32) (p2 : Int32) : Option (Int32) := zz_b1 (f_X5_isPerson N n_personCount p1) (fun r_1 => (if r_1 = 0 then (some (-2 : Int32)) else (if p2 = 0 then zz_gd (zz_in p1 16) ((some (n_days p1.toNatClampNeg))) else (if p2 = 1 then zz_gd (zz_in p1 16) ((some (n_parents p1.toNatClampNeg))) else (if p2 = 2 then zz_gd (zz_in p1 16) ((some (n_otherParents p1.toNatClampNeg))) else (if p2 = 3 then zz_gd (zz_in p1 16) ((some (n_kinds p1.toNatClampNeg))) else (if p2 = 4 then zz_b1 (f_X5_nearOf N n_parents n_otherParents n_kinds n_personCount n_degreesTold p1) (fun r_8 => (some r_8)) else (some (-3 : Int32)))))))))
abbrev rm_X6_person : Room := { frames := 3, cells := 0, slots := 0, locals := 69 }
theorem mi_X6_person : zMI RX6 yX6_person cX6_person 3 (some .int) 2 := ⟨⟨tw_2_235, tw_2_236, tw_1_1, tw_2_237⟩, by decide +kernel, by decide +kernel, by decide +kernel⟩
set_option maxHeartbeats 4000000 in
set_option maxRecDepth 100000 in
theorem k_X6_person (l : Launch) (D : va_G) (c : Nat → ClassId) (N : Nat) (t0 : Nat) (n0 : Nat) (tA_images : Nat) (r0 : Nat) (m0 : Nat) (h0 : Nat) (o0 : Nat) (sA : Nat) (tA_rooms : Nat) (t_rooms : Nat → Int32) (n0_x : Nat) (nA_numbers : Nat) (nA_syllables : Nat) (nA_days : Nat) (nA_words : Nat) (nA_parents : Nat) (nA_otherParents : Nat) (nA_kinds : Nat) (nA_hopeDays : Nat) (nA_hopeTenths : Nat) (n_numbers : Nat → Int32) (n_syllables : Nat → Int64) (n_syllableCount : Int32) (n_days : Nat → Int32) (n_words : Nat → Int64) (n_parents : Nat → Int32) (n_otherParents : Nat → Int32) (n_kinds : Nat → Int32) (n_personCount : Int32) (n_hopeDays : Nat → Int32) (n_hopeTenths : Nat → Int32) (n_hopeCount : Int32) (n_degreesTold : Int32) (p1 : Int32) (p2 : Int32) (o : Int32) (hf : f_X6_person N n_days n_parents n_otherParents n_kinds n_personCount n_degreesTold p1 p2 = some o) : zMPi l D c yX6_person cX6_person 3 (some .int) rm_X6_person (wX6 c t0 n0 tA_images r0 m0 h0 o0 sA tA_rooms t_rooms ++ wX5 c n0 nA_numbers nA_syllables nA_days nA_words nA_parents nA_otherParents nA_kinds nA_hopeDays nA_hopeTenths n_numbers n_syllables n_syllableCount n_days n_words n_parents n_otherParents n_kinds n_personCount n_hopeDays n_hopeTenths n_hopeCount n_degreesTold) [.ref t0, .int p1, .int p2] o := by
  refine zIP (by decide) (Nat.le_of_ble_eq_true rfl) ?_
  intro p e s m args below meth c0 Q hQ hx hb hr hlk hml hts hown hP hE hX hS ls hl
  have S : CallFix p m c0 cX6_person 3 s args zT RX6 := ⟨hx, hb, hml, hown, hts⟩
  have hl : lv_has ls 3 [(0, .ref t0), (1, .int p1), (2, .int p2)] := hl
  unfold f_X6_person at hf
  refine lv_aload_n hx hb dX6_person_0 rfl (lv_at hl 0 rfl) ?_
  refine zget S uw_X6 hE hP 0 0 rfl rfl (by decide) tw_2_9 rfl rfl dX6_person_1 ?_
  refine lv_iload_n hx hb dX6_person_4 rfl (lv_at hl 1 rfl) ?_
  obtain ⟨r_1, he_1, hf⟩ := zz_b1_use hf
  refine zcVi (As := [.int p1]) (rest := []) S (k_X5_isPerson l D c N n0 nA_numbers nA_syllables nA_days nA_words nA_parents nA_otherParents nA_kinds nA_hopeDays nA_hopeTenths n_numbers n_syllables n_syllableCount n_days n_words n_parents n_otherParents n_kinds n_personCount n_hopeDays n_hopeTenths n_hopeCount n_degreesTold p1 r_1 he_1) mi_X5_isPerson tw_2_238 ⟨(Nat.le_of_ble_eq_true rfl), (Nat.le_of_ble_eq_true rfl)⟩ ⟨rfl, rfl⟩ (zpsub (is := [2, 3, 4, 5, 6, 7, 8, 9, 10, 11]) hP rfl) hE hX hS (ci := 5) rfl rfl (q0 := 0) rfl rfl hl.1 rfl (Nat.le_of_ble_eq_true rfl) dX6_person_5 ⟨(Nat.le_of_ble_eq_true rfl), (Nat.le_of_ble_eq_true rfl)⟩ ?_
  refine lv_if_ne (tgt := 14) hx hb dX6_person_8 (by decide) (fun hc_2 => ?_) (fun hc_2 => ?_)
  · have hf := zz_if hf hc_2
    refine lv_iload_n hx hb dX6_person_14 rfl (lv_at hl 2 rfl) ?_
    by_cases hs_3_0 : p2 = 0
    · have hf := zz_it hf hs_3_0
      refine lv_tableIn (tgt := 48) hx hb dX6_person_15 (by rw [hs_3_0]; decide) (by rw [hs_3_0]; decide) (by rw [hs_3_0]; rfl) (by decide) ?_
      refine lv_aload_n hx hb dX6_person_48 rfl (lv_at hl 0 rfl) ?_
      refine zget S uw_X6 hE hP 0 0 rfl rfl (by decide) tw_2_9 rfl rfl dX6_person_49 ?_
      refine zget S uw_X5 hE hP 2 3 rfl rfl (by decide) tw_1_42 rfl rfl dX6_person_52 ?_
      refine lv_iload_n hx hb dX6_person_55 rfl (lv_at hl 1 rfl) ?_
      obtain ⟨hin_4, hf⟩ := zz_gd_use hf
      refine zild hx hb hE hP 5 rfl (zz_in_ok hin_4) dX6_person_56 ?_
      exact zRPi hQ hx hb hr hlk (Option.some.inj hf) dX6_person_57
    · have hf := zz_if hf hs_3_0
      by_cases hs_3_1 : p2 = 1
      · have hf := zz_it hf hs_3_1
        refine lv_tableIn (tgt := 58) hx hb dX6_person_15 (by rw [hs_3_1]; decide) (by rw [hs_3_1]; decide) (by rw [hs_3_1]; rfl) (by decide) ?_
        refine lv_aload_n hx hb dX6_person_58 rfl (lv_at hl 0 rfl) ?_
        refine zget S uw_X6 hE hP 0 0 rfl rfl (by decide) tw_2_9 rfl rfl dX6_person_59 ?_
        refine zget S uw_X5 hE hP 2 5 rfl rfl (by decide) tw_1_48 rfl rfl dX6_person_62 ?_
        refine lv_iload_n hx hb dX6_person_65 rfl (lv_at hl 1 rfl) ?_
        obtain ⟨hin_5, hf⟩ := zz_gd_use hf
        refine zild hx hb hE hP 7 rfl (zz_in_ok hin_5) dX6_person_66 ?_
        exact zRPi hQ hx hb hr hlk (Option.some.inj hf) dX6_person_67
      · have hf := zz_if hf hs_3_1
        by_cases hs_3_2 : p2 = 2
        · have hf := zz_it hf hs_3_2
          refine lv_tableIn (tgt := 68) hx hb dX6_person_15 (by rw [hs_3_2]; decide) (by rw [hs_3_2]; decide) (by rw [hs_3_2]; rfl) (by decide) ?_
          refine lv_aload_n hx hb dX6_person_68 rfl (lv_at hl 0 rfl) ?_
          refine zget S uw_X6 hE hP 0 0 rfl rfl (by decide) tw_2_9 rfl rfl dX6_person_69 ?_
          refine zget S uw_X5 hE hP 2 6 rfl rfl (by decide) tw_1_50 rfl rfl dX6_person_72 ?_
          refine lv_iload_n hx hb dX6_person_75 rfl (lv_at hl 1 rfl) ?_
          obtain ⟨hin_6, hf⟩ := zz_gd_use hf
          refine zild hx hb hE hP 8 rfl (zz_in_ok hin_6) dX6_person_76 ?_
          exact zRPi hQ hx hb hr hlk (Option.some.inj hf) dX6_person_77
        · have hf := zz_if hf hs_3_2
          by_cases hs_3_3 : p2 = 3
          · have hf := zz_it hf hs_3_3
            refine lv_tableIn (tgt := 78) hx hb dX6_person_15 (by rw [hs_3_3]; decide) (by rw [hs_3_3]; decide) (by rw [hs_3_3]; rfl) (by decide) ?_
            refine lv_aload_n hx hb dX6_person_78 rfl (lv_at hl 0 rfl) ?_
            refine zget S uw_X6 hE hP 0 0 rfl rfl (by decide) tw_2_9 rfl rfl dX6_person_79 ?_
            refine zget S uw_X5 hE hP 2 7 rfl rfl (by decide) tw_1_52 rfl rfl dX6_person_82 ?_
            refine lv_iload_n hx hb dX6_person_85 rfl (lv_at hl 1 rfl) ?_
            obtain ⟨hin_7, hf⟩ := zz_gd_use hf
            refine zild hx hb hE hP 9 rfl (zz_in_ok hin_7) dX6_person_86 ?_
            exact zRPi hQ hx hb hr hlk (Option.some.inj hf) dX6_person_87
          · have hf := zz_if hf hs_3_3
            by_cases hs_3_4 : p2 = 4
            · have hf := zz_it hf hs_3_4
              refine lv_tableIn (tgt := 88) hx hb dX6_person_15 (by rw [hs_3_4]; decide) (by rw [hs_3_4]; decide) (by rw [hs_3_4]; rfl) (by decide) ?_
              refine lv_aload_n hx hb dX6_person_88 rfl (lv_at hl 0 rfl) ?_
              refine zget S uw_X6 hE hP 0 0 rfl rfl (by decide) tw_2_9 rfl rfl dX6_person_89 ?_
              refine lv_iload_n hx hb dX6_person_92 rfl (lv_at hl 1 rfl) ?_
              obtain ⟨r_8, he_8, hf⟩ := zz_b1_use hf
              refine zcVi (As := [.int p1]) (rest := []) S (k_X5_nearOf l D c N n0 nA_numbers nA_syllables nA_days nA_words nA_parents nA_otherParents nA_kinds nA_hopeDays nA_hopeTenths n_numbers n_syllables n_syllableCount n_days n_words n_parents n_otherParents n_kinds n_personCount n_hopeDays n_hopeTenths n_hopeCount n_degreesTold p1 r_8 he_8) mi_X5_nearOf tw_3_2 ⟨(Nat.le_of_ble_eq_true rfl), (Nat.le_of_ble_eq_true rfl)⟩ ⟨rfl, rfl⟩ (zpsub (is := [2, 3, 4, 5, 6, 7, 8, 9, 10, 11]) hP rfl) hE hX hS (ci := 5) rfl rfl (q0 := 0) rfl rfl hl.1 rfl (Nat.le_of_ble_eq_true rfl) dX6_person_93 ⟨(Nat.le_of_ble_eq_true rfl), (Nat.le_of_ble_eq_true rfl)⟩ ?_
              exact zRPi hQ hx hb hr hlk (Option.some.inj hf) dX6_person_96
            · have hf := zz_if hf hs_3_4
              refine lv_tableOut (tgt := 97) hx hb dX6_person_15 (zz_out_0_4 hs_3_0 hs_3_1 hs_3_2 hs_3_3 hs_3_4) (by decide) ?_
              refine lv_bipush (v := (-3 : Int32)) hx hb dX6_person_97 (by decide) ?_
              exact zRPi hQ hx hb hr hlk (Option.some.inj hf) dX6_person_99
  · have hf := zz_it hf hc_2
    refine lv_bipush (v := (-2 : Int32)) hx hb dX6_person_11 (by decide) ?_
    exact zRPi hQ hx hb hr hlk (Option.some.inj hf) dX6_person_13
def f_X6_called (N : Nat) (n_words : Nat → Int64) (n_personCount : Int32) (p1 : Int32) : Option (Int64) := zz_b1 (f_X5_isPerson N n_personCount p1) (fun r_1 => (if r_1 = 0 then (some (-2 : Int64)) else zz_gd (zz_in p1 16) ((some (n_words p1.toNatClampNeg)))))
abbrev rm_X6_called : Room := { frames := 1, cells := 0, slots := 0, locals := 21 }
theorem mi_X6_called : zMI RX6 yX6_called cX6_called 2 (some .long) 1 := ⟨⟨tw_3_15, tw_3_16, tw_1_1, tw_3_17⟩, by decide +kernel, by decide +kernel, by decide +kernel⟩
set_option maxHeartbeats 4000000 in
set_option maxRecDepth 100000 in
theorem k_X6_called (l : Launch) (D : va_G) (c : Nat → ClassId) (N : Nat) (t0 : Nat) (n0 : Nat) (tA_images : Nat) (r0 : Nat) (m0 : Nat) (h0 : Nat) (o0 : Nat) (sA : Nat) (tA_rooms : Nat) (t_rooms : Nat → Int32) (n0_x : Nat) (nA_numbers : Nat) (nA_syllables : Nat) (nA_days : Nat) (nA_words : Nat) (nA_parents : Nat) (nA_otherParents : Nat) (nA_kinds : Nat) (nA_hopeDays : Nat) (nA_hopeTenths : Nat) (n_numbers : Nat → Int32) (n_syllables : Nat → Int64) (n_syllableCount : Int32) (n_days : Nat → Int32) (n_words : Nat → Int64) (n_parents : Nat → Int32) (n_otherParents : Nat → Int32) (n_kinds : Nat → Int32) (n_personCount : Int32) (n_hopeDays : Nat → Int32) (n_hopeTenths : Nat → Int32) (n_hopeCount : Int32) (n_degreesTold : Int32) (p1 : Int32) (o : Int64) (hf : f_X6_called N n_words n_personCount p1 = some o) : zMPl l D c yX6_called cX6_called 2 (some .long) rm_X6_called (wX6 c t0 n0 tA_images r0 m0 h0 o0 sA tA_rooms t_rooms ++ wX5 c n0 nA_numbers nA_syllables nA_days nA_words nA_parents nA_otherParents nA_kinds nA_hopeDays nA_hopeTenths n_numbers n_syllables n_syllableCount n_days n_words n_parents n_otherParents n_kinds n_personCount n_hopeDays n_hopeTenths n_hopeCount n_degreesTold) [.ref t0, .int p1] o := by
  refine zIP (by decide) (Nat.le_of_ble_eq_true rfl) ?_
  intro p e s m args below meth c0 Q hQ hx hb hr hlk hml hts hown hP hE hX hS ls hl
  have S : CallFix p m c0 cX6_called 2 s args zT RX6 := ⟨hx, hb, hml, hown, hts⟩
  have hl : lv_has ls 2 [(0, .ref t0), (1, .int p1)] := hl
  unfold f_X6_called at hf
  refine lv_aload_n hx hb dX6_called_0 rfl (lv_at hl 0 rfl) ?_
  refine zget S uw_X6 hE hP 0 0 rfl rfl (by decide) tw_2_9 rfl rfl dX6_called_1 ?_
  refine lv_iload_n hx hb dX6_called_4 rfl (lv_at hl 1 rfl) ?_
  obtain ⟨r_1, he_1, hf⟩ := zz_b1_use hf
  refine zcVi (As := [.int p1]) (rest := []) S (k_X5_isPerson l D c N n0 nA_numbers nA_syllables nA_days nA_words nA_parents nA_otherParents nA_kinds nA_hopeDays nA_hopeTenths n_numbers n_syllables n_syllableCount n_days n_words n_parents n_otherParents n_kinds n_personCount n_hopeDays n_hopeTenths n_hopeCount n_degreesTold p1 r_1 he_1) mi_X5_isPerson tw_2_238 ⟨(Nat.le_of_ble_eq_true rfl), (Nat.le_of_ble_eq_true rfl)⟩ ⟨rfl, rfl⟩ (zpsub (is := [2, 3, 4, 5, 6, 7, 8, 9, 10, 11]) hP rfl) hE hX hS (ci := 5) rfl rfl (q0 := 0) rfl rfl hl.1 rfl (Nat.le_of_ble_eq_true rfl) dX6_called_5 ⟨(Nat.le_of_ble_eq_true rfl), (Nat.le_of_ble_eq_true rfl)⟩ ?_
  refine lv_if_eq (tgt := 23) hx hb dX6_called_8 (by decide) (fun hc_2 => ?_) (fun hc_2 => ?_)
  · have hf := zz_it hf hc_2
    refine lv_ldc2 (v := (-2 : Int64)) hx hb hown (hts _ tw_3_18) dX6_called_23 ?_
    exact zRPl hQ hx hb hr hlk (Option.some.inj hf) dX6_called_26
  · have hf := zz_if hf hc_2
    refine lv_aload_n hx hb dX6_called_11 rfl (lv_at hl 0 rfl) ?_
    refine zget S uw_X6 hE hP 0 0 rfl rfl (by decide) tw_2_9 rfl rfl dX6_called_12 ?_
    refine zget S uw_X5 hE hP 2 4 rfl rfl (by decide) tw_1_45 rfl rfl dX6_called_15 ?_
    refine lv_iload_n hx hb dX6_called_18 rfl (lv_at hl 1 rfl) ?_
    obtain ⟨hin_3, hf⟩ := zz_gd_use hf
    refine zlld hx hb hE hP 6 rfl (zz_in_ok hin_3) dX6_called_19 ?_
    refine lv_goto (tgt := 26) hx hb dX6_called_20 (by decide) ?_
    exact zRPl hQ hx hb hr hlk (Option.some.inj hf) dX6_called_26
def f_X6_degrees (N : Nat) (n_parents : Nat → Int32) (n_otherParents : Nat → Int32) (n_kinds : Nat → Int32) (n_personCount : Int32) (p1 : Int32) (p2 : Int32) : Option (Int32) := zz_b1 (f_X5_isPerson N n_personCount p1) (fun r_1 => (if r_1 = 0 then (some (-2 : Int32)) else zz_b1 (f_X5_isPerson N n_personCount p2) (fun r_3 => (if r_3 = 0 then (some (-2 : Int32)) else zz_b1 (f_X5_stepsBetween N n_parents n_otherParents n_kinds n_personCount p1 p2) (fun r_5 => (some r_5))))))
abbrev rm_X6_degrees : Room := { frames := 2, cells := 0, slots := 0, locals := 48 }
theorem mi_X6_degrees : zMI RX6 yX6_degrees cX6_degrees 3 (some .int) 2 := ⟨⟨tw_3_20, tw_3_21, tw_1_1, tw_3_22⟩, by decide +kernel, by decide +kernel, by decide +kernel⟩
set_option maxHeartbeats 4000000 in
set_option maxRecDepth 100000 in
theorem k_X6_degrees (l : Launch) (D : va_G) (c : Nat → ClassId) (N : Nat) (t0 : Nat) (n0 : Nat) (tA_images : Nat) (r0 : Nat) (m0 : Nat) (h0 : Nat) (o0 : Nat) (sA : Nat) (tA_rooms : Nat) (t_rooms : Nat → Int32) (n0_x : Nat) (nA_numbers : Nat) (nA_syllables : Nat) (nA_days : Nat) (nA_words : Nat) (nA_parents : Nat) (nA_otherParents : Nat) (nA_kinds : Nat) (nA_hopeDays : Nat) (nA_hopeTenths : Nat) (n_numbers : Nat → Int32) (n_syllables : Nat → Int64) (n_syllableCount : Int32) (n_days : Nat → Int32) (n_words : Nat → Int64) (n_parents : Nat → Int32) (n_otherParents : Nat → Int32) (n_kinds : Nat → Int32) (n_personCount : Int32) (n_hopeDays : Nat → Int32) (n_hopeTenths : Nat → Int32) (n_hopeCount : Int32) (n_degreesTold : Int32) (p1 : Int32) (p2 : Int32) (o : Int32) (hf : f_X6_degrees N n_parents n_otherParents n_kinds n_personCount p1 p2 = some o) : zMPi l D c yX6_degrees cX6_degrees 3 (some .int) rm_X6_degrees (wX6 c t0 n0 tA_images r0 m0 h0 o0 sA tA_rooms t_rooms ++ wX5 c n0 nA_numbers nA_syllables nA_days nA_words nA_parents nA_otherParents nA_kinds nA_hopeDays nA_hopeTenths n_numbers n_syllables n_syllableCount n_days n_words n_parents n_otherParents n_kinds n_personCount n_hopeDays n_hopeTenths n_hopeCount n_degreesTold) [.ref t0, .int p1, .int p2] o := by
  refine zIP (by decide) (Nat.le_of_ble_eq_true rfl) ?_
  intro p e s m args below meth c0 Q hQ hx hb hr hlk hml hts hown hP hE hX hS ls hl
  have S : CallFix p m c0 cX6_degrees 3 s args zT RX6 := ⟨hx, hb, hml, hown, hts⟩
  have hl : lv_has ls 3 [(0, .ref t0), (1, .int p1), (2, .int p2)] := hl
  unfold f_X6_degrees at hf
  refine lv_aload_n hx hb dX6_degrees_0 rfl (lv_at hl 0 rfl) ?_
  refine zget S uw_X6 hE hP 0 0 rfl rfl (by decide) tw_2_9 rfl rfl dX6_degrees_1 ?_
  refine lv_iload_n hx hb dX6_degrees_4 rfl (lv_at hl 1 rfl) ?_
  obtain ⟨r_1, he_1, hf⟩ := zz_b1_use hf
  refine zcVi (As := [.int p1]) (rest := []) S (k_X5_isPerson l D c N n0 nA_numbers nA_syllables nA_days nA_words nA_parents nA_otherParents nA_kinds nA_hopeDays nA_hopeTenths n_numbers n_syllables n_syllableCount n_days n_words n_parents n_otherParents n_kinds n_personCount n_hopeDays n_hopeTenths n_hopeCount n_degreesTold p1 r_1 he_1) mi_X5_isPerson tw_2_238 ⟨(Nat.le_of_ble_eq_true rfl), (Nat.le_of_ble_eq_true rfl)⟩ ⟨rfl, rfl⟩ (zpsub (is := [2, 3, 4, 5, 6, 7, 8, 9, 10, 11]) hP rfl) hE hX hS (ci := 5) rfl rfl (q0 := 0) rfl rfl hl.1 rfl (Nat.le_of_ble_eq_true rfl) dX6_degrees_5 ⟨(Nat.le_of_ble_eq_true rfl), (Nat.le_of_ble_eq_true rfl)⟩ ?_
  refine lv_if_eq (tgt := 22) hx hb dX6_degrees_8 (by decide) (fun hc_2 => ?_) (fun hc_2 => ?_)
  · have hf := zz_it hf hc_2
    refine lv_bipush (v := (-2 : Int32)) hx hb dX6_degrees_22 (by decide) ?_
    exact zRPi hQ hx hb hr hlk (Option.some.inj hf) dX6_degrees_24
  · have hf := zz_if hf hc_2
    refine lv_aload_n hx hb dX6_degrees_11 rfl (lv_at hl 0 rfl) ?_
    refine zget S uw_X6 hE hP 0 0 rfl rfl (by decide) tw_2_9 rfl rfl dX6_degrees_12 ?_
    refine lv_iload_n hx hb dX6_degrees_15 rfl (lv_at hl 2 rfl) ?_
    obtain ⟨r_3, he_3, hf⟩ := zz_b1_use hf
    refine zcVi (As := [.int p2]) (rest := []) S (k_X5_isPerson l D c N n0 nA_numbers nA_syllables nA_days nA_words nA_parents nA_otherParents nA_kinds nA_hopeDays nA_hopeTenths n_numbers n_syllables n_syllableCount n_days n_words n_parents n_otherParents n_kinds n_personCount n_hopeDays n_hopeTenths n_hopeCount n_degreesTold p2 r_3 he_3) mi_X5_isPerson tw_2_238 ⟨(Nat.le_of_ble_eq_true rfl), (Nat.le_of_ble_eq_true rfl)⟩ ⟨rfl, rfl⟩ (zpsub (is := [2, 3, 4, 5, 6, 7, 8, 9, 10, 11]) hP rfl) hE hX hS (ci := 5) rfl rfl (q0 := 0) rfl rfl hl.1 rfl (Nat.le_of_ble_eq_true rfl) dX6_degrees_16 ⟨(Nat.le_of_ble_eq_true rfl), (Nat.le_of_ble_eq_true rfl)⟩ ?_
    refine lv_if_ne (tgt := 25) hx hb dX6_degrees_19 (by decide) (fun hc_4 => ?_) (fun hc_4 => ?_)
    · have hf := zz_if hf hc_4
      refine lv_aload_n hx hb dX6_degrees_25 rfl (lv_at hl 0 rfl) ?_
      refine zget S uw_X6 hE hP 0 0 rfl rfl (by decide) tw_2_9 rfl rfl dX6_degrees_26 ?_
      refine lv_iload_n hx hb dX6_degrees_29 rfl (lv_at hl 1 rfl) ?_
      refine lv_iload_n hx hb dX6_degrees_30 rfl (lv_at hl 2 rfl) ?_
      obtain ⟨r_5, he_5, hf⟩ := zz_b1_use hf
      refine zcVi (As := [.int p1, .int p2]) (rest := []) S (k_X5_stepsBetween l D c N n0 nA_numbers nA_syllables nA_days nA_words nA_parents nA_otherParents nA_kinds nA_hopeDays nA_hopeTenths n_numbers n_syllables n_syllableCount n_days n_words n_parents n_otherParents n_kinds n_personCount n_hopeDays n_hopeTenths n_hopeCount n_degreesTold p1 p2 r_5 he_5) mi_X5_stepsBetween tw_3_23 ⟨(Nat.le_of_ble_eq_true rfl), (Nat.le_of_ble_eq_true rfl)⟩ ⟨rfl, rfl⟩ (zpsub (is := [2, 3, 4, 5, 6, 7, 8, 9, 10, 11]) hP rfl) hE hX hS (ci := 5) rfl rfl (q0 := 0) rfl rfl hl.1 rfl (Nat.le_of_ble_eq_true rfl) dX6_degrees_31 ⟨(Nat.le_of_ble_eq_true rfl), (Nat.le_of_ble_eq_true rfl)⟩ ?_
      exact zRPi hQ hx hb hr hlk (Option.some.inj hf) dX6_degrees_34
    · have hf := zz_it hf hc_4
      refine lv_bipush (v := (-2 : Int32)) hx hb dX6_degrees_22 (by decide) ?_
      exact zRPi hQ hx hb hr hlk (Option.some.inj hf) dX6_degrees_24
def f_X6_as (N : Nat) (n_parents : Nat → Int32) (n_otherParents : Nat → Int32) (n_kinds : Nat → Int32) (n_personCount : Int32) (n_degreesTold : Int32) (p1 : Int32) (p2 : Int32) : Option (Int32) := zz_b1 (f_X5_isPerson N n_personCount p1) (fun r_1 => (if r_1 = 0 then (some (-2 : Int32)) else (if p2 < 0 then (some (-3 : Int32)) else (if p2 ≤ (3 : Int32) then zz_gd (zz_in p1 16) (zz_b1 (f_X6_isOfKind N (n_kinds p1.toNatClampNeg) p2) (fun r_6 => (if r_6 = 0 then (some (-4 : Int32)) else zz_b1 (f_X5_nearOf N n_parents n_otherParents n_kinds n_personCount n_degreesTold p1) (fun r_8 => zz_b1 (f_J6_bitCount_0f7a4 N r_8) (fun r_9 => (some r_9)))))) else (some (-3 : Int32))))))
abbrev rm_X6_as : Room := { frames := 3, cells := 0, slots := 0, locals := 69 }
theorem mi_X6_as : zMI RX6 yX6_as cX6_as 3 (some .int) 2 := ⟨⟨tw_3_28, tw_3_29, tw_1_1, tw_3_30⟩, by decide +kernel, by decide +kernel, by decide +kernel⟩
set_option maxHeartbeats 4000000 in
set_option maxRecDepth 100000 in
theorem k_X6_as (l : Launch) (D : va_G) (c : Nat → ClassId) (N : Nat) (t0 : Nat) (n0 : Nat) (tA_images : Nat) (r0 : Nat) (m0 : Nat) (h0 : Nat) (o0 : Nat) (sA : Nat) (tA_rooms : Nat) (t_rooms : Nat → Int32) (n0_x : Nat) (nA_numbers : Nat) (nA_syllables : Nat) (nA_days : Nat) (nA_words : Nat) (nA_parents : Nat) (nA_otherParents : Nat) (nA_kinds : Nat) (nA_hopeDays : Nat) (nA_hopeTenths : Nat) (n_numbers : Nat → Int32) (n_syllables : Nat → Int64) (n_syllableCount : Int32) (n_days : Nat → Int32) (n_words : Nat → Int64) (n_parents : Nat → Int32) (n_otherParents : Nat → Int32) (n_kinds : Nat → Int32) (n_personCount : Int32) (n_hopeDays : Nat → Int32) (n_hopeTenths : Nat → Int32) (n_hopeCount : Int32) (n_degreesTold : Int32) (p1 : Int32) (p2 : Int32) (o : Int32) (hf : f_X6_as N n_parents n_otherParents n_kinds n_personCount n_degreesTold p1 p2 = some o) : zMPi l D c yX6_as cX6_as 3 (some .int) rm_X6_as (wX6 c t0 n0 tA_images r0 m0 h0 o0 sA tA_rooms t_rooms ++ wX5 c n0 nA_numbers nA_syllables nA_days nA_words nA_parents nA_otherParents nA_kinds nA_hopeDays nA_hopeTenths n_numbers n_syllables n_syllableCount n_days n_words n_parents n_otherParents n_kinds n_personCount n_hopeDays n_hopeTenths n_hopeCount n_degreesTold) [.ref t0, .int p1, .int p2] o := by
  refine zIP (by decide) (Nat.le_of_ble_eq_true rfl) ?_
  intro p e s m args below meth c0 Q hQ hx hb hr hlk hml hts hown hP hE hX hS ls hl
  have S : CallFix p m c0 cX6_as 3 s args zT RX6 := ⟨hx, hb, hml, hown, hts⟩
  have hl : lv_has ls 3 [(0, .ref t0), (1, .int p1), (2, .int p2)] := hl
  unfold f_X6_as at hf
  refine lv_aload_n hx hb dX6_as_0 rfl (lv_at hl 0 rfl) ?_
  refine zget S uw_X6 hE hP 0 0 rfl rfl (by decide) tw_2_9 rfl rfl dX6_as_1 ?_
  refine lv_iload_n hx hb dX6_as_4 rfl (lv_at hl 1 rfl) ?_
  obtain ⟨r_1, he_1, hf⟩ := zz_b1_use hf
  refine zcVi (As := [.int p1]) (rest := []) S (k_X5_isPerson l D c N n0 nA_numbers nA_syllables nA_days nA_words nA_parents nA_otherParents nA_kinds nA_hopeDays nA_hopeTenths n_numbers n_syllables n_syllableCount n_days n_words n_parents n_otherParents n_kinds n_personCount n_hopeDays n_hopeTenths n_hopeCount n_degreesTold p1 r_1 he_1) mi_X5_isPerson tw_2_238 ⟨(Nat.le_of_ble_eq_true rfl), (Nat.le_of_ble_eq_true rfl)⟩ ⟨rfl, rfl⟩ (zpsub (is := [2, 3, 4, 5, 6, 7, 8, 9, 10, 11]) hP rfl) hE hX hS (ci := 5) rfl rfl (q0 := 0) rfl rfl hl.1 rfl (Nat.le_of_ble_eq_true rfl) dX6_as_5 ⟨(Nat.le_of_ble_eq_true rfl), (Nat.le_of_ble_eq_true rfl)⟩ ?_
  refine lv_if_ne (tgt := 14) hx hb dX6_as_8 (by decide) (fun hc_2 => ?_) (fun hc_2 => ?_)
  · have hf := zz_if hf hc_2
    refine lv_iload_n hx hb dX6_as_14 rfl (lv_at hl 2 rfl) ?_
    refine lv_if_lt (tgt := 23) hx hb dX6_as_15 (by decide) (fun hc_3 => ?_) (fun hc_3 => ?_)
    · have hf := zz_it hf hc_3
      refine lv_bipush (v := (-3 : Int32)) hx hb dX6_as_23 (by decide) ?_
      exact zRPi hQ hx hb hr hlk (Option.some.inj hf) dX6_as_25
    · have hf := zz_if hf hc_3
      refine lv_iload_n hx hb dX6_as_18 rfl (lv_at hl 2 rfl) ?_
      refine lv_iconst (v := (3 : Int32)) hx hb dX6_as_19 (by decide) ?_
      refine lv_icmp_le (tgt := 26) hx hb dX6_as_20 (by decide) (fun hc_4 => ?_) (fun hc_4 => ?_)
      · have hf := zz_it hf hc_4
        refine lv_aload_n hx hb dX6_as_26 rfl (lv_at hl 0 rfl) ?_
        refine zget S uw_X6 hE hP 0 0 rfl rfl (by decide) tw_2_9 rfl rfl dX6_as_27 ?_
        refine zget S uw_X5 hE hP 2 7 rfl rfl (by decide) tw_1_52 rfl rfl dX6_as_30 ?_
        refine lv_iload_n hx hb dX6_as_33 rfl (lv_at hl 1 rfl) ?_
        obtain ⟨hin_5, hf⟩ := zz_gd_use hf
        refine zild hx hb hE hP 9 rfl (zz_in_ok hin_5) dX6_as_34 ?_
        refine lv_iload_n hx hb dX6_as_35 rfl (lv_at hl 2 rfl) ?_
        obtain ⟨r_6, he_6, hf⟩ := zz_b1_use hf
        refine zcSi (As := [.int (n_kinds p1.toNatClampNeg), .int p2]) (rest := []) S (k_X6_isOfKind l D c N  (n_kinds p1.toNatClampNeg) p2 r_6 he_6) mi_X6_isOfKind tw_3_31 ⟨(Nat.le_of_ble_eq_true rfl), (Nat.le_of_ble_eq_true rfl)⟩ ⟨rfl, rfl⟩ (zpnil) hE hX hS rfl hl.1 rfl (Nat.le_of_ble_eq_true rfl) dX6_as_36 ⟨(Nat.le_of_ble_eq_true rfl), (Nat.le_of_ble_eq_true rfl)⟩ ?_
        refine lv_if_eq (tgt := 56) hx hb dX6_as_39 (by decide) (fun hc_7 => ?_) (fun hc_7 => ?_)
        · have hf := zz_it hf hc_7
          refine lv_bipush (v := (-4 : Int32)) hx hb dX6_as_56 (by decide) ?_
          exact zRPi hQ hx hb hr hlk (Option.some.inj hf) dX6_as_58
        · have hf := zz_if hf hc_7
          refine lv_aload_n hx hb dX6_as_42 rfl (lv_at hl 0 rfl) ?_
          refine zget S uw_X6 hE hP 0 0 rfl rfl (by decide) tw_2_9 rfl rfl dX6_as_43 ?_
          refine lv_iload_n hx hb dX6_as_46 rfl (lv_at hl 1 rfl) ?_
          obtain ⟨r_8, he_8, hf⟩ := zz_b1_use hf
          refine zcVi (As := [.int p1]) (rest := []) S (k_X5_nearOf l D c N n0 nA_numbers nA_syllables nA_days nA_words nA_parents nA_otherParents nA_kinds nA_hopeDays nA_hopeTenths n_numbers n_syllables n_syllableCount n_days n_words n_parents n_otherParents n_kinds n_personCount n_hopeDays n_hopeTenths n_hopeCount n_degreesTold p1 r_8 he_8) mi_X5_nearOf tw_3_2 ⟨(Nat.le_of_ble_eq_true rfl), (Nat.le_of_ble_eq_true rfl)⟩ ⟨rfl, rfl⟩ (zpsub (is := [2, 3, 4, 5, 6, 7, 8, 9, 10, 11]) hP rfl) hE hX hS (ci := 5) rfl rfl (q0 := 0) rfl rfl hl.1 rfl (Nat.le_of_ble_eq_true rfl) dX6_as_47 ⟨(Nat.le_of_ble_eq_true rfl), (Nat.le_of_ble_eq_true rfl)⟩ ?_
          obtain ⟨r_9, he_9, hf⟩ := zz_b1_use hf
          refine zcSi (As := [.int r_8]) (rest := []) S (k_J6_bitCount_0f7a4 l D c N  r_8 r_9 he_9) mi_J6_bitCount_0f7a4 tw_3_34 ⟨(Nat.le_of_ble_eq_true rfl), (Nat.le_of_ble_eq_true rfl)⟩ ⟨rfl, rfl⟩ (zpnil) hE hX hS rfl hl.1 rfl (Nat.le_of_ble_eq_true rfl) dX6_as_50 ⟨(Nat.le_of_ble_eq_true rfl), (Nat.le_of_ble_eq_true rfl)⟩ ?_
          refine lv_goto (tgt := 58) hx hb dX6_as_53 (by decide) ?_
          exact zRPi hQ hx hb hr hlk (Option.some.inj hf) dX6_as_58
      · have hf := zz_if hf hc_4
        refine lv_bipush (v := (-3 : Int32)) hx hb dX6_as_23 (by decide) ?_
        exact zRPi hQ hx hb hr hlk (Option.some.inj hf) dX6_as_25
  · have hf := zz_it hf hc_2
    refine lv_bipush (v := (-2 : Int32)) hx hb dX6_as_11 (by decide) ?_
    exact zRPi hQ hx hb hr hlk (Option.some.inj hf) dX6_as_13
def f_X6_sum (N : Nat) (n_numbers : Nat → Int32) (p1 : Int64) : Option (Int32) := zz_b1 (f_X6_lettersOf N p1) (fun r_1 => (if r_1 = 0 then (some (-3 : Int32)) else zz_b1 (f_X5_sumOf N n_numbers p1) (fun r_3 => (some r_3))))
abbrev rm_X6_sum : Room := { frames := 2, cells := 0, slots := 0, locals := 48 }
theorem mi_X6_sum : zMI RX6 yX6_sum cX6_sum 3 (some .int) 1 := ⟨⟨tw_3_41, tw_3_42, tw_1_1, tw_3_43⟩, by decide +kernel, by decide +kernel, by decide +kernel⟩
set_option maxHeartbeats 4000000 in
set_option maxRecDepth 100000 in
theorem k_X6_sum (l : Launch) (D : va_G) (c : Nat → ClassId) (N : Nat) (t0 : Nat) (n0 : Nat) (tA_images : Nat) (r0 : Nat) (m0 : Nat) (h0 : Nat) (o0 : Nat) (sA : Nat) (tA_rooms : Nat) (t_rooms : Nat → Int32) (n0_x : Nat) (nA_numbers : Nat) (nA_syllables : Nat) (nA_days : Nat) (nA_words : Nat) (nA_parents : Nat) (nA_otherParents : Nat) (nA_kinds : Nat) (nA_hopeDays : Nat) (nA_hopeTenths : Nat) (n_numbers : Nat → Int32) (n_syllables : Nat → Int64) (n_syllableCount : Int32) (n_days : Nat → Int32) (n_words : Nat → Int64) (n_parents : Nat → Int32) (n_otherParents : Nat → Int32) (n_kinds : Nat → Int32) (n_personCount : Int32) (n_hopeDays : Nat → Int32) (n_hopeTenths : Nat → Int32) (n_hopeCount : Int32) (n_degreesTold : Int32) (p1 : Int64) (o : Int32) (hf : f_X6_sum N n_numbers p1 = some o) : zMPi l D c yX6_sum cX6_sum 3 (some .int) rm_X6_sum (wX6 c t0 n0 tA_images r0 m0 h0 o0 sA tA_rooms t_rooms ++ wX5 c n0 nA_numbers nA_syllables nA_days nA_words nA_parents nA_otherParents nA_kinds nA_hopeDays nA_hopeTenths n_numbers n_syllables n_syllableCount n_days n_words n_parents n_otherParents n_kinds n_personCount n_hopeDays n_hopeTenths n_hopeCount n_degreesTold) [.ref t0, .long p1] o := by
  refine zIP (by decide) (Nat.le_of_ble_eq_true rfl) ?_
  intro p e s m args below meth c0 Q hQ hx hb hr hlk hml hts hown hP hE hX hS ls hl
  have S : CallFix p m c0 cX6_sum 3 s args zT RX6 := ⟨hx, hb, hml, hown, hts⟩
  have hl : lv_has ls 3 [(0, .ref t0), (1, .long p1)] := hl
  unfold f_X6_sum at hf
  refine lv_lload_n hx hb dX6_sum_0 rfl (lv_at hl 1 rfl) ?_
  obtain ⟨r_1, he_1, hf⟩ := zz_b1_use hf
  refine zcSi (As := [.long p1]) (rest := []) S (k_X6_lettersOf l D c N  p1 r_1 he_1) mi_X6_lettersOf tw_3_44 ⟨(Nat.le_of_ble_eq_true rfl), (Nat.le_of_ble_eq_true rfl)⟩ ⟨rfl, rfl⟩ (zpnil) hE hX hS rfl hl.1 rfl (Nat.le_of_ble_eq_true rfl) dX6_sum_1 ⟨(Nat.le_of_ble_eq_true rfl), (Nat.le_of_ble_eq_true rfl)⟩ ?_
  refine lv_if_ne (tgt := 12) hx hb dX6_sum_4 (by decide) (fun hc_2 => ?_) (fun hc_2 => ?_)
  · have hf := zz_if hf hc_2
    refine lv_aload_n hx hb dX6_sum_12 rfl (lv_at hl 0 rfl) ?_
    refine zget S uw_X6 hE hP 0 0 rfl rfl (by decide) tw_2_9 rfl rfl dX6_sum_13 ?_
    refine lv_lload_n hx hb dX6_sum_16 rfl (lv_at hl 1 rfl) ?_
    obtain ⟨r_3, he_3, hf⟩ := zz_b1_use hf
    refine zcVi (As := [.long p1]) (rest := []) S (k_X5_sumOf l D c N n0 nA_numbers nA_syllables nA_days nA_words nA_parents nA_otherParents nA_kinds nA_hopeDays nA_hopeTenths n_numbers n_syllables n_syllableCount n_days n_words n_parents n_otherParents n_kinds n_personCount n_hopeDays n_hopeTenths n_hopeCount n_degreesTold p1 r_3 he_3) mi_X5_sumOf tw_3_48 ⟨(Nat.le_of_ble_eq_true rfl), (Nat.le_of_ble_eq_true rfl)⟩ ⟨rfl, rfl⟩ (zpsub (is := [2, 3, 4, 5, 6, 7, 8, 9, 10, 11]) hP rfl) hE hX hS (ci := 5) rfl rfl (q0 := 0) rfl rfl hl.1 rfl (Nat.le_of_ble_eq_true rfl) dX6_sum_17 ⟨(Nat.le_of_ble_eq_true rfl), (Nat.le_of_ble_eq_true rfl)⟩ ?_
    exact zRPi hQ hx hb hr hlk (Option.some.inj hf) dX6_sum_20
  · have hf := zz_it hf hc_2
    refine lv_bipush (v := (-3 : Int32)) hx hb dX6_sum_7 (by decide) ?_
    refine lv_goto (tgt := 20) hx hb dX6_sum_9 (by decide) ?_
    exact zRPi hQ hx hb hr hlk (Option.some.inj hf) dX6_sum_20
def f_X6_name (N : Nat) (n_numbers : Nat → Int32) (n_syllables : Nat → Int64) (n_syllableCount : Int32) (p1 : Int64) : Option (Int32) := zz_b1 (f_X6_lettersOf N p1) (fun r_1 => (if r_1 = 0 then (some (-3 : Int32)) else zz_b1 (f_X5_isName N n_numbers n_syllables n_syllableCount p1) (fun r_3 => (if r_3 = 0 then (some (0 : Int32)) else (some (1 : Int32))))))
abbrev rm_X6_name : Room := { frames := 7, cells := 0, slots := 0, locals := 175 }
theorem mi_X6_name : zMI RX6 yX6_name cX6_name 3 (some .int) 1 := ⟨⟨tw_3_56, tw_3_57, tw_1_1, tw_3_58⟩, by decide +kernel, by decide +kernel, by decide +kernel⟩
set_option maxHeartbeats 4000000 in
set_option maxRecDepth 100000 in
theorem k_X6_name (l : Launch) (D : va_G) (c : Nat → ClassId) (N : Nat) (t0 : Nat) (n0 : Nat) (tA_images : Nat) (r0 : Nat) (m0 : Nat) (h0 : Nat) (o0 : Nat) (sA : Nat) (tA_rooms : Nat) (t_rooms : Nat → Int32) (n0_x : Nat) (nA_numbers : Nat) (nA_syllables : Nat) (nA_days : Nat) (nA_words : Nat) (nA_parents : Nat) (nA_otherParents : Nat) (nA_kinds : Nat) (nA_hopeDays : Nat) (nA_hopeTenths : Nat) (n_numbers : Nat → Int32) (n_syllables : Nat → Int64) (n_syllableCount : Int32) (n_days : Nat → Int32) (n_words : Nat → Int64) (n_parents : Nat → Int32) (n_otherParents : Nat → Int32) (n_kinds : Nat → Int32) (n_personCount : Int32) (n_hopeDays : Nat → Int32) (n_hopeTenths : Nat → Int32) (n_hopeCount : Int32) (n_degreesTold : Int32) (p1 : Int64) (o : Int32) (hf : f_X6_name N n_numbers n_syllables n_syllableCount p1 = some o) : zMPi l D c yX6_name cX6_name 3 (some .int) rm_X6_name (wX6 c t0 n0 tA_images r0 m0 h0 o0 sA tA_rooms t_rooms ++ wX5 c n0 nA_numbers nA_syllables nA_days nA_words nA_parents nA_otherParents nA_kinds nA_hopeDays nA_hopeTenths n_numbers n_syllables n_syllableCount n_days n_words n_parents n_otherParents n_kinds n_personCount n_hopeDays n_hopeTenths n_hopeCount n_degreesTold) [.ref t0, .long p1] o := by
  refine zIP (by decide) (Nat.le_of_ble_eq_true rfl) ?_
  intro p e s m args below meth c0 Q hQ hx hb hr hlk hml hts hown hP hE hX hS ls hl
  have S : CallFix p m c0 cX6_name 3 s args zT RX6 := ⟨hx, hb, hml, hown, hts⟩
  have hl : lv_has ls 3 [(0, .ref t0), (1, .long p1)] := hl
  unfold f_X6_name at hf
  refine lv_lload_n hx hb dX6_name_0 rfl (lv_at hl 1 rfl) ?_
  obtain ⟨r_1, he_1, hf⟩ := zz_b1_use hf
  refine zcSi (As := [.long p1]) (rest := []) S (k_X6_lettersOf l D c N  p1 r_1 he_1) mi_X6_lettersOf tw_3_44 ⟨(Nat.le_of_ble_eq_true rfl), (Nat.le_of_ble_eq_true rfl)⟩ ⟨rfl, rfl⟩ (zpnil) hE hX hS rfl hl.1 rfl (Nat.le_of_ble_eq_true rfl) dX6_name_1 ⟨(Nat.le_of_ble_eq_true rfl), (Nat.le_of_ble_eq_true rfl)⟩ ?_
  refine lv_if_ne (tgt := 10) hx hb dX6_name_4 (by decide) (fun hc_2 => ?_) (fun hc_2 => ?_)
  · have hf := zz_if hf hc_2
    refine lv_aload_n hx hb dX6_name_10 rfl (lv_at hl 0 rfl) ?_
    refine zget S uw_X6 hE hP 0 0 rfl rfl (by decide) tw_2_9 rfl rfl dX6_name_11 ?_
    refine lv_lload_n hx hb dX6_name_14 rfl (lv_at hl 1 rfl) ?_
    obtain ⟨r_3, he_3, hf⟩ := zz_b1_use hf
    refine zcVi (As := [.long p1]) (rest := []) S (k_X5_isName l D c N n0 nA_numbers nA_syllables nA_days nA_words nA_parents nA_otherParents nA_kinds nA_hopeDays nA_hopeTenths n_numbers n_syllables n_syllableCount n_days n_words n_parents n_otherParents n_kinds n_personCount n_hopeDays n_hopeTenths n_hopeCount n_degreesTold p1 r_3 he_3) mi_X5_isName tw_3_59 ⟨(Nat.le_of_ble_eq_true rfl), (Nat.le_of_ble_eq_true rfl)⟩ ⟨rfl, rfl⟩ (zpsub (is := [2, 3, 4, 5, 6, 7, 8, 9, 10, 11]) hP rfl) hE hX hS (ci := 5) rfl rfl (q0 := 0) rfl rfl hl.1 rfl (Nat.le_of_ble_eq_true rfl) dX6_name_15 ⟨(Nat.le_of_ble_eq_true rfl), (Nat.le_of_ble_eq_true rfl)⟩ ?_
    refine lv_if_eq (tgt := 25) hx hb dX6_name_18 (by decide) (fun hc_4 => ?_) (fun hc_4 => ?_)
    · have hf := zz_it hf hc_4
      refine lv_iconst (v := (0 : Int32)) hx hb dX6_name_25 (by decide) ?_
      exact zRPi hQ hx hb hr hlk (Option.some.inj hf) dX6_name_26
    · have hf := zz_if hf hc_4
      refine lv_iconst (v := (1 : Int32)) hx hb dX6_name_21 (by decide) ?_
      refine lv_goto (tgt := 26) hx hb dX6_name_22 (by decide) ?_
      exact zRPi hQ hx hb hr hlk (Option.some.inj hf) dX6_name_26
  · have hf := zz_it hf hc_2
    refine lv_bipush (v := (-3 : Int32)) hx hb dX6_name_7 (by decide) ?_
    exact zRPi hQ hx hb hr hlk (Option.some.inj hf) dX6_name_9
def f_X6_judge (N : Nat) (n_numbers : Nat → Int32) (n_syllables : Nat → Int64) (n_syllableCount : Int32) (n_days : Nat → Int32) (n_words : Nat → Int64) (n_parents : Nat → Int32) (n_otherParents : Nat → Int32) (n_kinds : Nat → Int32) (n_personCount : Int32) (n_degreesTold : Int32) (p1 : Int32) : Option (Int32) := zz_b1 (f_X5_isPerson N n_personCount p1) (fun r_1 => (if r_1 = 0 then (some (-2 : Int32)) else zz_b1 (f_X5_faultOfName N n_numbers n_syllables n_syllableCount n_days n_words n_parents n_otherParents n_kinds n_personCount n_degreesTold p1) (fun r_3 => (some r_3))))
abbrev rm_X6_judge : Room := { frames := 8, cells := 0, slots := 0, locals := 198 }
theorem mi_X6_judge : zMI RX6 yX6_judge cX6_judge 2 (some .int) 1 := ⟨⟨tw_3_73, tw_3_74, tw_1_1, tw_3_75⟩, by decide +kernel, by decide +kernel, by decide +kernel⟩
set_option maxHeartbeats 4000000 in
set_option maxRecDepth 100000 in
theorem k_X6_judge (l : Launch) (D : va_G) (c : Nat → ClassId) (N : Nat) (t0 : Nat) (n0 : Nat) (tA_images : Nat) (r0 : Nat) (m0 : Nat) (h0 : Nat) (o0 : Nat) (sA : Nat) (tA_rooms : Nat) (t_rooms : Nat → Int32) (n0_x : Nat) (nA_numbers : Nat) (nA_syllables : Nat) (nA_days : Nat) (nA_words : Nat) (nA_parents : Nat) (nA_otherParents : Nat) (nA_kinds : Nat) (nA_hopeDays : Nat) (nA_hopeTenths : Nat) (n_numbers : Nat → Int32) (n_syllables : Nat → Int64) (n_syllableCount : Int32) (n_days : Nat → Int32) (n_words : Nat → Int64) (n_parents : Nat → Int32) (n_otherParents : Nat → Int32) (n_kinds : Nat → Int32) (n_personCount : Int32) (n_hopeDays : Nat → Int32) (n_hopeTenths : Nat → Int32) (n_hopeCount : Int32) (n_degreesTold : Int32) (p1 : Int32) (o : Int32) (hf : f_X6_judge N n_numbers n_syllables n_syllableCount n_days n_words n_parents n_otherParents n_kinds n_personCount n_degreesTold p1 = some o) : zMPi l D c yX6_judge cX6_judge 2 (some .int) rm_X6_judge (wX6 c t0 n0 tA_images r0 m0 h0 o0 sA tA_rooms t_rooms ++ wX5 c n0 nA_numbers nA_syllables nA_days nA_words nA_parents nA_otherParents nA_kinds nA_hopeDays nA_hopeTenths n_numbers n_syllables n_syllableCount n_days n_words n_parents n_otherParents n_kinds n_personCount n_hopeDays n_hopeTenths n_hopeCount n_degreesTold) [.ref t0, .int p1] o := by
  refine zIP (by decide) (Nat.le_of_ble_eq_true rfl) ?_
  intro p e s m args below meth c0 Q hQ hx hb hr hlk hml hts hown hP hE hX hS ls hl
  have S : CallFix p m c0 cX6_judge 2 s args zT RX6 := ⟨hx, hb, hml, hown, hts⟩
  have hl : lv_has ls 2 [(0, .ref t0), (1, .int p1)] := hl
  unfold f_X6_judge at hf
  refine lv_aload_n hx hb dX6_judge_0 rfl (lv_at hl 0 rfl) ?_
  refine zget S uw_X6 hE hP 0 0 rfl rfl (by decide) tw_2_9 rfl rfl dX6_judge_1 ?_
  refine lv_iload_n hx hb dX6_judge_4 rfl (lv_at hl 1 rfl) ?_
  obtain ⟨r_1, he_1, hf⟩ := zz_b1_use hf
  refine zcVi (As := [.int p1]) (rest := []) S (k_X5_isPerson l D c N n0 nA_numbers nA_syllables nA_days nA_words nA_parents nA_otherParents nA_kinds nA_hopeDays nA_hopeTenths n_numbers n_syllables n_syllableCount n_days n_words n_parents n_otherParents n_kinds n_personCount n_hopeDays n_hopeTenths n_hopeCount n_degreesTold p1 r_1 he_1) mi_X5_isPerson tw_2_238 ⟨(Nat.le_of_ble_eq_true rfl), (Nat.le_of_ble_eq_true rfl)⟩ ⟨rfl, rfl⟩ (zpsub (is := [2, 3, 4, 5, 6, 7, 8, 9, 10, 11]) hP rfl) hE hX hS (ci := 5) rfl rfl (q0 := 0) rfl rfl hl.1 rfl (Nat.le_of_ble_eq_true rfl) dX6_judge_5 ⟨(Nat.le_of_ble_eq_true rfl), (Nat.le_of_ble_eq_true rfl)⟩ ?_
  refine lv_if_eq (tgt := 22) hx hb dX6_judge_8 (by decide) (fun hc_2 => ?_) (fun hc_2 => ?_)
  · have hf := zz_it hf hc_2
    refine lv_bipush (v := (-2 : Int32)) hx hb dX6_judge_22 (by decide) ?_
    exact zRPi hQ hx hb hr hlk (Option.some.inj hf) dX6_judge_24
  · have hf := zz_if hf hc_2
    refine lv_aload_n hx hb dX6_judge_11 rfl (lv_at hl 0 rfl) ?_
    refine zget S uw_X6 hE hP 0 0 rfl rfl (by decide) tw_2_9 rfl rfl dX6_judge_12 ?_
    refine lv_iload_n hx hb dX6_judge_15 rfl (lv_at hl 1 rfl) ?_
    obtain ⟨r_3, he_3, hf⟩ := zz_b1_use hf
    refine zcVi (As := [.int p1]) (rest := []) S (k_X5_faultOfName l D c N n0 nA_numbers nA_syllables nA_days nA_words nA_parents nA_otherParents nA_kinds nA_hopeDays nA_hopeTenths n_numbers n_syllables n_syllableCount n_days n_words n_parents n_otherParents n_kinds n_personCount n_hopeDays n_hopeTenths n_hopeCount n_degreesTold p1 r_3 he_3) mi_X5_faultOfName tw_3_76 ⟨(Nat.le_of_ble_eq_true rfl), (Nat.le_of_ble_eq_true rfl)⟩ ⟨rfl, rfl⟩ (zpsub (is := [2, 3, 4, 5, 6, 7, 8, 9, 10, 11]) hP rfl) hE hX hS (ci := 5) rfl rfl (q0 := 0) rfl rfl hl.1 rfl (Nat.le_of_ble_eq_true rfl) dX6_judge_16 ⟨(Nat.le_of_ble_eq_true rfl), (Nat.le_of_ble_eq_true rfl)⟩ ?_
    refine lv_goto (tgt := 24) hx hb dX6_judge_19 (by decide) ?_
    exact zRPi hQ hx hb hr hlk (Option.some.inj hf) dX6_judge_24
def f_X6_taker (N : Nat) (n_numbers : Nat → Int32) (n_syllables : Nat → Int64) (n_syllableCount : Int32) (n_days : Nat → Int32) (n_words : Nat → Int64) (n_parents : Nat → Int32) (n_otherParents : Nat → Int32) (n_kinds : Nat → Int32) (n_personCount : Int32) (n_degreesTold : Int32) (p1 : Int32) : Option (Int32) := zz_b1 (f_X5_isPerson N n_personCount p1) (fun r_1 => (if r_1 = 0 then (some (-2 : Int32)) else zz_b1 (f_X5_faultOfName N n_numbers n_syllables n_syllableCount n_days n_words n_parents n_otherParents n_kinds n_personCount n_degreesTold p1) (fun r_3 => (if r_3 = (4 : Int32) then zz_gd (zz_in p1 16) (zz_b1 (f_X5_nearOf N n_parents n_otherParents n_kinds n_personCount n_degreesTold p1) (fun r_6 => zz_b1 (f_X5_leastCalled N n_words n_personCount (n_words p1.toNatClampNeg) r_6) (fun r_7 => (some r_7)))) else (some (-1 : Int32))))))
abbrev rm_X6_taker : Room := { frames := 8, cells := 0, slots := 0, locals := 198 }
theorem mi_X6_taker : zMI RX6 yX6_taker cX6_taker 2 (some .int) 1 := ⟨⟨tw_3_91, tw_3_92, tw_1_1, tw_3_93⟩, by decide +kernel, by decide +kernel, by decide +kernel⟩
set_option maxHeartbeats 4000000 in
set_option maxRecDepth 100000 in
theorem k_X6_taker (l : Launch) (D : va_G) (c : Nat → ClassId) (N : Nat) (t0 : Nat) (n0 : Nat) (tA_images : Nat) (r0 : Nat) (m0 : Nat) (h0 : Nat) (o0 : Nat) (sA : Nat) (tA_rooms : Nat) (t_rooms : Nat → Int32) (n0_x : Nat) (nA_numbers : Nat) (nA_syllables : Nat) (nA_days : Nat) (nA_words : Nat) (nA_parents : Nat) (nA_otherParents : Nat) (nA_kinds : Nat) (nA_hopeDays : Nat) (nA_hopeTenths : Nat) (n_numbers : Nat → Int32) (n_syllables : Nat → Int64) (n_syllableCount : Int32) (n_days : Nat → Int32) (n_words : Nat → Int64) (n_parents : Nat → Int32) (n_otherParents : Nat → Int32) (n_kinds : Nat → Int32) (n_personCount : Int32) (n_hopeDays : Nat → Int32) (n_hopeTenths : Nat → Int32) (n_hopeCount : Int32) (n_degreesTold : Int32) (p1 : Int32) (o : Int32) (hf : f_X6_taker N n_numbers n_syllables n_syllableCount n_days n_words n_parents n_otherParents n_kinds n_personCount n_degreesTold p1 = some o) : zMPi l D c yX6_taker cX6_taker 2 (some .int) rm_X6_taker (wX6 c t0 n0 tA_images r0 m0 h0 o0 sA tA_rooms t_rooms ++ wX5 c n0 nA_numbers nA_syllables nA_days nA_words nA_parents nA_otherParents nA_kinds nA_hopeDays nA_hopeTenths n_numbers n_syllables n_syllableCount n_days n_words n_parents n_otherParents n_kinds n_personCount n_hopeDays n_hopeTenths n_hopeCount n_degreesTold) [.ref t0, .int p1] o := by
  refine zIP (by decide) (Nat.le_of_ble_eq_true rfl) ?_
  intro p e s m args below meth c0 Q hQ hx hb hr hlk hml hts hown hP hE hX hS ls hl
  have S : CallFix p m c0 cX6_taker 2 s args zT RX6 := ⟨hx, hb, hml, hown, hts⟩
  have hl : lv_has ls 2 [(0, .ref t0), (1, .int p1)] := hl
  unfold f_X6_taker at hf
  refine lv_aload_n hx hb dX6_taker_0 rfl (lv_at hl 0 rfl) ?_
  refine zget S uw_X6 hE hP 0 0 rfl rfl (by decide) tw_2_9 rfl rfl dX6_taker_1 ?_
  refine lv_iload_n hx hb dX6_taker_4 rfl (lv_at hl 1 rfl) ?_
  obtain ⟨r_1, he_1, hf⟩ := zz_b1_use hf
  refine zcVi (As := [.int p1]) (rest := []) S (k_X5_isPerson l D c N n0 nA_numbers nA_syllables nA_days nA_words nA_parents nA_otherParents nA_kinds nA_hopeDays nA_hopeTenths n_numbers n_syllables n_syllableCount n_days n_words n_parents n_otherParents n_kinds n_personCount n_hopeDays n_hopeTenths n_hopeCount n_degreesTold p1 r_1 he_1) mi_X5_isPerson tw_2_238 ⟨(Nat.le_of_ble_eq_true rfl), (Nat.le_of_ble_eq_true rfl)⟩ ⟨rfl, rfl⟩ (zpsub (is := [2, 3, 4, 5, 6, 7, 8, 9, 10, 11]) hP rfl) hE hX hS (ci := 5) rfl rfl (q0 := 0) rfl rfl hl.1 rfl (Nat.le_of_ble_eq_true rfl) dX6_taker_5 ⟨(Nat.le_of_ble_eq_true rfl), (Nat.le_of_ble_eq_true rfl)⟩ ?_
  refine lv_if_ne (tgt := 14) hx hb dX6_taker_8 (by decide) (fun hc_2 => ?_) (fun hc_2 => ?_)
  · have hf := zz_if hf hc_2
    refine lv_aload_n hx hb dX6_taker_14 rfl (lv_at hl 0 rfl) ?_
    refine zget S uw_X6 hE hP 0 0 rfl rfl (by decide) tw_2_9 rfl rfl dX6_taker_15 ?_
    refine lv_iload_n hx hb dX6_taker_18 rfl (lv_at hl 1 rfl) ?_
    obtain ⟨r_3, he_3, hf⟩ := zz_b1_use hf
    refine zcVi (As := [.int p1]) (rest := []) S (k_X5_faultOfName l D c N n0 nA_numbers nA_syllables nA_days nA_words nA_parents nA_otherParents nA_kinds nA_hopeDays nA_hopeTenths n_numbers n_syllables n_syllableCount n_days n_words n_parents n_otherParents n_kinds n_personCount n_hopeDays n_hopeTenths n_hopeCount n_degreesTold p1 r_3 he_3) mi_X5_faultOfName tw_3_76 ⟨(Nat.le_of_ble_eq_true rfl), (Nat.le_of_ble_eq_true rfl)⟩ ⟨rfl, rfl⟩ (zpsub (is := [2, 3, 4, 5, 6, 7, 8, 9, 10, 11]) hP rfl) hE hX hS (ci := 5) rfl rfl (q0 := 0) rfl rfl hl.1 rfl (Nat.le_of_ble_eq_true rfl) dX6_taker_19 ⟨(Nat.le_of_ble_eq_true rfl), (Nat.le_of_ble_eq_true rfl)⟩ ?_
    refine lv_iconst (v := (4 : Int32)) hx hb dX6_taker_22 (by decide) ?_
    refine lv_icmp_eq (tgt := 28) hx hb dX6_taker_23 (by decide) (fun hc_4 => ?_) (fun hc_4 => ?_)
    · have hf := zz_it hf hc_4
      refine lv_aload_n hx hb dX6_taker_28 rfl (lv_at hl 0 rfl) ?_
      refine zget S uw_X6 hE hP 0 0 rfl rfl (by decide) tw_2_9 rfl rfl dX6_taker_29 ?_
      refine lv_aload_n hx hb dX6_taker_32 rfl (lv_at hl 0 rfl) ?_
      refine zget S uw_X6 hE hP 0 0 rfl rfl (by decide) tw_2_9 rfl rfl dX6_taker_33 ?_
      refine zget S uw_X5 hE hP 2 4 rfl rfl (by decide) tw_1_45 rfl rfl dX6_taker_36 ?_
      refine lv_iload_n hx hb dX6_taker_39 rfl (lv_at hl 1 rfl) ?_
      obtain ⟨hin_5, hf⟩ := zz_gd_use hf
      refine zlld hx hb hE hP 6 rfl (zz_in_ok hin_5) dX6_taker_40 ?_
      refine lv_aload_n hx hb dX6_taker_41 rfl (lv_at hl 0 rfl) ?_
      refine zget S uw_X6 hE hP 0 0 rfl rfl (by decide) tw_2_9 rfl rfl dX6_taker_42 ?_
      refine lv_iload_n hx hb dX6_taker_45 rfl (lv_at hl 1 rfl) ?_
      obtain ⟨r_6, he_6, hf⟩ := zz_b1_use hf
      refine zcVi (As := [.int p1]) (rest := [.long (n_words p1.toNatClampNeg), .ref n0]) S (k_X5_nearOf l D c N n0 nA_numbers nA_syllables nA_days nA_words nA_parents nA_otherParents nA_kinds nA_hopeDays nA_hopeTenths n_numbers n_syllables n_syllableCount n_days n_words n_parents n_otherParents n_kinds n_personCount n_hopeDays n_hopeTenths n_hopeCount n_degreesTold p1 r_6 he_6) mi_X5_nearOf tw_3_2 ⟨(Nat.le_of_ble_eq_true rfl), (Nat.le_of_ble_eq_true rfl)⟩ ⟨rfl, rfl⟩ (zpsub (is := [2, 3, 4, 5, 6, 7, 8, 9, 10, 11]) hP rfl) hE hX hS (ci := 5) rfl rfl (q0 := 0) rfl rfl hl.1 rfl (Nat.le_of_ble_eq_true rfl) dX6_taker_46 ⟨(Nat.le_of_ble_eq_true rfl), (Nat.le_of_ble_eq_true rfl)⟩ ?_
      obtain ⟨r_7, he_7, hf⟩ := zz_b1_use hf
      refine zcVi (As := [.long (n_words p1.toNatClampNeg), .int r_6]) (rest := []) S (k_X5_leastCalled l D c N n0 nA_numbers nA_syllables nA_days nA_words nA_parents nA_otherParents nA_kinds nA_hopeDays nA_hopeTenths n_numbers n_syllables n_syllableCount n_days n_words n_parents n_otherParents n_kinds n_personCount n_hopeDays n_hopeTenths n_hopeCount n_degreesTold (n_words p1.toNatClampNeg) r_6 r_7 he_7) mi_X5_leastCalled tw_3_94 ⟨(Nat.le_of_ble_eq_true rfl), (Nat.le_of_ble_eq_true rfl)⟩ ⟨rfl, rfl⟩ (zpsub (is := [2, 3, 4, 5, 6, 7, 8, 9, 10, 11]) hP rfl) hE hX hS (ci := 5) rfl rfl (q0 := 0) rfl rfl hl.1 rfl (Nat.le_of_ble_eq_true rfl) dX6_taker_49 ⟨(Nat.le_of_ble_eq_true rfl), (Nat.le_of_ble_eq_true rfl)⟩ ?_
      exact zRPi hQ hx hb hr hlk (Option.some.inj hf) dX6_taker_52
    · have hf := zz_if hf hc_4
      refine lv_iconst (v := (-1 : Int32)) hx hb dX6_taker_26 (by decide) ?_
      exact zRPi hQ hx hb hr hlk (Option.some.inj hf) dX6_taker_27
  · have hf := zz_it hf hc_2
    refine lv_bipush (v := (-2 : Int32)) hx hb dX6_taker_11 (by decide) ?_
    exact zRPi hQ hx hb hr hlk (Option.some.inj hf) dX6_taker_13
def f_X6_names_L50 (N : Nat) (k_14 : (Int32) → Option (Int32 × (Nat → Int64) × (Int32) × (Nat → Int64) × (Nat → Int64) × (Nat → Int32) × (Int32) × (Int32) × (Int32))) (p2 : Int32) (m_codes_5 : Nat → Int64) (m_size_6 : Int32) : Nat → (Int32) → (Int32) → Option (Int32 × (Nat → Int64) × (Int32) × (Nat → Int64) × (Nat → Int64) × (Nat → Int32) × (Int32) × (Int32) × (Int32))
  | 0, _, _ => none
  | n_14 + 1, v3_15, v4_16 => (if m_size_6 ≤ v4_16 then (k_14 v3_15) else zz_gd (zz_in v4_16 1110) (zz_b1 (f_X6_lettersOf N (m_codes_5 v4_16.toNatClampNeg)) (fun r_19 => zz_let (fun (v3_23 : Int32) => zz_let (v4_16 + (1 : Int32)) (fun v4_24 => (f_X6_names_L50 N k_14 p2 m_codes_5 m_size_6 n_14 v3_23 v4_24))) (fun k_22 => (if r_19 = p2 then zz_let (v3_15 + (1 : Int32)) (fun v3_21 => (k_22 v3_21)) else (k_22 v3_15))))))
theorem f_X6_names_L50_s (N : Nat) (k_14 : (Int32) → Option (Int32 × (Nat → Int64) × (Int32) × (Nat → Int64) × (Nat → Int64) × (Nat → Int32) × (Int32) × (Int32) × (Int32))) (p2 : Int32) (m_codes_5 : Nat → Int64) (m_size_6 : Int32) (n_14 : Nat) (v3_15 : Int32) (v4_16 : Int32) : f_X6_names_L50 N k_14 p2 m_codes_5 m_size_6 (n_14 + 1) v3_15 v4_16 = (if m_size_6 ≤ v4_16 then (k_14 v3_15) else zz_gd (zz_in v4_16 1110) (zz_b1 (f_X6_lettersOf N (m_codes_5 v4_16.toNatClampNeg)) (fun r_19 => zz_let (fun (v3_23 : Int32) => zz_let (v4_16 + (1 : Int32)) (fun v4_24 => (f_X6_names_L50 N k_14 p2 m_codes_5 m_size_6 n_14 v3_23 v4_24))) (fun k_22 => (if r_19 = p2 then zz_let (v3_15 + (1 : Int32)) (fun v3_21 => (k_22 v3_21)) else (k_22 v3_15)))))) := rfl
def f_X6_names (N : Nat) (n_numbers : Nat → Int32) (n_syllables : Nat → Int64) (n_syllableCount : Int32) (m_codes : Nat → Int64) (m_size : Int32) (m_partCodes : Nat → Int64) (m_partShifts : Nat → Int64) (m_partSums : Nat → Int32) (m_partCount : Int32) (m_wantedDay : Int32) (m_divisorsWanted : Int32) (p1 : Int32) (p2 : Int32) : Option (Int32 × (Nat → Int64) × (Int32) × (Nat → Int64) × (Nat → Int64) × (Nat → Int32) × (Int32) × (Int32) × (Int32)) := zz_b1 (f_X6_isDay N p1) (fun r_1 => (if r_1 = 0 then (some ((-3 : Int32), m_codes, m_size, m_partCodes, m_partShifts, m_partSums, m_partCount, m_wantedDay, m_divisorsWanted)) else (if p2 < 0 then (some ((-3 : Int32), m_codes, m_size, m_partCodes, m_partShifts, m_partSums, m_partCount, m_wantedDay, m_divisorsWanted)) else (if p2 ≤ (9 : Int32) then zz_b8 (f_X0_gather N m_codes m_partCodes m_partShifts m_partSums n_numbers n_syllables n_syllableCount p1 (0 : Int32)) (fun m_codes_5 m_size_6 m_partCodes_7 m_partShifts_8 m_partSums_9 m_partCount_10 m_wantedDay_11 m_divisorsWanted_12 => (if p2 = 0 then (some (m_size_6, m_codes_5, m_size_6, m_partCodes_7, m_partShifts_8, m_partSums_9, m_partCount_10, m_wantedDay_11, m_divisorsWanted_12)) else zz_let (fun (v3_25 : Int32) => (some (v3_25, m_codes_5, m_size_6, m_partCodes_7, m_partShifts_8, m_partSums_9, m_partCount_10, m_wantedDay_11, m_divisorsWanted_12))) (fun k_14 => f_X6_names_L50 N k_14 p2 m_codes_5 m_size_6 N (0 : Int32) (0 : Int32)))) else (some ((-3 : Int32), m_codes, m_size, m_partCodes, m_partShifts, m_partSums, m_partCount, m_wantedDay, m_divisorsWanted))))))
abbrev rm_X6_names : Room := { frames := 7, cells := 0, slots := 0, locals := 187 }
theorem mi_X6_names : zMI RX6 yX6_names cX6_names 5 (some .int) 2 := ⟨⟨tw_3_96, tw_3_97, tw_1_1, tw_3_98⟩, by decide +kernel, by decide +kernel, by decide +kernel⟩
set_option maxHeartbeats 4000000 in
set_option maxRecDepth 100000 in
theorem k_X6_names (l : Launch) (D : va_G) (c : Nat → ClassId) (N : Nat) (t0 : Nat) (n0 : Nat) (tA_images : Nat) (r0 : Nat) (m0 : Nat) (h0 : Nat) (o0 : Nat) (sA : Nat) (tA_rooms : Nat) (t_rooms : Nat → Int32) (n0_x : Nat) (nA_numbers : Nat) (nA_syllables : Nat) (nA_days : Nat) (nA_words : Nat) (nA_parents : Nat) (nA_otherParents : Nat) (nA_kinds : Nat) (nA_hopeDays : Nat) (nA_hopeTenths : Nat) (n_numbers : Nat → Int32) (n_syllables : Nat → Int64) (n_syllableCount : Int32) (n_days : Nat → Int32) (n_words : Nat → Int64) (n_parents : Nat → Int32) (n_otherParents : Nat → Int32) (n_kinds : Nat → Int32) (n_personCount : Int32) (n_hopeDays : Nat → Int32) (n_hopeTenths : Nat → Int32) (n_hopeCount : Int32) (n_degreesTold : Int32) (m0_x : Nat) (mA_codes : Nat) (mA_partCodes : Nat) (mA_partShifts : Nat) (mA_partSums : Nat) (m_codes : Nat → Int64) (m_size : Int32) (m_partCodes : Nat → Int64) (m_partShifts : Nat → Int64) (m_partSums : Nat → Int32) (m_partCount : Int32) (m_wantedDay : Int32) (m_divisorsWanted : Int32) (p1 : Int32) (p2 : Int32) (o : Int32) (o_m_codes : Nat → Int64) (o_m_size : Int32) (o_m_partCodes : Nat → Int64) (o_m_partShifts : Nat → Int64) (o_m_partSums : Nat → Int32) (o_m_partCount : Int32) (o_m_wantedDay : Int32) (o_m_divisorsWanted : Int32) (hf : f_X6_names N n_numbers n_syllables n_syllableCount m_codes m_size m_partCodes m_partShifts m_partSums m_partCount m_wantedDay m_divisorsWanted p1 p2 = some (o, o_m_codes, o_m_size, o_m_partCodes, o_m_partShifts, o_m_partSums, o_m_partCount, o_m_wantedDay, o_m_divisorsWanted)) : zMWi l D c yX6_names cX6_names 5 (some .int) rm_X6_names (wX6 c t0 n0 tA_images r0 m0 h0 o0 sA tA_rooms t_rooms ++ wX5 c n0 nA_numbers nA_syllables nA_days nA_words nA_parents nA_otherParents nA_kinds nA_hopeDays nA_hopeTenths n_numbers n_syllables n_syllableCount n_days n_words n_parents n_otherParents n_kinds n_personCount n_hopeDays n_hopeTenths n_hopeCount n_degreesTold ++ wX0 c m0 mA_codes mA_partCodes mA_partShifts mA_partSums m_codes m_size m_partCodes m_partShifts m_partSums m_partCount m_wantedDay m_divisorsWanted) (wX6 c t0 n0 tA_images r0 m0 h0 o0 sA tA_rooms t_rooms ++ wX5 c n0 nA_numbers nA_syllables nA_days nA_words nA_parents nA_otherParents nA_kinds nA_hopeDays nA_hopeTenths n_numbers n_syllables n_syllableCount n_days n_words n_parents n_otherParents n_kinds n_personCount n_hopeDays n_hopeTenths n_hopeCount n_degreesTold ++ wX0 c m0 mA_codes mA_partCodes mA_partShifts mA_partSums o_m_codes o_m_size o_m_partCodes o_m_partShifts o_m_partSums o_m_partCount o_m_wantedDay o_m_divisorsWanted) [.ref t0, .int p1, .int p2] o := by
  intro sz
  refine zIW (by decide) (Nat.le_of_ble_eq_true rfl) ?_
  intro p e s m args below meth c0 Q A hAe hQ hx hb hr hlk hml hts hown hP hE hD hS hA hsz hmn hX ls hl
  rw [← hAe] at hQ
  have S : CallFix p m c0 cX6_names 5 s args zT RX6 := ⟨hx, hb, hml, hown, hts⟩
  have hl : lv_has ls 5 [(0, .ref t0), (1, .int p1), (2, .int p2)] := hl
  unfold f_X6_names at hf
  refine lv_iload_n hx hb dX6_names_0 rfl (lv_at hl 1 rfl) ?_
  obtain ⟨r_1, he_1, hf⟩ := zz_b1_use hf
  refine zcSi (As := [.int p1]) (rest := []) S (k_X6_isDay l D c N  p1 r_1 he_1) mi_X6_isDay tw_3_99 ⟨(Nat.le_of_ble_eq_true rfl), (Nat.le_of_ble_eq_true rfl)⟩ ⟨rfl, rfl⟩ (zpnil) hE hX hS rfl hl.1 rfl (Nat.le_of_ble_eq_true rfl) dX6_names_1 ⟨(Nat.le_of_ble_eq_true rfl), (Nat.le_of_ble_eq_true rfl)⟩ ?_
  refine lv_if_eq (tgt := 17) hx hb dX6_names_4 (by decide) (fun hc_2 => ?_) (fun hc_2 => ?_)
  · have hf := zz_it hf hc_2
    refine lv_bipush (v := (-3 : Int32)) hx hb dX6_names_17 (by decide) ?_
    cases hf
    exact zRWi hQ hx hb hr hlk rfl hP hD hS dX6_names_19
  · have hf := zz_if hf hc_2
    refine lv_iload_n hx hb dX6_names_7 rfl (lv_at hl 2 rfl) ?_
    refine lv_if_lt (tgt := 17) hx hb dX6_names_8 (by decide) (fun hc_3 => ?_) (fun hc_3 => ?_)
    · have hf := zz_it hf hc_3
      refine lv_bipush (v := (-3 : Int32)) hx hb dX6_names_17 (by decide) ?_
      cases hf
      exact zRWi hQ hx hb hr hlk rfl hP hD hS dX6_names_19
    · have hf := zz_if hf hc_3
      refine lv_iload_n hx hb dX6_names_11 rfl (lv_at hl 2 rfl) ?_
      refine lv_bipush (v := (9 : Int32)) hx hb dX6_names_12 (by decide) ?_
      refine lv_icmp_le (tgt := 20) hx hb dX6_names_14 (by decide) (fun hc_4 => ?_) (fun hc_4 => ?_)
      · have hf := zz_it hf hc_4
        refine lv_aload_n hx hb dX6_names_20 rfl (lv_at hl 0 rfl) ?_
        refine zget S uw_X6 hE hP 0 3 rfl rfl (by decide) tw_2_12 rfl rfl dX6_names_21 ?_
        refine lv_aload_n hx hb dX6_names_24 rfl (lv_at hl 0 rfl) ?_
        refine zget S uw_X6 hE hP 0 0 rfl rfl (by decide) tw_2_9 rfl rfl dX6_names_25 ?_
        refine lv_iload_n hx hb dX6_names_28 rfl (lv_at hl 1 rfl) ?_
        refine lv_iconst (v := (0 : Int32)) hx hb dX6_names_29 (by decide) ?_
        obtain ⟨m_codes_5, m_size_6, m_partCodes_7, m_partShifts_8, m_partSums_9, m_partCount_10, m_wantedDay_11, m_divisorsWanted_12, he_12, hf⟩ := zz_b8_use hf
        refine zwVv (As := [.ref n0, .int p1, .int (0 : Int32)]) (rest := []) (wr := (wX6 c t0 n0 tA_images r0 m0 h0 o0 sA tA_rooms t_rooms)) (wX6 c t0 n0 tA_images r0 m0 h0 o0 sA tA_rooms t_rooms ++ wX5 c n0 nA_numbers nA_syllables nA_days nA_words nA_parents nA_otherParents nA_kinds nA_hopeDays nA_hopeTenths n_numbers n_syllables n_syllableCount n_days n_words n_parents n_otherParents n_kinds n_personCount n_hopeDays n_hopeTenths n_hopeCount n_degreesTold ++ wX0 c m0 mA_codes mA_partCodes mA_partShifts mA_partSums m_codes_5 m_size_6 m_partCodes_7 m_partShifts_8 m_partSums_9 m_partCount_10 m_wantedDay_11 m_divisorsWanted_12) [12, 13, 14, 15, 16, 2, 3, 4, 5, 6, 7, 8, 9, 10, 11] [0, 1] [0, 1, 7, 8, 9, 10, 11, 12, 13, 14, 15, 16, 2, 3, 4, 5, 6] S (k_X0_gather l D c N m0 mA_codes mA_partCodes mA_partShifts mA_partSums m_codes m_size m_partCodes m_partShifts m_partSums m_partCount m_wantedDay m_divisorsWanted n0 nA_numbers nA_syllables nA_days nA_words nA_parents nA_otherParents nA_kinds nA_hopeDays nA_hopeTenths n_numbers n_syllables n_syllableCount n_days n_words n_parents n_otherParents n_kinds n_personCount n_hopeDays n_hopeTenths n_hopeCount n_degreesTold p1 (0 : Int32) m_codes_5 m_size_6 m_partCodes_7 m_partShifts_8 m_partSums_9 m_partCount_10 m_wantedDay_11 m_divisorsWanted_12 he_12) mi_X0_gather tw_3_102 ⟨(Nat.le_of_ble_eq_true rfl), (Nat.le_of_ble_eq_true rfl)⟩ ⟨rfl, rfl⟩ hP hD hS hA rfl rfl rfl rfl (by decide) rfl rfl hE hX (ci := 0) rfl rfl (q0 := 0) rfl rfl hl.1 rfl (Nat.le_of_ble_eq_true rfl) dX6_names_30 ⟨(Nat.le_of_ble_eq_true rfl), (Nat.le_of_ble_eq_true rfl)⟩ (fun H locs hP hD hS => ?_)
        refine lv_iload_n hx hb dX6_names_33 rfl (lv_at hl 2 rfl) ?_
        refine lv_if_ne (tgt := 45) hx hb dX6_names_34 (by decide) (fun hc_13 => ?_) (fun hc_13 => ?_)
        · have hf := zz_if hf hc_13
          refine lv_iconst (v := (0 : Int32)) hx hb dX6_names_45 (by decide) ?_
          refine lv_istore_n (lv' := [(3, .int (0 : Int32)), (0, .ref t0), (1, .int p1), (2, .int p2)]) hx hb dX6_names_46 rfl hl (by decide) rfl (fun ls hl => ?_)
          refine lv_iconst (v := (0 : Int32)) hx hb dX6_names_47 (by decide) ?_
          refine lv_istore (lv' := [(4, .int (0 : Int32)), (3, .int (0 : Int32)), (0, .ref t0), (1, .int p1), (2, .int p2)]) hx hb dX6_names_48 hl (by decide) rfl (fun ls hl => ?_)
          obtain ⟨k_14, hk_14, hf⟩ := zz_let_use hf
          have hX_14 : ∀ (v3_25 : Int32) (H : Heap) (locs : List Loc) (ls : Array Slot), k_14 v3_25 = some (o, o_m_codes, o_m_size, o_m_partCodes, o_m_partShifts, o_m_partSums, o_m_partCount, o_m_wantedDay, o_m_divisorsWanted) → va_P D vwCl (wX6 c t0 n0 tA_images r0 m0 h0 o0 sA tA_rooms t_rooms ++ wX5 c n0 nA_numbers nA_syllables nA_days nA_words nA_parents nA_otherParents nA_kinds nA_hopeDays nA_hopeTenths n_numbers n_syllables n_syllableCount n_days n_words n_parents n_otherParents n_kinds n_personCount n_hopeDays n_hopeTenths n_hopeCount n_degreesTold ++ wX0 c m0 mA_codes mA_partCodes mA_partShifts mA_partSums m_codes_5 m_size_6 m_partCodes_7 m_partShifts_8 m_partSums_9 m_partCount_10 m_wantedDay_11 m_divisorsWanted_12) H → va_D A (wX6 c t0 n0 tA_images r0 m0 h0 o0 sA tA_rooms t_rooms ++ wX5 c n0 nA_numbers nA_syllables nA_days nA_words nA_parents nA_otherParents nA_kinds nA_hopeDays nA_hopeTenths n_numbers n_syllables n_syllableCount n_days n_words n_parents n_otherParents n_kinds n_personCount n_hopeDays n_hopeTenths n_hopeCount n_degreesTold ++ wX0 c m0 mA_codes mA_partCodes mA_partShifts mA_partSums m_codes_5 m_size_6 m_partCodes_7 m_partShifts_8 m_partSums_9 m_partCount_10 m_wantedDay_11 m_divisorsWanted_12) → va_S A s.heap H locs → lv_has ls 5 [(3, .int v3_25)] → W p l e rm_X6_names s m args below meth c0 H locs 0 0 Q (F0 m 88 ls []) := by
            intro v3_25 H locs ls hf hP hD hS hl
            subst hk_14
            refine lv_iload_n hx hb dX6_names_88 rfl (lv_at hl 0 rfl) ?_
            cases hf
            exact zRWi hQ hx hb hr hlk rfl hP hD hS dX6_names_89
          have hL_14 : ∀ (n_14 : Nat) (v3_15 : Int32) (v4_16 : Int32) (H : Heap) (locs : List Loc) (ls : Array Slot), f_X6_names_L50 N k_14 p2 m_codes_5 m_size_6 n_14 v3_15 v4_16 = some (o, o_m_codes, o_m_size, o_m_partCodes, o_m_partShifts, o_m_partSums, o_m_partCount, o_m_wantedDay, o_m_divisorsWanted) → va_P D vwCl (wX6 c t0 n0 tA_images r0 m0 h0 o0 sA tA_rooms t_rooms ++ wX5 c n0 nA_numbers nA_syllables nA_days nA_words nA_parents nA_otherParents nA_kinds nA_hopeDays nA_hopeTenths n_numbers n_syllables n_syllableCount n_days n_words n_parents n_otherParents n_kinds n_personCount n_hopeDays n_hopeTenths n_hopeCount n_degreesTold ++ wX0 c m0 mA_codes mA_partCodes mA_partShifts mA_partSums m_codes_5 m_size_6 m_partCodes_7 m_partShifts_8 m_partSums_9 m_partCount_10 m_wantedDay_11 m_divisorsWanted_12) H → va_D A (wX6 c t0 n0 tA_images r0 m0 h0 o0 sA tA_rooms t_rooms ++ wX5 c n0 nA_numbers nA_syllables nA_days nA_words nA_parents nA_otherParents nA_kinds nA_hopeDays nA_hopeTenths n_numbers n_syllables n_syllableCount n_days n_words n_parents n_otherParents n_kinds n_personCount n_hopeDays n_hopeTenths n_hopeCount n_degreesTold ++ wX0 c m0 mA_codes mA_partCodes mA_partShifts mA_partSums m_codes_5 m_size_6 m_partCodes_7 m_partShifts_8 m_partSums_9 m_partCount_10 m_wantedDay_11 m_divisorsWanted_12) → va_S A s.heap H locs → lv_has ls 5 [(0, .ref t0), (2, .int p2), (3, .int v3_15), (4, .int v4_16)] → W p l e rm_X6_names s m args below meth c0 H locs 0 0 Q (F0 m 50 ls []) := by
            intro n_14
            induction n_14 with
            | zero => intro v3_15 v4_16 H locs ls hf hP hD hS hl; exact zz_none hf
            | succ n_14 ih_14 =>
              intro v3_15 v4_16 H locs ls hf hP hD hS hl
              rw [f_X6_names_L50_s] at hf
              refine lv_iload hx hb dX6_names_50 (lv_at hl 3 rfl) ?_
              refine lv_aload_n hx hb dX6_names_52 rfl (lv_at hl 0 rfl) ?_
              refine zget S uw_X6 hE hP 0 3 rfl rfl (by decide) tw_2_12 rfl rfl dX6_names_53 ?_
              refine zget S uw_X0 hE hP 12 1 rfl rfl (by decide) tw_1_151 rfl rfl dX6_names_56 ?_
              refine lv_icmp_ge (tgt := 88) hx hb dX6_names_59 (by decide) (fun hc_17 => ?_) (fun hc_17 => ?_)
              · have hf := zz_it hf hc_17
                exact hX_14 v3_15 H locs ls hf hP hD hS (lv_sub hl [2] rfl)
              · have hf := zz_if hf hc_17
                refine lv_aload_n hx hb dX6_names_62 rfl (lv_at hl 0 rfl) ?_
                refine zget S uw_X6 hE hP 0 3 rfl rfl (by decide) tw_2_12 rfl rfl dX6_names_63 ?_
                refine zget S uw_X0 hE hP 12 0 rfl rfl (by decide) tw_1_149 rfl rfl dX6_names_66 ?_
                refine lv_iload hx hb dX6_names_69 (lv_at hl 3 rfl) ?_
                obtain ⟨hin_18, hf⟩ := zz_gd_use hf
                refine zlld hx hb hE hP 13 rfl (zz_in_ok hin_18) dX6_names_71 ?_
                obtain ⟨r_19, he_19, hf⟩ := zz_b1_use hf
                refine zcSi (As := [.long (m_codes_5 v4_16.toNatClampNeg)]) (rest := []) S (k_X6_lettersOf l D c N  (m_codes_5 v4_16.toNatClampNeg) r_19 he_19) mi_X6_lettersOf tw_3_44 ⟨(Nat.le_of_ble_eq_true rfl), (Nat.le_of_ble_eq_true rfl)⟩ ⟨rfl, rfl⟩ (zpnil) hE hX hS rfl hl.1 rfl (Nat.le_of_ble_eq_true rfl) dX6_names_72 ⟨(Nat.le_of_ble_eq_true rfl), (Nat.le_of_ble_eq_true rfl)⟩ ?_
                refine lv_iload_n hx hb dX6_names_75 rfl (lv_at hl 1 rfl) ?_
                obtain ⟨k_22, hk_22, hf⟩ := zz_let_use hf
                have hJ_22 : ∀ (v3_23 : Int32) (H : Heap) (locs : List Loc) (ls : Array Slot), k_22 v3_23 = some (o, o_m_codes, o_m_size, o_m_partCodes, o_m_partShifts, o_m_partSums, o_m_partCount, o_m_wantedDay, o_m_divisorsWanted) → va_P D vwCl (wX6 c t0 n0 tA_images r0 m0 h0 o0 sA tA_rooms t_rooms ++ wX5 c n0 nA_numbers nA_syllables nA_days nA_words nA_parents nA_otherParents nA_kinds nA_hopeDays nA_hopeTenths n_numbers n_syllables n_syllableCount n_days n_words n_parents n_otherParents n_kinds n_personCount n_hopeDays n_hopeTenths n_hopeCount n_degreesTold ++ wX0 c m0 mA_codes mA_partCodes mA_partShifts mA_partSums m_codes_5 m_size_6 m_partCodes_7 m_partShifts_8 m_partSums_9 m_partCount_10 m_wantedDay_11 m_divisorsWanted_12) H → va_D A (wX6 c t0 n0 tA_images r0 m0 h0 o0 sA tA_rooms t_rooms ++ wX5 c n0 nA_numbers nA_syllables nA_days nA_words nA_parents nA_otherParents nA_kinds nA_hopeDays nA_hopeTenths n_numbers n_syllables n_syllableCount n_days n_words n_parents n_otherParents n_kinds n_personCount n_hopeDays n_hopeTenths n_hopeCount n_degreesTold ++ wX0 c m0 mA_codes mA_partCodes mA_partShifts mA_partSums m_codes_5 m_size_6 m_partCodes_7 m_partShifts_8 m_partSums_9 m_partCount_10 m_wantedDay_11 m_divisorsWanted_12) → va_S A s.heap H locs → lv_has ls 5 [(0, .ref t0), (2, .int p2), (3, .int v3_23), (4, .int v4_16)] → W p l e rm_X6_names s m args below meth c0 H locs 0 0 Q (F0 m 82 ls []) := by
                  intro v3_23 H locs ls hf hP hD hS hl
                  subst hk_22
                  obtain ⟨v4_24, ev4_24, hf⟩ := zz_let_use hf
                  refine lv_iinc (v := v4_24) (lv' := [(4, .int v4_24), (0, .ref t0), (2, .int p2), (3, .int v3_23)]) hx hb dX6_names_82 hl (k := 3) rfl (by rw [← ev4_24]; rfl) (by decide) rfl (fun ls hl => ?_)
                  refine lv_goto (tgt := 50) hx hb dX6_names_85 (by decide) ?_
                  exact ih_14 v3_23 v4_24 H locs ls hf hP hD hS (lv_sub hl [1, 2, 3, 0] rfl)
                refine lv_icmp_ne (tgt := 82) hx hb dX6_names_76 (by decide) (fun hc_20 => ?_) (fun hc_20 => ?_)
                · have hf := zz_if hf hc_20
                  exact hJ_22 v3_15 H locs ls hf hP hD hS (lv_sub hl [0, 1, 2, 3] rfl)
                · have hf := zz_it hf hc_20
                  obtain ⟨v3_21, ev3_21, hf⟩ := zz_let_use hf
                  refine lv_iinc (v := v3_21) (lv' := [(3, .int v3_21), (0, .ref t0), (2, .int p2), (4, .int v4_16)]) hx hb dX6_names_79 hl (k := 2) rfl (by rw [← ev3_21]; rfl) (by decide) rfl (fun ls hl => ?_)
                  exact hJ_22 v3_21 H locs ls hf hP hD hS (lv_sub hl [1, 2, 0, 3] rfl)
          exact hL_14 N (0 : Int32) (0 : Int32) H locs ls hf hP hD hS (lv_sub hl [2, 4, 1, 0] rfl)
        · have hf := zz_it hf hc_13
          refine lv_aload_n hx hb dX6_names_37 rfl (lv_at hl 0 rfl) ?_
          refine zget S uw_X6 hE hP 0 3 rfl rfl (by decide) tw_2_12 rfl rfl dX6_names_38 ?_
          refine zget S uw_X0 hE hP 12 1 rfl rfl (by decide) tw_1_151 rfl rfl dX6_names_41 ?_
          cases hf
          exact zRWi hQ hx hb hr hlk rfl hP hD hS dX6_names_44
      · have hf := zz_if hf hc_4
        refine lv_bipush (v := (-3 : Int32)) hx hb dX6_names_17 (by decide) ?_
        cases hf
        exact zRWi hQ hx hb hr hlk rfl hP hD hS dX6_names_19
def f_X6_which (N : Nat) (n_numbers : Nat → Int32) (n_syllables : Nat → Int64) (n_syllableCount : Int32) (m_codes : Nat → Int64) (m_size : Int32) (m_partCodes : Nat → Int64) (m_partShifts : Nat → Int64) (m_partSums : Nat → Int32) (m_partCount : Int32) (m_wantedDay : Int32) (m_divisorsWanted : Int32) (p1 : Int32) (p2 : Int32) : Option (Int64 × (Nat → Int64) × (Int32) × (Nat → Int64) × (Nat → Int64) × (Nat → Int32) × (Int32) × (Int32) × (Int32)) := zz_b1 (f_X6_isDay N p1) (fun r_1 => (if r_1 = 0 then (some ((-3 : Int64), m_codes, m_size, m_partCodes, m_partShifts, m_partSums, m_partCount, m_wantedDay, m_divisorsWanted)) else (if 0 ≤ p2 then zz_b8 (f_X0_gather N m_codes m_partCodes m_partShifts m_partSums n_numbers n_syllables n_syllableCount p1 (0 : Int32)) (fun m_codes_4 m_size_5 m_partCodes_6 m_partShifts_7 m_partSums_8 m_partCount_9 m_wantedDay_10 m_divisorsWanted_11 => (if m_size_5 ≤ p2 then (some ((-1 : Int64), m_codes_4, m_size_5, m_partCodes_6, m_partShifts_7, m_partSums_8, m_partCount_9, m_wantedDay_10, m_divisorsWanted_11)) else zz_gd (zz_in p2 1110) ((some (m_codes_4 p2.toNatClampNeg, m_codes_4, m_size_5, m_partCodes_6, m_partShifts_7, m_partSums_8, m_partCount_9, m_wantedDay_10, m_divisorsWanted_11))))) else (some ((-3 : Int64), m_codes, m_size, m_partCodes, m_partShifts, m_partSums, m_partCount, m_wantedDay, m_divisorsWanted)))))
abbrev rm_X6_which : Room := { frames := 7, cells := 0, slots := 0, locals := 187 }
theorem mi_X6_which : zMI RX6 yX6_which cX6_which 3 (some .long) 2 := ⟨⟨tw_3_134, tw_3_135, tw_1_1, tw_3_136⟩, by decide +kernel, by decide +kernel, by decide +kernel⟩
set_option maxHeartbeats 4000000 in
set_option maxRecDepth 100000 in
theorem k_X6_which (l : Launch) (D : va_G) (c : Nat → ClassId) (N : Nat) (t0 : Nat) (n0 : Nat) (tA_images : Nat) (r0 : Nat) (m0 : Nat) (h0 : Nat) (o0 : Nat) (sA : Nat) (tA_rooms : Nat) (t_rooms : Nat → Int32) (n0_x : Nat) (nA_numbers : Nat) (nA_syllables : Nat) (nA_days : Nat) (nA_words : Nat) (nA_parents : Nat) (nA_otherParents : Nat) (nA_kinds : Nat) (nA_hopeDays : Nat) (nA_hopeTenths : Nat) (n_numbers : Nat → Int32) (n_syllables : Nat → Int64) (n_syllableCount : Int32) (n_days : Nat → Int32) (n_words : Nat → Int64) (n_parents : Nat → Int32) (n_otherParents : Nat → Int32) (n_kinds : Nat → Int32) (n_personCount : Int32) (n_hopeDays : Nat → Int32) (n_hopeTenths : Nat → Int32) (n_hopeCount : Int32) (n_degreesTold : Int32) (m0_x : Nat) (mA_codes : Nat) (mA_partCodes : Nat) (mA_partShifts : Nat) (mA_partSums : Nat) (m_codes : Nat → Int64) (m_size : Int32) (m_partCodes : Nat → Int64) (m_partShifts : Nat → Int64) (m_partSums : Nat → Int32) (m_partCount : Int32) (m_wantedDay : Int32) (m_divisorsWanted : Int32) (p1 : Int32) (p2 : Int32) (o : Int64) (o_m_codes : Nat → Int64) (o_m_size : Int32) (o_m_partCodes : Nat → Int64) (o_m_partShifts : Nat → Int64) (o_m_partSums : Nat → Int32) (o_m_partCount : Int32) (o_m_wantedDay : Int32) (o_m_divisorsWanted : Int32) (hf : f_X6_which N n_numbers n_syllables n_syllableCount m_codes m_size m_partCodes m_partShifts m_partSums m_partCount m_wantedDay m_divisorsWanted p1 p2 = some (o, o_m_codes, o_m_size, o_m_partCodes, o_m_partShifts, o_m_partSums, o_m_partCount, o_m_wantedDay, o_m_divisorsWanted)) : zMWl l D c yX6_which cX6_which 3 (some .long) rm_X6_which (wX6 c t0 n0 tA_images r0 m0 h0 o0 sA tA_rooms t_rooms ++ wX5 c n0 nA_numbers nA_syllables nA_days nA_words nA_parents nA_otherParents nA_kinds nA_hopeDays nA_hopeTenths n_numbers n_syllables n_syllableCount n_days n_words n_parents n_otherParents n_kinds n_personCount n_hopeDays n_hopeTenths n_hopeCount n_degreesTold ++ wX0 c m0 mA_codes mA_partCodes mA_partShifts mA_partSums m_codes m_size m_partCodes m_partShifts m_partSums m_partCount m_wantedDay m_divisorsWanted) (wX6 c t0 n0 tA_images r0 m0 h0 o0 sA tA_rooms t_rooms ++ wX5 c n0 nA_numbers nA_syllables nA_days nA_words nA_parents nA_otherParents nA_kinds nA_hopeDays nA_hopeTenths n_numbers n_syllables n_syllableCount n_days n_words n_parents n_otherParents n_kinds n_personCount n_hopeDays n_hopeTenths n_hopeCount n_degreesTold ++ wX0 c m0 mA_codes mA_partCodes mA_partShifts mA_partSums o_m_codes o_m_size o_m_partCodes o_m_partShifts o_m_partSums o_m_partCount o_m_wantedDay o_m_divisorsWanted) [.ref t0, .int p1, .int p2] o := by
  intro sz
  refine zIW (by decide) (Nat.le_of_ble_eq_true rfl) ?_
  intro p e s m args below meth c0 Q A hAe hQ hx hb hr hlk hml hts hown hP hE hD hS hA hsz hmn hX ls hl
  rw [← hAe] at hQ
  have S : CallFix p m c0 cX6_which 3 s args zT RX6 := ⟨hx, hb, hml, hown, hts⟩
  have hl : lv_has ls 3 [(0, .ref t0), (1, .int p1), (2, .int p2)] := hl
  unfold f_X6_which at hf
  refine lv_iload_n hx hb dX6_which_0 rfl (lv_at hl 1 rfl) ?_
  obtain ⟨r_1, he_1, hf⟩ := zz_b1_use hf
  refine zcSi (As := [.int p1]) (rest := []) S (k_X6_isDay l D c N  p1 r_1 he_1) mi_X6_isDay tw_3_99 ⟨(Nat.le_of_ble_eq_true rfl), (Nat.le_of_ble_eq_true rfl)⟩ ⟨rfl, rfl⟩ (zpnil) hE hX hS rfl hl.1 rfl (Nat.le_of_ble_eq_true rfl) dX6_which_1 ⟨(Nat.le_of_ble_eq_true rfl), (Nat.le_of_ble_eq_true rfl)⟩ ?_
  refine lv_if_eq (tgt := 11) hx hb dX6_which_4 (by decide) (fun hc_2 => ?_) (fun hc_2 => ?_)
  · have hf := zz_it hf hc_2
    refine lv_ldc2 (v := (-3 : Int64)) hx hb hown (hts _ tw_3_137) dX6_which_11 ?_
    cases hf
    exact zRWl hQ hx hb hr hlk rfl hP hD hS dX6_which_14
  · have hf := zz_if hf hc_2
    refine lv_iload_n hx hb dX6_which_7 rfl (lv_at hl 2 rfl) ?_
    refine lv_if_ge (tgt := 15) hx hb dX6_which_8 (by decide) (fun hc_3 => ?_) (fun hc_3 => ?_)
    · have hf := zz_it hf hc_3
      refine lv_aload_n hx hb dX6_which_15 rfl (lv_at hl 0 rfl) ?_
      refine zget S uw_X6 hE hP 0 3 rfl rfl (by decide) tw_2_12 rfl rfl dX6_which_16 ?_
      refine lv_aload_n hx hb dX6_which_19 rfl (lv_at hl 0 rfl) ?_
      refine zget S uw_X6 hE hP 0 0 rfl rfl (by decide) tw_2_9 rfl rfl dX6_which_20 ?_
      refine lv_iload_n hx hb dX6_which_23 rfl (lv_at hl 1 rfl) ?_
      refine lv_iconst (v := (0 : Int32)) hx hb dX6_which_24 (by decide) ?_
      obtain ⟨m_codes_4, m_size_5, m_partCodes_6, m_partShifts_7, m_partSums_8, m_partCount_9, m_wantedDay_10, m_divisorsWanted_11, he_11, hf⟩ := zz_b8_use hf
      refine zwVv (As := [.ref n0, .int p1, .int (0 : Int32)]) (rest := []) (wr := (wX6 c t0 n0 tA_images r0 m0 h0 o0 sA tA_rooms t_rooms)) (wX6 c t0 n0 tA_images r0 m0 h0 o0 sA tA_rooms t_rooms ++ wX5 c n0 nA_numbers nA_syllables nA_days nA_words nA_parents nA_otherParents nA_kinds nA_hopeDays nA_hopeTenths n_numbers n_syllables n_syllableCount n_days n_words n_parents n_otherParents n_kinds n_personCount n_hopeDays n_hopeTenths n_hopeCount n_degreesTold ++ wX0 c m0 mA_codes mA_partCodes mA_partShifts mA_partSums m_codes_4 m_size_5 m_partCodes_6 m_partShifts_7 m_partSums_8 m_partCount_9 m_wantedDay_10 m_divisorsWanted_11) [12, 13, 14, 15, 16, 2, 3, 4, 5, 6, 7, 8, 9, 10, 11] [0, 1] [0, 1, 7, 8, 9, 10, 11, 12, 13, 14, 15, 16, 2, 3, 4, 5, 6] S (k_X0_gather l D c N m0 mA_codes mA_partCodes mA_partShifts mA_partSums m_codes m_size m_partCodes m_partShifts m_partSums m_partCount m_wantedDay m_divisorsWanted n0 nA_numbers nA_syllables nA_days nA_words nA_parents nA_otherParents nA_kinds nA_hopeDays nA_hopeTenths n_numbers n_syllables n_syllableCount n_days n_words n_parents n_otherParents n_kinds n_personCount n_hopeDays n_hopeTenths n_hopeCount n_degreesTold p1 (0 : Int32) m_codes_4 m_size_5 m_partCodes_6 m_partShifts_7 m_partSums_8 m_partCount_9 m_wantedDay_10 m_divisorsWanted_11 he_11) mi_X0_gather tw_3_102 ⟨(Nat.le_of_ble_eq_true rfl), (Nat.le_of_ble_eq_true rfl)⟩ ⟨rfl, rfl⟩ hP hD hS hA rfl rfl rfl rfl (by decide) rfl rfl hE hX (ci := 0) rfl rfl (q0 := 0) rfl rfl hl.1 rfl (Nat.le_of_ble_eq_true rfl) dX6_which_25 ⟨(Nat.le_of_ble_eq_true rfl), (Nat.le_of_ble_eq_true rfl)⟩ (fun H locs hP hD hS => ?_)
      refine lv_iload_n hx hb dX6_which_28 rfl (lv_at hl 2 rfl) ?_
      refine lv_aload_n hx hb dX6_which_29 rfl (lv_at hl 0 rfl) ?_
      refine zget S uw_X6 hE hP 0 3 rfl rfl (by decide) tw_2_12 rfl rfl dX6_which_30 ?_
      refine zget S uw_X0 hE hP 12 1 rfl rfl (by decide) tw_1_151 rfl rfl dX6_which_33 ?_
      refine lv_icmp_ge (tgt := 51) hx hb dX6_which_36 (by decide) (fun hc_12 => ?_) (fun hc_12 => ?_)
      · have hf := zz_it hf hc_12
        refine lv_ldc2 (v := (-1 : Int64)) hx hb hown (hts _ tw_3_138) dX6_which_51 ?_
        cases hf
        exact zRWl hQ hx hb hr hlk rfl hP hD hS dX6_which_54
      · have hf := zz_if hf hc_12
        refine lv_aload_n hx hb dX6_which_39 rfl (lv_at hl 0 rfl) ?_
        refine zget S uw_X6 hE hP 0 3 rfl rfl (by decide) tw_2_12 rfl rfl dX6_which_40 ?_
        refine zget S uw_X0 hE hP 12 0 rfl rfl (by decide) tw_1_149 rfl rfl dX6_which_43 ?_
        refine lv_iload_n hx hb dX6_which_46 rfl (lv_at hl 2 rfl) ?_
        obtain ⟨hin_13, hf⟩ := zz_gd_use hf
        refine zlld hx hb hE hP 13 rfl (zz_in_ok hin_13) dX6_which_47 ?_
        refine lv_goto (tgt := 54) hx hb dX6_which_48 (by decide) ?_
        cases hf
        exact zRWl hQ hx hb hr hlk rfl hP hD hS dX6_which_54
    · have hf := zz_if hf hc_3
      refine lv_ldc2 (v := (-3 : Int64)) hx hb hown (hts _ tw_3_137) dX6_which_11 ?_
      cases hf
      exact zRWl hQ hx hb hr hlk rfl hP hD hS dX6_which_14
def f_X6_free (N : Nat) (n_numbers : Nat → Int32) (n_syllables : Nat → Int64) (n_syllableCount : Int32) (n_days : Nat → Int32) (n_words : Nat → Int64) (n_parents : Nat → Int32) (n_otherParents : Nat → Int32) (n_kinds : Nat → Int32) (n_personCount : Int32) (n_degreesTold : Int32) (m_codes : Nat → Int64) (m_size : Int32) (m_partCodes : Nat → Int64) (m_partShifts : Nat → Int64) (m_partSums : Nat → Int32) (m_partCount : Int32) (m_wantedDay : Int32) (m_divisorsWanted : Int32) (p1 : Int32) (p2 : Int32) : Option (Int64 × (Nat → Int64) × (Int32) × (Nat → Int64) × (Nat → Int64) × (Nat → Int32) × (Int32) × (Int32) × (Int32)) := zz_b1 (f_X5_isPerson N n_personCount p1) (fun r_1 => (if r_1 = 0 then (some ((-2 : Int64), m_codes, m_size, m_partCodes, m_partShifts, m_partSums, m_partCount, m_wantedDay, m_divisorsWanted)) else (if (-1 : Int32) ≤ p2 then zz_gd (zz_in p1 16) (zz_b8 (f_X0_gather N m_codes m_partCodes m_partShifts m_partSums n_numbers n_syllables n_syllableCount (n_days p1.toNatClampNeg) (0 : Int32)) (fun m_codes_5 m_size_6 m_partCodes_7 m_partShifts_8 m_partSums_9 m_partCount_10 m_wantedDay_11 m_divisorsWanted_12 => zz_b1 (f_X5_nearOf N n_parents n_otherParents n_kinds n_personCount n_degreesTold p1) (fun r_13 => zz_b2 (f_X0_dropCalled N m_codes_5 m_size_6 n_words n_personCount r_13) (fun m_codes_14 m_size_15 => (if p2 = (-1 : Int32) then (some (m_size_15.toInt64, m_codes_14, m_size_15, m_partCodes_7, m_partShifts_8, m_partSums_9, m_partCount_10, m_wantedDay_11, m_divisorsWanted_12)) else (if m_size_15 ≤ p2 then (some ((-1 : Int64), m_codes_14, m_size_15, m_partCodes_7, m_partShifts_8, m_partSums_9, m_partCount_10, m_wantedDay_11, m_divisorsWanted_12)) else zz_gd (zz_in p2 1110) ((some (m_codes_14 p2.toNatClampNeg, m_codes_14, m_size_15, m_partCodes_7, m_partShifts_8, m_partSums_9, m_partCount_10, m_wantedDay_11, m_divisorsWanted_12))))))))) else (some ((-3 : Int64), m_codes, m_size, m_partCodes, m_partShifts, m_partSums, m_partCount, m_wantedDay, m_divisorsWanted)))))
abbrev rm_X6_free : Room := { frames := 7, cells := 0, slots := 0, locals := 187 }
theorem mi_X6_free : zMI RX6 yX6_free cX6_free 3 (some .long) 2 := ⟨⟨tw_3_140, tw_3_141, tw_1_1, tw_3_142⟩, by decide +kernel, by decide +kernel, by decide +kernel⟩
set_option maxHeartbeats 4000000 in
set_option maxRecDepth 100000 in
theorem k_X6_free (l : Launch) (D : va_G) (c : Nat → ClassId) (N : Nat) (t0 : Nat) (n0 : Nat) (tA_images : Nat) (r0 : Nat) (m0 : Nat) (h0 : Nat) (o0 : Nat) (sA : Nat) (tA_rooms : Nat) (t_rooms : Nat → Int32) (n0_x : Nat) (nA_numbers : Nat) (nA_syllables : Nat) (nA_days : Nat) (nA_words : Nat) (nA_parents : Nat) (nA_otherParents : Nat) (nA_kinds : Nat) (nA_hopeDays : Nat) (nA_hopeTenths : Nat) (n_numbers : Nat → Int32) (n_syllables : Nat → Int64) (n_syllableCount : Int32) (n_days : Nat → Int32) (n_words : Nat → Int64) (n_parents : Nat → Int32) (n_otherParents : Nat → Int32) (n_kinds : Nat → Int32) (n_personCount : Int32) (n_hopeDays : Nat → Int32) (n_hopeTenths : Nat → Int32) (n_hopeCount : Int32) (n_degreesTold : Int32) (m0_x : Nat) (mA_codes : Nat) (mA_partCodes : Nat) (mA_partShifts : Nat) (mA_partSums : Nat) (m_codes : Nat → Int64) (m_size : Int32) (m_partCodes : Nat → Int64) (m_partShifts : Nat → Int64) (m_partSums : Nat → Int32) (m_partCount : Int32) (m_wantedDay : Int32) (m_divisorsWanted : Int32) (p1 : Int32) (p2 : Int32) (o : Int64) (o_m_codes : Nat → Int64) (o_m_size : Int32) (o_m_partCodes : Nat → Int64) (o_m_partShifts : Nat → Int64) (o_m_partSums : Nat → Int32) (o_m_partCount : Int32) (o_m_wantedDay : Int32) (o_m_divisorsWanted : Int32) (hf : f_X6_free N n_numbers n_syllables n_syllableCount n_days n_words n_parents n_otherParents n_kinds n_personCount n_degreesTold m_codes m_size m_partCodes m_partShifts m_partSums m_partCount m_wantedDay m_divisorsWanted p1 p2 = some (o, o_m_codes, o_m_size, o_m_partCodes, o_m_partShifts, o_m_partSums, o_m_partCount, o_m_wantedDay, o_m_divisorsWanted)) : zMWl l D c yX6_free cX6_free 3 (some .long) rm_X6_free (wX6 c t0 n0 tA_images r0 m0 h0 o0 sA tA_rooms t_rooms ++ wX5 c n0 nA_numbers nA_syllables nA_days nA_words nA_parents nA_otherParents nA_kinds nA_hopeDays nA_hopeTenths n_numbers n_syllables n_syllableCount n_days n_words n_parents n_otherParents n_kinds n_personCount n_hopeDays n_hopeTenths n_hopeCount n_degreesTold ++ wX0 c m0 mA_codes mA_partCodes mA_partShifts mA_partSums m_codes m_size m_partCodes m_partShifts m_partSums m_partCount m_wantedDay m_divisorsWanted) (wX6 c t0 n0 tA_images r0 m0 h0 o0 sA tA_rooms t_rooms ++ wX5 c n0 nA_numbers nA_syllables nA_days nA_words nA_parents nA_otherParents nA_kinds nA_hopeDays nA_hopeTenths n_numbers n_syllables n_syllableCount n_days n_words n_parents n_otherParents n_kinds n_personCount n_hopeDays n_hopeTenths n_hopeCount n_degreesTold ++ wX0 c m0 mA_codes mA_partCodes mA_partShifts mA_partSums o_m_codes o_m_size o_m_partCodes o_m_partShifts o_m_partSums o_m_partCount o_m_wantedDay o_m_divisorsWanted) [.ref t0, .int p1, .int p2] o := by
  intro sz
  refine zIW (by decide) (Nat.le_of_ble_eq_true rfl) ?_
  intro p e s m args below meth c0 Q A hAe hQ hx hb hr hlk hml hts hown hP hE hD hS hA hsz hmn hX ls hl
  rw [← hAe] at hQ
  have S : CallFix p m c0 cX6_free 3 s args zT RX6 := ⟨hx, hb, hml, hown, hts⟩
  have hl : lv_has ls 3 [(0, .ref t0), (1, .int p1), (2, .int p2)] := hl
  unfold f_X6_free at hf
  refine lv_aload_n hx hb dX6_free_0 rfl (lv_at hl 0 rfl) ?_
  refine zget S uw_X6 hE hP 0 0 rfl rfl (by decide) tw_2_9 rfl rfl dX6_free_1 ?_
  refine lv_iload_n hx hb dX6_free_4 rfl (lv_at hl 1 rfl) ?_
  obtain ⟨r_1, he_1, hf⟩ := zz_b1_use hf
  refine zcVi (As := [.int p1]) (rest := []) S (k_X5_isPerson l D c N n0 nA_numbers nA_syllables nA_days nA_words nA_parents nA_otherParents nA_kinds nA_hopeDays nA_hopeTenths n_numbers n_syllables n_syllableCount n_days n_words n_parents n_otherParents n_kinds n_personCount n_hopeDays n_hopeTenths n_hopeCount n_degreesTold p1 r_1 he_1) mi_X5_isPerson tw_2_238 ⟨(Nat.le_of_ble_eq_true rfl), (Nat.le_of_ble_eq_true rfl)⟩ ⟨rfl, rfl⟩ (zpsub (is := [2, 3, 4, 5, 6, 7, 8, 9, 10, 11]) hP rfl) hE hX hS (ci := 5) rfl rfl (q0 := 0) rfl rfl hl.1 rfl (Nat.le_of_ble_eq_true rfl) dX6_free_5 ⟨(Nat.le_of_ble_eq_true rfl), (Nat.le_of_ble_eq_true rfl)⟩ ?_
  refine lv_if_ne (tgt := 15) hx hb dX6_free_8 (by decide) (fun hc_2 => ?_) (fun hc_2 => ?_)
  · have hf := zz_if hf hc_2
    refine lv_iload_n hx hb dX6_free_15 rfl (lv_at hl 2 rfl) ?_
    refine lv_iconst (v := (-1 : Int32)) hx hb dX6_free_16 (by decide) ?_
    refine lv_icmp_ge (tgt := 24) hx hb dX6_free_17 (by decide) (fun hc_3 => ?_) (fun hc_3 => ?_)
    · have hf := zz_it hf hc_3
      refine lv_aload_n hx hb dX6_free_24 rfl (lv_at hl 0 rfl) ?_
      refine zget S uw_X6 hE hP 0 3 rfl rfl (by decide) tw_2_12 rfl rfl dX6_free_25 ?_
      refine lv_aload_n hx hb dX6_free_28 rfl (lv_at hl 0 rfl) ?_
      refine zget S uw_X6 hE hP 0 0 rfl rfl (by decide) tw_2_9 rfl rfl dX6_free_29 ?_
      refine lv_aload_n hx hb dX6_free_32 rfl (lv_at hl 0 rfl) ?_
      refine zget S uw_X6 hE hP 0 0 rfl rfl (by decide) tw_2_9 rfl rfl dX6_free_33 ?_
      refine zget S uw_X5 hE hP 2 3 rfl rfl (by decide) tw_1_42 rfl rfl dX6_free_36 ?_
      refine lv_iload_n hx hb dX6_free_39 rfl (lv_at hl 1 rfl) ?_
      obtain ⟨hin_4, hf⟩ := zz_gd_use hf
      refine zild hx hb hE hP 5 rfl (zz_in_ok hin_4) dX6_free_40 ?_
      refine lv_iconst (v := (0 : Int32)) hx hb dX6_free_41 (by decide) ?_
      obtain ⟨m_codes_5, m_size_6, m_partCodes_7, m_partShifts_8, m_partSums_9, m_partCount_10, m_wantedDay_11, m_divisorsWanted_12, he_12, hf⟩ := zz_b8_use hf
      refine zwVv (As := [.ref n0, .int (n_days p1.toNatClampNeg), .int (0 : Int32)]) (rest := []) (wr := (wX6 c t0 n0 tA_images r0 m0 h0 o0 sA tA_rooms t_rooms)) (wX6 c t0 n0 tA_images r0 m0 h0 o0 sA tA_rooms t_rooms ++ wX5 c n0 nA_numbers nA_syllables nA_days nA_words nA_parents nA_otherParents nA_kinds nA_hopeDays nA_hopeTenths n_numbers n_syllables n_syllableCount n_days n_words n_parents n_otherParents n_kinds n_personCount n_hopeDays n_hopeTenths n_hopeCount n_degreesTold ++ wX0 c m0 mA_codes mA_partCodes mA_partShifts mA_partSums m_codes_5 m_size_6 m_partCodes_7 m_partShifts_8 m_partSums_9 m_partCount_10 m_wantedDay_11 m_divisorsWanted_12) [12, 13, 14, 15, 16, 2, 3, 4, 5, 6, 7, 8, 9, 10, 11] [0, 1] [0, 1, 7, 8, 9, 10, 11, 12, 13, 14, 15, 16, 2, 3, 4, 5, 6] S (k_X0_gather l D c N m0 mA_codes mA_partCodes mA_partShifts mA_partSums m_codes m_size m_partCodes m_partShifts m_partSums m_partCount m_wantedDay m_divisorsWanted n0 nA_numbers nA_syllables nA_days nA_words nA_parents nA_otherParents nA_kinds nA_hopeDays nA_hopeTenths n_numbers n_syllables n_syllableCount n_days n_words n_parents n_otherParents n_kinds n_personCount n_hopeDays n_hopeTenths n_hopeCount n_degreesTold (n_days p1.toNatClampNeg) (0 : Int32) m_codes_5 m_size_6 m_partCodes_7 m_partShifts_8 m_partSums_9 m_partCount_10 m_wantedDay_11 m_divisorsWanted_12 he_12) mi_X0_gather tw_3_102 ⟨(Nat.le_of_ble_eq_true rfl), (Nat.le_of_ble_eq_true rfl)⟩ ⟨rfl, rfl⟩ hP hD hS hA rfl rfl rfl rfl (by decide) rfl rfl hE hX (ci := 0) rfl rfl (q0 := 0) rfl rfl hl.1 rfl (Nat.le_of_ble_eq_true rfl) dX6_free_42 ⟨(Nat.le_of_ble_eq_true rfl), (Nat.le_of_ble_eq_true rfl)⟩ (fun H locs hP hD hS => ?_)
      refine lv_aload_n hx hb dX6_free_45 rfl (lv_at hl 0 rfl) ?_
      refine zget S uw_X6 hE hP 0 3 rfl rfl (by decide) tw_2_12 rfl rfl dX6_free_46 ?_
      refine lv_aload_n hx hb dX6_free_49 rfl (lv_at hl 0 rfl) ?_
      refine zget S uw_X6 hE hP 0 0 rfl rfl (by decide) tw_2_9 rfl rfl dX6_free_50 ?_
      refine lv_aload_n hx hb dX6_free_53 rfl (lv_at hl 0 rfl) ?_
      refine zget S uw_X6 hE hP 0 0 rfl rfl (by decide) tw_2_9 rfl rfl dX6_free_54 ?_
      refine lv_iload_n hx hb dX6_free_57 rfl (lv_at hl 1 rfl) ?_
      obtain ⟨r_13, he_13, hf⟩ := zz_b1_use hf
      refine zcVi (As := [.int p1]) (rest := [.ref n0, .ref m0]) S (k_X5_nearOf l D c N n0 nA_numbers nA_syllables nA_days nA_words nA_parents nA_otherParents nA_kinds nA_hopeDays nA_hopeTenths n_numbers n_syllables n_syllableCount n_days n_words n_parents n_otherParents n_kinds n_personCount n_hopeDays n_hopeTenths n_hopeCount n_degreesTold p1 r_13 he_13) mi_X5_nearOf tw_3_2 ⟨(Nat.le_of_ble_eq_true rfl), (Nat.le_of_ble_eq_true rfl)⟩ ⟨rfl, rfl⟩ (zpsub (is := [2, 3, 4, 5, 6, 7, 8, 9, 10, 11]) hP rfl) hE hX hS (ci := 5) rfl rfl (q0 := 0) rfl rfl hl.1 rfl (Nat.le_of_ble_eq_true rfl) dX6_free_58 ⟨(Nat.le_of_ble_eq_true rfl), (Nat.le_of_ble_eq_true rfl)⟩ ?_
      obtain ⟨m_codes_14, m_size_15, he_15, hf⟩ := zz_b2_use hf
      refine zwVv (As := [.ref n0, .int r_13]) (rest := []) (wr := (wX6 c t0 n0 tA_images r0 m0 h0 o0 sA tA_rooms t_rooms)) (wX6 c t0 n0 tA_images r0 m0 h0 o0 sA tA_rooms t_rooms ++ wX5 c n0 nA_numbers nA_syllables nA_days nA_words nA_parents nA_otherParents nA_kinds nA_hopeDays nA_hopeTenths n_numbers n_syllables n_syllableCount n_days n_words n_parents n_otherParents n_kinds n_personCount n_hopeDays n_hopeTenths n_hopeCount n_degreesTold ++ wX0 c m0 mA_codes mA_partCodes mA_partShifts mA_partSums m_codes_14 m_size_15 m_partCodes_7 m_partShifts_8 m_partSums_9 m_partCount_10 m_wantedDay_11 m_divisorsWanted_12) [12, 13, 14, 15, 16, 2, 3, 4, 5, 6, 7, 8, 9, 10, 11] [0, 1] [0, 1, 7, 8, 9, 10, 11, 12, 13, 14, 15, 16, 2, 3, 4, 5, 6] S (k_X0_dropCalled l D c N m0 mA_codes mA_partCodes mA_partShifts mA_partSums m_codes_5 m_size_6 m_partCodes_7 m_partShifts_8 m_partSums_9 m_partCount_10 m_wantedDay_11 m_divisorsWanted_12 n0 nA_numbers nA_syllables nA_days nA_words nA_parents nA_otherParents nA_kinds nA_hopeDays nA_hopeTenths n_numbers n_syllables n_syllableCount n_days n_words n_parents n_otherParents n_kinds n_personCount n_hopeDays n_hopeTenths n_hopeCount n_degreesTold r_13 m_codes_14 m_size_15 he_15) mi_X0_dropCalled tw_3_143 ⟨(Nat.le_of_ble_eq_true rfl), (Nat.le_of_ble_eq_true rfl)⟩ ⟨rfl, rfl⟩ hP hD hS hA rfl rfl rfl rfl (by decide) rfl rfl hE hX (ci := 0) rfl rfl (q0 := 0) rfl rfl hl.1 rfl (Nat.le_of_ble_eq_true rfl) dX6_free_61 ⟨(Nat.le_of_ble_eq_true rfl), (Nat.le_of_ble_eq_true rfl)⟩ (fun H locs hP hD hS => ?_)
      refine lv_iload_n hx hb dX6_free_64 rfl (lv_at hl 2 rfl) ?_
      refine lv_iconst (v := (-1 : Int32)) hx hb dX6_free_65 (by decide) ?_
      refine lv_icmp_ne (tgt := 78) hx hb dX6_free_66 (by decide) (fun hc_16 => ?_) (fun hc_16 => ?_)
      · have hf := zz_if hf hc_16
        refine lv_iload_n hx hb dX6_free_78 rfl (lv_at hl 2 rfl) ?_
        refine lv_aload_n hx hb dX6_free_79 rfl (lv_at hl 0 rfl) ?_
        refine zget S uw_X6 hE hP 0 3 rfl rfl (by decide) tw_2_12 rfl rfl dX6_free_80 ?_
        refine zget S uw_X0 hE hP 12 1 rfl rfl (by decide) tw_1_151 rfl rfl dX6_free_83 ?_
        refine lv_icmp_ge (tgt := 101) hx hb dX6_free_86 (by decide) (fun hc_17 => ?_) (fun hc_17 => ?_)
        · have hf := zz_it hf hc_17
          refine lv_ldc2 (v := (-1 : Int64)) hx hb hown (hts _ tw_3_138) dX6_free_101 ?_
          cases hf
          exact zRWl hQ hx hb hr hlk rfl hP hD hS dX6_free_104
        · have hf := zz_if hf hc_17
          refine lv_aload_n hx hb dX6_free_89 rfl (lv_at hl 0 rfl) ?_
          refine zget S uw_X6 hE hP 0 3 rfl rfl (by decide) tw_2_12 rfl rfl dX6_free_90 ?_
          refine zget S uw_X0 hE hP 12 0 rfl rfl (by decide) tw_1_149 rfl rfl dX6_free_93 ?_
          refine lv_iload_n hx hb dX6_free_96 rfl (lv_at hl 2 rfl) ?_
          obtain ⟨hin_18, hf⟩ := zz_gd_use hf
          refine zlld hx hb hE hP 13 rfl (zz_in_ok hin_18) dX6_free_97 ?_
          refine lv_goto (tgt := 104) hx hb dX6_free_98 (by decide) ?_
          cases hf
          exact zRWl hQ hx hb hr hlk rfl hP hD hS dX6_free_104
      · have hf := zz_it hf hc_16
        refine lv_aload_n hx hb dX6_free_69 rfl (lv_at hl 0 rfl) ?_
        refine zget S uw_X6 hE hP 0 3 rfl rfl (by decide) tw_2_12 rfl rfl dX6_free_70 ?_
        refine zget S uw_X0 hE hP 12 1 rfl rfl (by decide) tw_1_151 rfl rfl dX6_free_73 ?_
        refine lv_i2l (v := m_size_15.toInt64) hx hb dX6_free_76 rfl ?_
        cases hf
        exact zRWl hQ hx hb hr hlk rfl hP hD hS dX6_free_77
    · have hf := zz_if hf hc_3
      refine lv_ldc2 (v := (-3 : Int64)) hx hb hown (hts _ tw_3_137) dX6_free_20 ?_
      cases hf
      exact zRWl hQ hx hb hr hlk rfl hP hD hS dX6_free_23
  · have hf := zz_it hf hc_2
    refine lv_ldc2 (v := (-2 : Int64)) hx hb hown (hts _ tw_3_18) dX6_free_11 ?_
    cases hf
    exact zRWl hQ hx hb hr hlk rfl hP hD hS dX6_free_14
def f_X6_findRooms_L2 (N : Nat) (k_1 : (Nat → Int32) → (Nat → Int64) → (Int32) → (Nat → Int64) → (Nat → Int64) → (Nat → Int32) → (Int32) → (Int32) → (Int32) → Option ((Nat → Int32) × (Nat → Int64) × (Int32) × (Nat → Int64) × (Nat → Int64) × (Nat → Int32) × (Int32) × (Int32) × (Int32))) (n_numbers : Nat → Int32) (n_syllables : Nat → Int64) (n_syllableCount : Int32) (n_words : Nat → Int64) (n_personCount : Int32) (n_hopeDays : Nat → Int32) (n_hopeCount : Int32) (p1 : Int32) : Nat → (Int32) → (Nat → Int32) → (Nat → Int64) → (Int32) → (Nat → Int64) → (Nat → Int64) → (Nat → Int32) → (Int32) → (Int32) → (Int32) → Option ((Nat → Int32) × (Nat → Int64) × (Int32) × (Nat → Int64) × (Nat → Int64) × (Nat → Int32) × (Int32) × (Int32) × (Int32))
  | 0, _, _, _, _, _, _, _, _, _, _ => none
  | n_1 + 1, v2_2, t_rooms_3, m_codes_4, m_size_5, m_partCodes_6, m_partShifts_7, m_partSums_8, m_partCount_9, m_wantedDay_10, m_divisorsWanted_11 => (if n_hopeCount ≤ v2_2 then (k_1 t_rooms_3 m_codes_4 m_size_5 m_partCodes_6 m_partShifts_7 m_partSums_8 m_partCount_9 m_wantedDay_10 m_divisorsWanted_11) else zz_gd (zz_in v2_2 6) (zz_b8 (f_X0_gather N m_codes_4 m_partCodes_6 m_partShifts_7 m_partSums_8 n_numbers n_syllables n_syllableCount (n_hopeDays v2_2.toNatClampNeg) (0 : Int32)) (fun m_codes_14 m_size_15 m_partCodes_16 m_partShifts_17 m_partSums_18 m_partCount_19 m_wantedDay_20 m_divisorsWanted_21 => zz_b2 (f_X0_dropCalled N m_codes_14 m_size_15 n_words n_personCount p1) (fun m_codes_22 m_size_23 => zz_let (upd t_rooms_3 v2_2.toNatClampNeg m_size_23) (fun t_rooms_24 => zz_let (v2_2 + (1 : Int32)) (fun v2_25 => (f_X6_findRooms_L2 N k_1 n_numbers n_syllables n_syllableCount n_words n_personCount n_hopeDays n_hopeCount p1 n_1 v2_25 t_rooms_24 m_codes_22 m_size_23 m_partCodes_16 m_partShifts_17 m_partSums_18 m_partCount_19 m_wantedDay_20 m_divisorsWanted_21)))))))
theorem f_X6_findRooms_L2_s (N : Nat) (k_1 : (Nat → Int32) → (Nat → Int64) → (Int32) → (Nat → Int64) → (Nat → Int64) → (Nat → Int32) → (Int32) → (Int32) → (Int32) → Option ((Nat → Int32) × (Nat → Int64) × (Int32) × (Nat → Int64) × (Nat → Int64) × (Nat → Int32) × (Int32) × (Int32) × (Int32))) (n_numbers : Nat → Int32) (n_syllables : Nat → Int64) (n_syllableCount : Int32) (n_words : Nat → Int64) (n_personCount : Int32) (n_hopeDays : Nat → Int32) (n_hopeCount : Int32) (p1 : Int32) (n_1 : Nat) (v2_2 : Int32) (t_rooms_3 : Nat → Int32) (m_codes_4 : Nat → Int64) (m_size_5 : Int32) (m_partCodes_6 : Nat → Int64) (m_partShifts_7 : Nat → Int64) (m_partSums_8 : Nat → Int32) (m_partCount_9 : Int32) (m_wantedDay_10 : Int32) (m_divisorsWanted_11 : Int32) : f_X6_findRooms_L2 N k_1 n_numbers n_syllables n_syllableCount n_words n_personCount n_hopeDays n_hopeCount p1 (n_1 + 1) v2_2 t_rooms_3 m_codes_4 m_size_5 m_partCodes_6 m_partShifts_7 m_partSums_8 m_partCount_9 m_wantedDay_10 m_divisorsWanted_11 = (if n_hopeCount ≤ v2_2 then (k_1 t_rooms_3 m_codes_4 m_size_5 m_partCodes_6 m_partShifts_7 m_partSums_8 m_partCount_9 m_wantedDay_10 m_divisorsWanted_11) else zz_gd (zz_in v2_2 6) (zz_b8 (f_X0_gather N m_codes_4 m_partCodes_6 m_partShifts_7 m_partSums_8 n_numbers n_syllables n_syllableCount (n_hopeDays v2_2.toNatClampNeg) (0 : Int32)) (fun m_codes_14 m_size_15 m_partCodes_16 m_partShifts_17 m_partSums_18 m_partCount_19 m_wantedDay_20 m_divisorsWanted_21 => zz_b2 (f_X0_dropCalled N m_codes_14 m_size_15 n_words n_personCount p1) (fun m_codes_22 m_size_23 => zz_let (upd t_rooms_3 v2_2.toNatClampNeg m_size_23) (fun t_rooms_24 => zz_let (v2_2 + (1 : Int32)) (fun v2_25 => (f_X6_findRooms_L2 N k_1 n_numbers n_syllables n_syllableCount n_words n_personCount n_hopeDays n_hopeCount p1 n_1 v2_25 t_rooms_24 m_codes_22 m_size_23 m_partCodes_16 m_partShifts_17 m_partSums_18 m_partCount_19 m_wantedDay_20 m_divisorsWanted_21))))))) := rfl
def f_X6_findRooms (N : Nat) (t_rooms : Nat → Int32) (n_numbers : Nat → Int32) (n_syllables : Nat → Int64) (n_syllableCount : Int32) (n_words : Nat → Int64) (n_personCount : Int32) (n_hopeDays : Nat → Int32) (n_hopeCount : Int32) (m_codes : Nat → Int64) (m_size : Int32) (m_partCodes : Nat → Int64) (m_partShifts : Nat → Int64) (m_partSums : Nat → Int32) (m_partCount : Int32) (m_wantedDay : Int32) (m_divisorsWanted : Int32) (p1 : Int32) : Option ((Nat → Int32) × (Nat → Int64) × (Int32) × (Nat → Int64) × (Nat → Int64) × (Nat → Int32) × (Int32) × (Int32) × (Int32)) := zz_let (fun (t_rooms_26 : Nat → Int32) (m_codes_27 : Nat → Int64) (m_size_28 : Int32) (m_partCodes_29 : Nat → Int64) (m_partShifts_30 : Nat → Int64) (m_partSums_31 : Nat → Int32) (m_partCount_32 : Int32) (m_wantedDay_33 : Int32) (m_divisorsWanted_34 : Int32) => (some (t_rooms_26, m_codes_27, m_size_28, m_partCodes_29, m_partShifts_30, m_partSums_31, m_partCount_32, m_wantedDay_33, m_divisorsWanted_34))) (fun k_1 => f_X6_findRooms_L2 N k_1 n_numbers n_syllables n_syllableCount n_words n_personCount n_hopeDays n_hopeCount p1 N (0 : Int32) t_rooms m_codes m_size m_partCodes m_partShifts m_partSums m_partCount m_wantedDay m_divisorsWanted)
abbrev rm_X6_findRooms : Room := { frames := 7, cells := 0, slots := 0, locals := 187 }
theorem mi_X6_findRooms : zMI RX6 yX6_findRooms cX6_findRooms 3 none 1 := ⟨⟨tw_3_161, ts_X6_findRooms, tw_1_1, tw_3_162⟩, by decide +kernel, by decide +kernel, by decide +kernel⟩
set_option maxHeartbeats 4000000 in
set_option maxRecDepth 100000 in
theorem k_X6_findRooms (l : Launch) (D : va_G) (c : Nat → ClassId) (N : Nat) (t0 : Nat) (n0 : Nat) (tA_images : Nat) (r0 : Nat) (m0 : Nat) (h0 : Nat) (o0 : Nat) (sA : Nat) (tA_rooms : Nat) (t_rooms : Nat → Int32) (n0_x : Nat) (nA_numbers : Nat) (nA_syllables : Nat) (nA_days : Nat) (nA_words : Nat) (nA_parents : Nat) (nA_otherParents : Nat) (nA_kinds : Nat) (nA_hopeDays : Nat) (nA_hopeTenths : Nat) (n_numbers : Nat → Int32) (n_syllables : Nat → Int64) (n_syllableCount : Int32) (n_days : Nat → Int32) (n_words : Nat → Int64) (n_parents : Nat → Int32) (n_otherParents : Nat → Int32) (n_kinds : Nat → Int32) (n_personCount : Int32) (n_hopeDays : Nat → Int32) (n_hopeTenths : Nat → Int32) (n_hopeCount : Int32) (n_degreesTold : Int32) (m0_x : Nat) (mA_codes : Nat) (mA_partCodes : Nat) (mA_partShifts : Nat) (mA_partSums : Nat) (m_codes : Nat → Int64) (m_size : Int32) (m_partCodes : Nat → Int64) (m_partShifts : Nat → Int64) (m_partSums : Nat → Int32) (m_partCount : Int32) (m_wantedDay : Int32) (m_divisorsWanted : Int32) (p1 : Int32) (o_t_rooms : Nat → Int32) (o_m_codes : Nat → Int64) (o_m_size : Int32) (o_m_partCodes : Nat → Int64) (o_m_partShifts : Nat → Int64) (o_m_partSums : Nat → Int32) (o_m_partCount : Int32) (o_m_wantedDay : Int32) (o_m_divisorsWanted : Int32) (hf : f_X6_findRooms N t_rooms n_numbers n_syllables n_syllableCount n_words n_personCount n_hopeDays n_hopeCount m_codes m_size m_partCodes m_partShifts m_partSums m_partCount m_wantedDay m_divisorsWanted p1 = some (o_t_rooms, o_m_codes, o_m_size, o_m_partCodes, o_m_partShifts, o_m_partSums, o_m_partCount, o_m_wantedDay, o_m_divisorsWanted)) : zMWv l D c yX6_findRooms cX6_findRooms 3 none rm_X6_findRooms (wX6 c t0 n0 tA_images r0 m0 h0 o0 sA tA_rooms t_rooms ++ wX5 c n0 nA_numbers nA_syllables nA_days nA_words nA_parents nA_otherParents nA_kinds nA_hopeDays nA_hopeTenths n_numbers n_syllables n_syllableCount n_days n_words n_parents n_otherParents n_kinds n_personCount n_hopeDays n_hopeTenths n_hopeCount n_degreesTold ++ wX0 c m0 mA_codes mA_partCodes mA_partShifts mA_partSums m_codes m_size m_partCodes m_partShifts m_partSums m_partCount m_wantedDay m_divisorsWanted) (wX6 c t0 n0 tA_images r0 m0 h0 o0 sA tA_rooms o_t_rooms ++ wX5 c n0 nA_numbers nA_syllables nA_days nA_words nA_parents nA_otherParents nA_kinds nA_hopeDays nA_hopeTenths n_numbers n_syllables n_syllableCount n_days n_words n_parents n_otherParents n_kinds n_personCount n_hopeDays n_hopeTenths n_hopeCount n_degreesTold ++ wX0 c m0 mA_codes mA_partCodes mA_partShifts mA_partSums o_m_codes o_m_size o_m_partCodes o_m_partShifts o_m_partSums o_m_partCount o_m_wantedDay o_m_divisorsWanted) [.ref t0, .int p1] := by
  intro sz
  refine zIW (by decide) (Nat.le_of_ble_eq_true rfl) ?_
  intro p e s m args below meth c0 Q A hAe hQ hx hb hr hlk hml hts hown hP hE hD hS hA hsz hmn hX ls hl
  rw [← hAe] at hQ
  have S : CallFix p m c0 cX6_findRooms 3 s args zT RX6 := ⟨hx, hb, hml, hown, hts⟩
  have hl : lv_has ls 3 [(0, .ref t0), (1, .int p1)] := hl
  unfold f_X6_findRooms at hf
  refine lv_iconst (v := (0 : Int32)) hx hb dX6_findRooms_0 (by decide) ?_
  refine lv_istore_n (lv' := [(2, .int (0 : Int32)), (0, .ref t0), (1, .int p1)]) hx hb dX6_findRooms_1 rfl hl (by decide) rfl (fun ls hl => ?_)
  obtain ⟨k_1, hk_1, hf⟩ := zz_let_use hf
  have hX_1 : ∀ (t_rooms_26 : Nat → Int32) (m_codes_27 : Nat → Int64) (m_size_28 : Int32) (m_partCodes_29 : Nat → Int64) (m_partShifts_30 : Nat → Int64) (m_partSums_31 : Nat → Int32) (m_partCount_32 : Int32) (m_wantedDay_33 : Int32) (m_divisorsWanted_34 : Int32) (H : Heap) (locs : List Loc) (ls : Array Slot), k_1 t_rooms_26 m_codes_27 m_size_28 m_partCodes_29 m_partShifts_30 m_partSums_31 m_partCount_32 m_wantedDay_33 m_divisorsWanted_34 = some (o_t_rooms, o_m_codes, o_m_size, o_m_partCodes, o_m_partShifts, o_m_partSums, o_m_partCount, o_m_wantedDay, o_m_divisorsWanted) → va_P D vwCl (wX6 c t0 n0 tA_images r0 m0 h0 o0 sA tA_rooms t_rooms_26 ++ wX5 c n0 nA_numbers nA_syllables nA_days nA_words nA_parents nA_otherParents nA_kinds nA_hopeDays nA_hopeTenths n_numbers n_syllables n_syllableCount n_days n_words n_parents n_otherParents n_kinds n_personCount n_hopeDays n_hopeTenths n_hopeCount n_degreesTold ++ wX0 c m0 mA_codes mA_partCodes mA_partShifts mA_partSums m_codes_27 m_size_28 m_partCodes_29 m_partShifts_30 m_partSums_31 m_partCount_32 m_wantedDay_33 m_divisorsWanted_34) H → va_D A (wX6 c t0 n0 tA_images r0 m0 h0 o0 sA tA_rooms t_rooms_26 ++ wX5 c n0 nA_numbers nA_syllables nA_days nA_words nA_parents nA_otherParents nA_kinds nA_hopeDays nA_hopeTenths n_numbers n_syllables n_syllableCount n_days n_words n_parents n_otherParents n_kinds n_personCount n_hopeDays n_hopeTenths n_hopeCount n_degreesTold ++ wX0 c m0 mA_codes mA_partCodes mA_partShifts mA_partSums m_codes_27 m_size_28 m_partCodes_29 m_partShifts_30 m_partSums_31 m_partCount_32 m_wantedDay_33 m_divisorsWanted_34) → va_S A s.heap H locs → lv_has ls 3 [] → W p l e rm_X6_findRooms s m args below meth c0 H locs 0 0 Q (F0 m 65 ls []) := by
    intro t_rooms_26 m_codes_27 m_size_28 m_partCodes_29 m_partShifts_30 m_partSums_31 m_partCount_32 m_wantedDay_33 m_divisorsWanted_34 H locs ls hf hP hD hS hl
    subst hk_1
    cases hf
    exact zRWv hQ hx hb hr hlk hP hD hS dX6_findRooms_65
  have hL_1 : ∀ (n_1 : Nat) (v2_2 : Int32) (t_rooms_3 : Nat → Int32) (m_codes_4 : Nat → Int64) (m_size_5 : Int32) (m_partCodes_6 : Nat → Int64) (m_partShifts_7 : Nat → Int64) (m_partSums_8 : Nat → Int32) (m_partCount_9 : Int32) (m_wantedDay_10 : Int32) (m_divisorsWanted_11 : Int32) (H : Heap) (locs : List Loc) (ls : Array Slot), f_X6_findRooms_L2 N k_1 n_numbers n_syllables n_syllableCount n_words n_personCount n_hopeDays n_hopeCount p1 n_1 v2_2 t_rooms_3 m_codes_4 m_size_5 m_partCodes_6 m_partShifts_7 m_partSums_8 m_partCount_9 m_wantedDay_10 m_divisorsWanted_11 = some (o_t_rooms, o_m_codes, o_m_size, o_m_partCodes, o_m_partShifts, o_m_partSums, o_m_partCount, o_m_wantedDay, o_m_divisorsWanted) → va_P D vwCl (wX6 c t0 n0 tA_images r0 m0 h0 o0 sA tA_rooms t_rooms_3 ++ wX5 c n0 nA_numbers nA_syllables nA_days nA_words nA_parents nA_otherParents nA_kinds nA_hopeDays nA_hopeTenths n_numbers n_syllables n_syllableCount n_days n_words n_parents n_otherParents n_kinds n_personCount n_hopeDays n_hopeTenths n_hopeCount n_degreesTold ++ wX0 c m0 mA_codes mA_partCodes mA_partShifts mA_partSums m_codes_4 m_size_5 m_partCodes_6 m_partShifts_7 m_partSums_8 m_partCount_9 m_wantedDay_10 m_divisorsWanted_11) H → va_D A (wX6 c t0 n0 tA_images r0 m0 h0 o0 sA tA_rooms t_rooms_3 ++ wX5 c n0 nA_numbers nA_syllables nA_days nA_words nA_parents nA_otherParents nA_kinds nA_hopeDays nA_hopeTenths n_numbers n_syllables n_syllableCount n_days n_words n_parents n_otherParents n_kinds n_personCount n_hopeDays n_hopeTenths n_hopeCount n_degreesTold ++ wX0 c m0 mA_codes mA_partCodes mA_partShifts mA_partSums m_codes_4 m_size_5 m_partCodes_6 m_partShifts_7 m_partSums_8 m_partCount_9 m_wantedDay_10 m_divisorsWanted_11) → va_S A s.heap H locs → lv_has ls 3 [(0, .ref t0), (1, .int p1), (2, .int v2_2)] → W p l e rm_X6_findRooms s m args below meth c0 H locs 0 0 Q (F0 m 2 ls []) := by
    intro n_1
    induction n_1 with
    | zero => intro v2_2 t_rooms_3 m_codes_4 m_size_5 m_partCodes_6 m_partShifts_7 m_partSums_8 m_partCount_9 m_wantedDay_10 m_divisorsWanted_11 H locs ls hf hP hD hS hl; exact zz_none hf
    | succ n_1 ih_1 =>
      intro v2_2 t_rooms_3 m_codes_4 m_size_5 m_partCodes_6 m_partShifts_7 m_partSums_8 m_partCount_9 m_wantedDay_10 m_divisorsWanted_11 H locs ls hf hP hD hS hl
      rw [f_X6_findRooms_L2_s] at hf
      refine lv_iload_n hx hb dX6_findRooms_2 rfl (lv_at hl 2 rfl) ?_
      refine lv_aload_n hx hb dX6_findRooms_3 rfl (lv_at hl 0 rfl) ?_
      refine zget S uw_X6 hE hP 0 0 rfl rfl (by decide) tw_2_9 rfl rfl dX6_findRooms_4 ?_
      refine zget S uw_X5 hE hP 2 11 rfl rfl (by decide) tw_1_63 rfl rfl dX6_findRooms_7 ?_
      refine lv_icmp_ge (tgt := 65) hx hb dX6_findRooms_10 (by decide) (fun hc_12 => ?_) (fun hc_12 => ?_)
      · have hf := zz_it hf hc_12
        exact hX_1 t_rooms_3 m_codes_4 m_size_5 m_partCodes_6 m_partShifts_7 m_partSums_8 m_partCount_9 m_wantedDay_10 m_divisorsWanted_11 H locs ls hf hP hD hS (lv_sub hl [] rfl)
      · have hf := zz_if hf hc_12
        refine lv_aload_n hx hb dX6_findRooms_13 rfl (lv_at hl 0 rfl) ?_
        refine zget S uw_X6 hE hP 0 3 rfl rfl (by decide) tw_2_12 rfl rfl dX6_findRooms_14 ?_
        refine lv_aload_n hx hb dX6_findRooms_17 rfl (lv_at hl 0 rfl) ?_
        refine zget S uw_X6 hE hP 0 0 rfl rfl (by decide) tw_2_9 rfl rfl dX6_findRooms_18 ?_
        refine lv_aload_n hx hb dX6_findRooms_21 rfl (lv_at hl 0 rfl) ?_
        refine zget S uw_X6 hE hP 0 0 rfl rfl (by decide) tw_2_9 rfl rfl dX6_findRooms_22 ?_
        refine zget S uw_X5 hE hP 2 9 rfl rfl (by decide) tw_1_58 rfl rfl dX6_findRooms_25 ?_
        refine lv_iload_n hx hb dX6_findRooms_28 rfl (lv_at hl 2 rfl) ?_
        obtain ⟨hin_13, hf⟩ := zz_gd_use hf
        refine zild hx hb hE hP 10 rfl (zz_in_ok hin_13) dX6_findRooms_29 ?_
        refine lv_iconst (v := (0 : Int32)) hx hb dX6_findRooms_30 (by decide) ?_
        obtain ⟨m_codes_14, m_size_15, m_partCodes_16, m_partShifts_17, m_partSums_18, m_partCount_19, m_wantedDay_20, m_divisorsWanted_21, he_21, hf⟩ := zz_b8_use hf
        refine zwVv (As := [.ref n0, .int (n_hopeDays v2_2.toNatClampNeg), .int (0 : Int32)]) (rest := []) (wr := (wX6 c t0 n0 tA_images r0 m0 h0 o0 sA tA_rooms t_rooms_3)) (wX6 c t0 n0 tA_images r0 m0 h0 o0 sA tA_rooms t_rooms_3 ++ wX5 c n0 nA_numbers nA_syllables nA_days nA_words nA_parents nA_otherParents nA_kinds nA_hopeDays nA_hopeTenths n_numbers n_syllables n_syllableCount n_days n_words n_parents n_otherParents n_kinds n_personCount n_hopeDays n_hopeTenths n_hopeCount n_degreesTold ++ wX0 c m0 mA_codes mA_partCodes mA_partShifts mA_partSums m_codes_14 m_size_15 m_partCodes_16 m_partShifts_17 m_partSums_18 m_partCount_19 m_wantedDay_20 m_divisorsWanted_21) [12, 13, 14, 15, 16, 2, 3, 4, 5, 6, 7, 8, 9, 10, 11] [0, 1] [0, 1, 7, 8, 9, 10, 11, 12, 13, 14, 15, 16, 2, 3, 4, 5, 6] S (k_X0_gather l D c N m0 mA_codes mA_partCodes mA_partShifts mA_partSums m_codes_4 m_size_5 m_partCodes_6 m_partShifts_7 m_partSums_8 m_partCount_9 m_wantedDay_10 m_divisorsWanted_11 n0 nA_numbers nA_syllables nA_days nA_words nA_parents nA_otherParents nA_kinds nA_hopeDays nA_hopeTenths n_numbers n_syllables n_syllableCount n_days n_words n_parents n_otherParents n_kinds n_personCount n_hopeDays n_hopeTenths n_hopeCount n_degreesTold (n_hopeDays v2_2.toNatClampNeg) (0 : Int32) m_codes_14 m_size_15 m_partCodes_16 m_partShifts_17 m_partSums_18 m_partCount_19 m_wantedDay_20 m_divisorsWanted_21 he_21) mi_X0_gather tw_3_102 ⟨(Nat.le_of_ble_eq_true rfl), (Nat.le_of_ble_eq_true rfl)⟩ ⟨rfl, rfl⟩ hP hD hS hA rfl rfl rfl rfl (by decide) rfl rfl hE hX (ci := 0) rfl rfl (q0 := 0) rfl rfl hl.1 rfl (Nat.le_of_ble_eq_true rfl) dX6_findRooms_31 ⟨(Nat.le_of_ble_eq_true rfl), (Nat.le_of_ble_eq_true rfl)⟩ (fun H locs hP hD hS => ?_)
        refine lv_aload_n hx hb dX6_findRooms_34 rfl (lv_at hl 0 rfl) ?_
        refine zget S uw_X6 hE hP 0 3 rfl rfl (by decide) tw_2_12 rfl rfl dX6_findRooms_35 ?_
        refine lv_aload_n hx hb dX6_findRooms_38 rfl (lv_at hl 0 rfl) ?_
        refine zget S uw_X6 hE hP 0 0 rfl rfl (by decide) tw_2_9 rfl rfl dX6_findRooms_39 ?_
        refine lv_iload_n hx hb dX6_findRooms_42 rfl (lv_at hl 1 rfl) ?_
        obtain ⟨m_codes_22, m_size_23, he_23, hf⟩ := zz_b2_use hf
        refine zwVv (As := [.ref n0, .int p1]) (rest := []) (wr := (wX6 c t0 n0 tA_images r0 m0 h0 o0 sA tA_rooms t_rooms_3)) (wX6 c t0 n0 tA_images r0 m0 h0 o0 sA tA_rooms t_rooms_3 ++ wX5 c n0 nA_numbers nA_syllables nA_days nA_words nA_parents nA_otherParents nA_kinds nA_hopeDays nA_hopeTenths n_numbers n_syllables n_syllableCount n_days n_words n_parents n_otherParents n_kinds n_personCount n_hopeDays n_hopeTenths n_hopeCount n_degreesTold ++ wX0 c m0 mA_codes mA_partCodes mA_partShifts mA_partSums m_codes_22 m_size_23 m_partCodes_16 m_partShifts_17 m_partSums_18 m_partCount_19 m_wantedDay_20 m_divisorsWanted_21) [12, 13, 14, 15, 16, 2, 3, 4, 5, 6, 7, 8, 9, 10, 11] [0, 1] [0, 1, 7, 8, 9, 10, 11, 12, 13, 14, 15, 16, 2, 3, 4, 5, 6] S (k_X0_dropCalled l D c N m0 mA_codes mA_partCodes mA_partShifts mA_partSums m_codes_14 m_size_15 m_partCodes_16 m_partShifts_17 m_partSums_18 m_partCount_19 m_wantedDay_20 m_divisorsWanted_21 n0 nA_numbers nA_syllables nA_days nA_words nA_parents nA_otherParents nA_kinds nA_hopeDays nA_hopeTenths n_numbers n_syllables n_syllableCount n_days n_words n_parents n_otherParents n_kinds n_personCount n_hopeDays n_hopeTenths n_hopeCount n_degreesTold p1 m_codes_22 m_size_23 he_23) mi_X0_dropCalled tw_3_143 ⟨(Nat.le_of_ble_eq_true rfl), (Nat.le_of_ble_eq_true rfl)⟩ ⟨rfl, rfl⟩ hP hD hS hA rfl rfl rfl rfl (by decide) rfl rfl hE hX (ci := 0) rfl rfl (q0 := 0) rfl rfl hl.1 rfl (Nat.le_of_ble_eq_true rfl) dX6_findRooms_43 ⟨(Nat.le_of_ble_eq_true rfl), (Nat.le_of_ble_eq_true rfl)⟩ (fun H locs hP hD hS => ?_)
        refine lv_aload_n hx hb dX6_findRooms_46 rfl (lv_at hl 0 rfl) ?_
        refine zget S uw_X6 hE hP 0 7 rfl rfl (by decide) tw_2_16 rfl rfl dX6_findRooms_47 ?_
        refine lv_iload_n hx hb dX6_findRooms_50 rfl (lv_at hl 2 rfl) ?_
        refine lv_aload_n hx hb dX6_findRooms_51 rfl (lv_at hl 0 rfl) ?_
        refine zget S uw_X6 hE hP 0 3 rfl rfl (by decide) tw_2_12 rfl rfl dX6_findRooms_52 ?_
        refine zget S uw_X0 hE hP 12 1 rfl rfl (by decide) tw_1_151 rfl rfl dX6_findRooms_55 ?_
        obtain ⟨t_rooms_24, et_rooms_24, hf⟩ := zz_let_use hf
        refine zist hx hb hE hP hD hS 1 (wX6 c t0 n0 tA_images r0 m0 h0 o0 sA tA_rooms t_rooms_24 ++ wX5 c n0 nA_numbers nA_syllables nA_days nA_words nA_parents nA_otherParents nA_kinds nA_hopeDays nA_hopeTenths n_numbers n_syllables n_syllableCount n_days n_words n_parents n_otherParents n_kinds n_personCount n_hopeDays n_hopeTenths n_hopeCount n_degreesTold ++ wX0 c m0 mA_codes mA_partCodes mA_partShifts mA_partSums m_codes_22 m_size_23 m_partCodes_16 m_partShifts_17 m_partSums_18 m_partCount_19 m_wantedDay_20 m_divisorsWanted_21) rfl rfl et_rooms_24 (zz_in_ok hin_13) dX6_findRooms_58 (fun H locs hP hD hS => ?_)
        obtain ⟨v2_25, ev2_25, hf⟩ := zz_let_use hf
        refine lv_iinc (v := v2_25) (lv' := [(2, .int v2_25), (0, .ref t0), (1, .int p1)]) hx hb dX6_findRooms_59 hl (k := 2) rfl (by rw [← ev2_25]; rfl) (by decide) rfl (fun ls hl => ?_)
        refine lv_goto (tgt := 2) hx hb dX6_findRooms_62 (by decide) ?_
        exact ih_1 v2_25 t_rooms_24 m_codes_22 m_size_23 m_partCodes_16 m_partShifts_17 m_partSums_18 m_partCount_19 m_wantedDay_20 m_divisorsWanted_21 H locs ls hf hP hD hS (lv_sub hl [1, 2, 0] rfl)
  exact hL_1 N (0 : Int32) t_rooms m_codes m_size m_partCodes m_partShifts m_partSums m_partCount m_wantedDay m_divisorsWanted s.heap [] ls hf hP hD hS (lv_sub hl [1, 2, 0] rfl)
def f_X6_comingWith_L5 (N : Nat) (k_1 : (Int32) → Option (Int32)) (n_hopeDays : Nat → Int32) (n_hopeCount : Int32) (p1 : Int32) (p2 : Int32) : Nat → (Int32) → (Int32) → Option (Int32)
  | 0, _, _ => none
  | n_1 + 1, v3_2, v4_3 => (if n_hopeCount ≤ v4_3 then (k_1 v3_2) else zz_let (fun (v3_11 : Int32) => zz_let (v4_3 + (1 : Int32)) (fun v4_12 => (f_X6_comingWith_L5 N k_1 n_hopeDays n_hopeCount p1 p2 n_1 v3_11 v4_12))) (fun k_10 => (if ((p1 >>> (v4_3 &&& 31)) &&& (1 : Int32)) = 0 then (k_10 v3_2) else zz_gd (zz_in v4_3 6) (zz_gd (zz_in p2 6) ((if (n_hopeDays v4_3.toNatClampNeg) = (n_hopeDays p2.toNatClampNeg) then zz_let (v3_2 + (1 : Int32)) (fun v3_9 => (k_10 v3_9)) else (k_10 v3_2)))))))
theorem f_X6_comingWith_L5_s (N : Nat) (k_1 : (Int32) → Option (Int32)) (n_hopeDays : Nat → Int32) (n_hopeCount : Int32) (p1 : Int32) (p2 : Int32) (n_1 : Nat) (v3_2 : Int32) (v4_3 : Int32) : f_X6_comingWith_L5 N k_1 n_hopeDays n_hopeCount p1 p2 (n_1 + 1) v3_2 v4_3 = (if n_hopeCount ≤ v4_3 then (k_1 v3_2) else zz_let (fun (v3_11 : Int32) => zz_let (v4_3 + (1 : Int32)) (fun v4_12 => (f_X6_comingWith_L5 N k_1 n_hopeDays n_hopeCount p1 p2 n_1 v3_11 v4_12))) (fun k_10 => (if ((p1 >>> (v4_3 &&& 31)) &&& (1 : Int32)) = 0 then (k_10 v3_2) else zz_gd (zz_in v4_3 6) (zz_gd (zz_in p2 6) ((if (n_hopeDays v4_3.toNatClampNeg) = (n_hopeDays p2.toNatClampNeg) then zz_let (v3_2 + (1 : Int32)) (fun v3_9 => (k_10 v3_9)) else (k_10 v3_2))))))) := rfl
def f_X6_comingWith (N : Nat) (n_hopeDays : Nat → Int32) (n_hopeCount : Int32) (p1 : Int32) (p2 : Int32) : Option (Int32) := zz_let (fun (v3_13 : Int32) => (some v3_13)) (fun k_1 => f_X6_comingWith_L5 N k_1 n_hopeDays n_hopeCount p1 p2 N (0 : Int32) (0 : Int32))
abbrev rm_X6_comingWith : Room := { frames := 0, cells := 0, slots := 0, locals := 0 }
theorem mi_X6_comingWith : zMI RX6 yX6_comingWith cX6_comingWith 5 (some .int) 2 := ⟨⟨tw_3_173, ts_X6_comingWith, tw_1_1, tw_3_174⟩, by decide +kernel, by decide +kernel, by decide +kernel⟩
set_option maxHeartbeats 4000000 in
set_option maxRecDepth 100000 in
theorem k_X6_comingWith (l : Launch) (D : va_G) (c : Nat → ClassId) (N : Nat) (t0 : Nat) (n0 : Nat) (tA_images : Nat) (r0 : Nat) (m0 : Nat) (h0 : Nat) (o0 : Nat) (sA : Nat) (tA_rooms : Nat) (t_rooms : Nat → Int32) (n0_x : Nat) (nA_numbers : Nat) (nA_syllables : Nat) (nA_days : Nat) (nA_words : Nat) (nA_parents : Nat) (nA_otherParents : Nat) (nA_kinds : Nat) (nA_hopeDays : Nat) (nA_hopeTenths : Nat) (n_numbers : Nat → Int32) (n_syllables : Nat → Int64) (n_syllableCount : Int32) (n_days : Nat → Int32) (n_words : Nat → Int64) (n_parents : Nat → Int32) (n_otherParents : Nat → Int32) (n_kinds : Nat → Int32) (n_personCount : Int32) (n_hopeDays : Nat → Int32) (n_hopeTenths : Nat → Int32) (n_hopeCount : Int32) (n_degreesTold : Int32) (p1 : Int32) (p2 : Int32) (o : Int32) (hf : f_X6_comingWith N n_hopeDays n_hopeCount p1 p2 = some o) : zMPi l D c yX6_comingWith cX6_comingWith 5 (some .int) rm_X6_comingWith (wX6 c t0 n0 tA_images r0 m0 h0 o0 sA tA_rooms t_rooms ++ wX5 c n0 nA_numbers nA_syllables nA_days nA_words nA_parents nA_otherParents nA_kinds nA_hopeDays nA_hopeTenths n_numbers n_syllables n_syllableCount n_days n_words n_parents n_otherParents n_kinds n_personCount n_hopeDays n_hopeTenths n_hopeCount n_degreesTold) [.ref t0, .int p1, .int p2] o := by
  refine zIP (by decide) (Nat.le_of_ble_eq_true rfl) ?_
  intro p e s m args below meth c0 Q hQ hx hb hr hlk hml hts hown hP hE hX hS ls hl
  have S : CallFix p m c0 cX6_comingWith 5 s args zT RX6 := ⟨hx, hb, hml, hown, hts⟩
  have hl : lv_has ls 5 [(0, .ref t0), (1, .int p1), (2, .int p2)] := hl
  unfold f_X6_comingWith at hf
  refine lv_iconst (v := (0 : Int32)) hx hb dX6_comingWith_0 (by decide) ?_
  refine lv_istore_n (lv' := [(3, .int (0 : Int32)), (0, .ref t0), (1, .int p1), (2, .int p2)]) hx hb dX6_comingWith_1 rfl hl (by decide) rfl (fun ls hl => ?_)
  refine lv_iconst (v := (0 : Int32)) hx hb dX6_comingWith_2 (by decide) ?_
  refine lv_istore (lv' := [(4, .int (0 : Int32)), (3, .int (0 : Int32)), (0, .ref t0), (1, .int p1), (2, .int p2)]) hx hb dX6_comingWith_3 hl (by decide) rfl (fun ls hl => ?_)
  obtain ⟨k_1, hk_1, hf⟩ := zz_let_use hf
  have hX_1 : ∀ (v3_13 : Int32) (ls : Array Slot), k_1 v3_13 = some o → lv_has ls 5 [(3, .int v3_13)] → W p l e rm_X6_comingWith s m args below meth c0 s.heap [] 0 0 Q (F0 m 57 ls []) := by
    intro v3_13 ls hf hl
    subst hk_1
    refine lv_iload_n hx hb dX6_comingWith_57 rfl (lv_at hl 0 rfl) ?_
    exact zRPi hQ hx hb hr hlk (Option.some.inj hf) dX6_comingWith_58
  have hL_1 : ∀ (n_1 : Nat) (v3_2 : Int32) (v4_3 : Int32) (ls : Array Slot), f_X6_comingWith_L5 N k_1 n_hopeDays n_hopeCount p1 p2 n_1 v3_2 v4_3 = some o → lv_has ls 5 [(0, .ref t0), (1, .int p1), (2, .int p2), (3, .int v3_2), (4, .int v4_3)] → W p l e rm_X6_comingWith s m args below meth c0 s.heap [] 0 0 Q (F0 m 5 ls []) := by
    intro n_1
    induction n_1 with
    | zero => intro v3_2 v4_3 ls hf hl; exact zz_none hf
    | succ n_1 ih_1 =>
      intro v3_2 v4_3 ls hf hl
      rw [f_X6_comingWith_L5_s] at hf
      refine lv_iload hx hb dX6_comingWith_5 (lv_at hl 4 rfl) ?_
      refine lv_aload_n hx hb dX6_comingWith_7 rfl (lv_at hl 0 rfl) ?_
      refine zget S uw_X6 hE hP 0 0 rfl rfl (by decide) tw_2_9 rfl rfl dX6_comingWith_8 ?_
      refine zget S uw_X5 hE hP 2 11 rfl rfl (by decide) tw_1_63 rfl rfl dX6_comingWith_11 ?_
      refine lv_icmp_ge (tgt := 57) hx hb dX6_comingWith_14 (by decide) (fun hc_4 => ?_) (fun hc_4 => ?_)
      · have hf := zz_it hf hc_4
        exact hX_1 v3_2 ls hf (lv_sub hl [3] rfl)
      · have hf := zz_if hf hc_4
        refine lv_iload_n hx hb dX6_comingWith_17 rfl (lv_at hl 1 rfl) ?_
        refine lv_iload hx hb dX6_comingWith_18 (lv_at hl 4 rfl) ?_
        refine lv_ishr hx hb dX6_comingWith_20 ?_
        refine lv_iconst (v := (1 : Int32)) hx hb dX6_comingWith_21 (by decide) ?_
        refine lv_iand hx hb dX6_comingWith_22 ?_
        obtain ⟨k_10, hk_10, hf⟩ := zz_let_use hf
        have hJ_10 : ∀ (v3_11 : Int32) (ls : Array Slot), k_10 v3_11 = some o → lv_has ls 5 [(0, .ref t0), (1, .int p1), (2, .int p2), (3, .int v3_11), (4, .int v4_3)] → W p l e rm_X6_comingWith s m args below meth c0 s.heap [] 0 0 Q (F0 m 51 ls []) := by
          intro v3_11 ls hf hl
          subst hk_10
          obtain ⟨v4_12, ev4_12, hf⟩ := zz_let_use hf
          refine lv_iinc (v := v4_12) (lv' := [(4, .int v4_12), (0, .ref t0), (1, .int p1), (2, .int p2), (3, .int v3_11)]) hx hb dX6_comingWith_51 hl (k := 4) rfl (by rw [← ev4_12]; rfl) (by decide) rfl (fun ls hl => ?_)
          refine lv_goto (tgt := 5) hx hb dX6_comingWith_54 (by decide) ?_
          exact ih_1 v3_11 v4_12 ls hf (lv_sub hl [1, 2, 3, 4, 0] rfl)
        refine lv_if_eq (tgt := 51) hx hb dX6_comingWith_23 (by decide) (fun hc_5 => ?_) (fun hc_5 => ?_)
        · have hf := zz_it hf hc_5
          exact hJ_10 v3_2 ls hf (lv_sub hl [0, 1, 2, 3, 4] rfl)
        · have hf := zz_if hf hc_5
          refine lv_aload_n hx hb dX6_comingWith_26 rfl (lv_at hl 0 rfl) ?_
          refine zget S uw_X6 hE hP 0 0 rfl rfl (by decide) tw_2_9 rfl rfl dX6_comingWith_27 ?_
          refine zget S uw_X5 hE hP 2 9 rfl rfl (by decide) tw_1_58 rfl rfl dX6_comingWith_30 ?_
          refine lv_iload hx hb dX6_comingWith_33 (lv_at hl 4 rfl) ?_
          obtain ⟨hin_6, hf⟩ := zz_gd_use hf
          refine zild hx hb hE hP 10 rfl (zz_in_ok hin_6) dX6_comingWith_35 ?_
          refine lv_aload_n hx hb dX6_comingWith_36 rfl (lv_at hl 0 rfl) ?_
          refine zget S uw_X6 hE hP 0 0 rfl rfl (by decide) tw_2_9 rfl rfl dX6_comingWith_37 ?_
          refine zget S uw_X5 hE hP 2 9 rfl rfl (by decide) tw_1_58 rfl rfl dX6_comingWith_40 ?_
          refine lv_iload_n hx hb dX6_comingWith_43 rfl (lv_at hl 2 rfl) ?_
          obtain ⟨hin_7, hf⟩ := zz_gd_use hf
          refine zild hx hb hE hP 10 rfl (zz_in_ok hin_7) dX6_comingWith_44 ?_
          refine lv_icmp_ne (tgt := 51) hx hb dX6_comingWith_45 (by decide) (fun hc_8 => ?_) (fun hc_8 => ?_)
          · have hf := zz_if hf hc_8
            exact hJ_10 v3_2 ls hf (lv_sub hl [0, 1, 2, 3, 4] rfl)
          · have hf := zz_it hf hc_8
            obtain ⟨v3_9, ev3_9, hf⟩ := zz_let_use hf
            refine lv_iinc (v := v3_9) (lv' := [(3, .int v3_9), (0, .ref t0), (1, .int p1), (2, .int p2), (4, .int v4_3)]) hx hb dX6_comingWith_48 hl (k := 3) rfl (by rw [← ev3_9]; rfl) (by decide) rfl (fun ls hl => ?_)
            exact hJ_10 v3_9 ls hf (lv_sub hl [1, 2, 3, 0, 4] rfl)
  exact hL_1 N (0 : Int32) (0 : Int32) ls hf (lv_sub hl [2, 3, 4, 1, 0] rfl)
def f_X6_allHaveNames_L2 (N : Nat) (k_1 : Option (Int32)) (t_rooms : Nat → Int32) (n_hopeDays : Nat → Int32) (n_hopeCount : Int32) (p1 : Int32) : Nat → (Int32) → Option (Int32)
  | 0, _ => none
  | n_1 + 1, v2_2 => (if n_hopeCount ≤ v2_2 then k_1 else zz_let (zz_let (v2_2 + (1 : Int32)) (fun v2_9 => (f_X6_allHaveNames_L2 N k_1 t_rooms n_hopeDays n_hopeCount p1 n_1 v2_9))) (fun k_8 => (if ((p1 >>> (v2_2 &&& 31)) &&& (1 : Int32)) = 0 then k_8 else zz_b1 (f_X6_comingWith N n_hopeDays n_hopeCount p1 v2_2) (fun r_5 => zz_gd (zz_in v2_2 6) ((if r_5 ≤ (t_rooms v2_2.toNatClampNeg) then k_8 else (some (0 : Int32))))))))
theorem f_X6_allHaveNames_L2_s (N : Nat) (k_1 : Option (Int32)) (t_rooms : Nat → Int32) (n_hopeDays : Nat → Int32) (n_hopeCount : Int32) (p1 : Int32) (n_1 : Nat) (v2_2 : Int32) : f_X6_allHaveNames_L2 N k_1 t_rooms n_hopeDays n_hopeCount p1 (n_1 + 1) v2_2 = (if n_hopeCount ≤ v2_2 then k_1 else zz_let (zz_let (v2_2 + (1 : Int32)) (fun v2_9 => (f_X6_allHaveNames_L2 N k_1 t_rooms n_hopeDays n_hopeCount p1 n_1 v2_9))) (fun k_8 => (if ((p1 >>> (v2_2 &&& 31)) &&& (1 : Int32)) = 0 then k_8 else zz_b1 (f_X6_comingWith N n_hopeDays n_hopeCount p1 v2_2) (fun r_5 => zz_gd (zz_in v2_2 6) ((if r_5 ≤ (t_rooms v2_2.toNatClampNeg) then k_8 else (some (0 : Int32)))))))) := rfl
def f_X6_allHaveNames (N : Nat) (t_rooms : Nat → Int32) (n_hopeDays : Nat → Int32) (n_hopeCount : Int32) (p1 : Int32) : Option (Int32) := zz_let ((some (1 : Int32))) (fun k_1 => f_X6_allHaveNames_L2 N k_1 t_rooms n_hopeDays n_hopeCount p1 N (0 : Int32))
abbrev rm_X6_allHaveNames : Room := { frames := 1, cells := 0, slots := 0, locals := 24 }
theorem mi_X6_allHaveNames : zMI RX6 yX6_allHaveNames cX6_allHaveNames 3 (some .boolean) 1 := ⟨⟨tw_3_169, ts_X6_allHaveNames, tw_1_1, tw_3_170⟩, by decide +kernel, by decide +kernel, by decide +kernel⟩
set_option maxHeartbeats 4000000 in
set_option maxRecDepth 100000 in
theorem k_X6_allHaveNames (l : Launch) (D : va_G) (c : Nat → ClassId) (N : Nat) (t0 : Nat) (n0 : Nat) (tA_images : Nat) (r0 : Nat) (m0 : Nat) (h0 : Nat) (o0 : Nat) (sA : Nat) (tA_rooms : Nat) (t_rooms : Nat → Int32) (n0_x : Nat) (nA_numbers : Nat) (nA_syllables : Nat) (nA_days : Nat) (nA_words : Nat) (nA_parents : Nat) (nA_otherParents : Nat) (nA_kinds : Nat) (nA_hopeDays : Nat) (nA_hopeTenths : Nat) (n_numbers : Nat → Int32) (n_syllables : Nat → Int64) (n_syllableCount : Int32) (n_days : Nat → Int32) (n_words : Nat → Int64) (n_parents : Nat → Int32) (n_otherParents : Nat → Int32) (n_kinds : Nat → Int32) (n_personCount : Int32) (n_hopeDays : Nat → Int32) (n_hopeTenths : Nat → Int32) (n_hopeCount : Int32) (n_degreesTold : Int32) (p1 : Int32) (o : Int32) (hf : f_X6_allHaveNames N t_rooms n_hopeDays n_hopeCount p1 = some o) : zMPi l D c yX6_allHaveNames cX6_allHaveNames 3 (some .boolean) rm_X6_allHaveNames (wX6 c t0 n0 tA_images r0 m0 h0 o0 sA tA_rooms t_rooms ++ wX5 c n0 nA_numbers nA_syllables nA_days nA_words nA_parents nA_otherParents nA_kinds nA_hopeDays nA_hopeTenths n_numbers n_syllables n_syllableCount n_days n_words n_parents n_otherParents n_kinds n_personCount n_hopeDays n_hopeTenths n_hopeCount n_degreesTold) [.ref t0, .int p1] o := by
  refine zIP (by decide) (Nat.le_of_ble_eq_true rfl) ?_
  intro p e s m args below meth c0 Q hQ hx hb hr hlk hml hts hown hP hE hX hS ls hl
  have S : CallFix p m c0 cX6_allHaveNames 3 s args zT RX6 := ⟨hx, hb, hml, hown, hts⟩
  have hl : lv_has ls 3 [(0, .ref t0), (1, .int p1)] := hl
  unfold f_X6_allHaveNames at hf
  refine lv_iconst (v := (0 : Int32)) hx hb dX6_allHaveNames_0 (by decide) ?_
  refine lv_istore_n (lv' := [(2, .int (0 : Int32)), (0, .ref t0), (1, .int p1)]) hx hb dX6_allHaveNames_1 rfl hl (by decide) rfl (fun ls hl => ?_)
  obtain ⟨k_1, hk_1, hf⟩ := zz_let_use hf
  have hX_1 : ∀ (ls : Array Slot), k_1 = some o → lv_has ls 3 [] → W p l e rm_X6_allHaveNames s m args below meth c0 s.heap [] 0 0 Q (F0 m 44 ls []) := by
    intro ls hf hl
    subst hk_1
    refine lv_iconst (v := (1 : Int32)) hx hb dX6_allHaveNames_44 (by decide) ?_
    exact zRPz hQ hx hb hr hlk rfl (Option.some.inj hf) dX6_allHaveNames_45
  have hL_1 : ∀ (n_1 : Nat) (v2_2 : Int32) (ls : Array Slot), f_X6_allHaveNames_L2 N k_1 t_rooms n_hopeDays n_hopeCount p1 n_1 v2_2 = some o → lv_has ls 3 [(0, .ref t0), (1, .int p1), (2, .int v2_2)] → W p l e rm_X6_allHaveNames s m args below meth c0 s.heap [] 0 0 Q (F0 m 2 ls []) := by
    intro n_1
    induction n_1 with
    | zero => intro v2_2 ls hf hl; exact zz_none hf
    | succ n_1 ih_1 =>
      intro v2_2 ls hf hl
      rw [f_X6_allHaveNames_L2_s] at hf
      refine lv_iload_n hx hb dX6_allHaveNames_2 rfl (lv_at hl 2 rfl) ?_
      refine lv_aload_n hx hb dX6_allHaveNames_3 rfl (lv_at hl 0 rfl) ?_
      refine zget S uw_X6 hE hP 0 0 rfl rfl (by decide) tw_2_9 rfl rfl dX6_allHaveNames_4 ?_
      refine zget S uw_X5 hE hP 2 11 rfl rfl (by decide) tw_1_63 rfl rfl dX6_allHaveNames_7 ?_
      refine lv_icmp_ge (tgt := 44) hx hb dX6_allHaveNames_10 (by decide) (fun hc_3 => ?_) (fun hc_3 => ?_)
      · have hf := zz_it hf hc_3
        exact hX_1 ls hf (lv_sub hl [] rfl)
      · have hf := zz_if hf hc_3
        refine lv_iload_n hx hb dX6_allHaveNames_13 rfl (lv_at hl 1 rfl) ?_
        refine lv_iload_n hx hb dX6_allHaveNames_14 rfl (lv_at hl 2 rfl) ?_
        refine lv_ishr hx hb dX6_allHaveNames_15 ?_
        refine lv_iconst (v := (1 : Int32)) hx hb dX6_allHaveNames_16 (by decide) ?_
        refine lv_iand hx hb dX6_allHaveNames_17 ?_
        obtain ⟨k_8, hk_8, hf⟩ := zz_let_use hf
        have hJ_8 : ∀ (ls : Array Slot), k_8 = some o → lv_has ls 3 [(0, .ref t0), (1, .int p1), (2, .int v2_2)] → W p l e rm_X6_allHaveNames s m args below meth c0 s.heap [] 0 0 Q (F0 m 38 ls []) := by
          intro ls hf hl
          subst hk_8
          obtain ⟨v2_9, ev2_9, hf⟩ := zz_let_use hf
          refine lv_iinc (v := v2_9) (lv' := [(2, .int v2_9), (0, .ref t0), (1, .int p1)]) hx hb dX6_allHaveNames_38 hl (k := 2) rfl (by rw [← ev2_9]; rfl) (by decide) rfl (fun ls hl => ?_)
          refine lv_goto (tgt := 2) hx hb dX6_allHaveNames_41 (by decide) ?_
          exact ih_1 v2_9 ls hf (lv_sub hl [1, 2, 0] rfl)
        refine lv_if_eq (tgt := 38) hx hb dX6_allHaveNames_18 (by decide) (fun hc_4 => ?_) (fun hc_4 => ?_)
        · have hf := zz_it hf hc_4
          exact hJ_8 ls hf (lv_sub hl [0, 1, 2] rfl)
        · have hf := zz_if hf hc_4
          refine lv_aload_n hx hb dX6_allHaveNames_21 rfl (lv_at hl 0 rfl) ?_
          refine lv_iload_n hx hb dX6_allHaveNames_22 rfl (lv_at hl 1 rfl) ?_
          refine lv_iload_n hx hb dX6_allHaveNames_23 rfl (lv_at hl 2 rfl) ?_
          obtain ⟨r_5, he_5, hf⟩ := zz_b1_use hf
          refine zcVi (As := [.int p1, .int v2_2]) (rest := []) S (k_X6_comingWith l D c N t0 n0 tA_images r0 m0 h0 o0 sA tA_rooms t_rooms n0 nA_numbers nA_syllables nA_days nA_words nA_parents nA_otherParents nA_kinds nA_hopeDays nA_hopeTenths n_numbers n_syllables n_syllableCount n_days n_words n_parents n_otherParents n_kinds n_personCount n_hopeDays n_hopeTenths n_hopeCount n_degreesTold p1 v2_2 r_5 he_5) mi_X6_comingWith tw_3_171 ⟨(Nat.le_of_ble_eq_true rfl), (Nat.le_of_ble_eq_true rfl)⟩ ⟨rfl, rfl⟩ hP hE hX hS (ci := 6) rfl rfl (q0 := 0) rfl rfl hl.1 rfl (Nat.le_of_ble_eq_true rfl) dX6_allHaveNames_24 ⟨(Nat.le_of_ble_eq_true rfl), (Nat.le_of_ble_eq_true rfl)⟩ ?_
          refine lv_aload_n hx hb dX6_allHaveNames_27 rfl (lv_at hl 0 rfl) ?_
          refine zget S uw_X6 hE hP 0 7 rfl rfl (by decide) tw_2_16 rfl rfl dX6_allHaveNames_28 ?_
          refine lv_iload_n hx hb dX6_allHaveNames_31 rfl (lv_at hl 2 rfl) ?_
          obtain ⟨hin_6, hf⟩ := zz_gd_use hf
          refine zild hx hb hE hP 1 rfl (zz_in_ok hin_6) dX6_allHaveNames_32 ?_
          refine lv_icmp_le (tgt := 38) hx hb dX6_allHaveNames_33 (by decide) (fun hc_7 => ?_) (fun hc_7 => ?_)
          · have hf := zz_it hf hc_7
            exact hJ_8 ls hf (lv_sub hl [0, 1, 2] rfl)
          · have hf := zz_if hf hc_7
            refine lv_iconst (v := (0 : Int32)) hx hb dX6_allHaveNames_36 (by decide) ?_
            exact zRPz hQ hx hb hr hlk rfl (Option.some.inj hf) dX6_allHaveNames_37
  exact hL_1 N (0 : Int32) ls hf (lv_sub hl [1, 2, 0] rfl)
def f_X6_waysOfComing_L5 (N : Nat) (k_1 : (Int64) → Option (Int64)) (n_hopeTenths : Nat → Int32) (n_hopeCount : Int32) (p1 : Int32) : Nat → (Int64) → (Int32) → Option (Int64)
  | 0, _, _ => none
  | n_1 + 1, v2_2, v4_3 => (if n_hopeCount ≤ v4_3 then (k_1 v2_2) else zz_gd (zz_in v4_3 6) (zz_let (n_hopeTenths v4_3.toNatClampNeg) (fun v5_6 => zz_let (fun (q_9 : Int64) => zz_let (v2_2 * q_9) (fun v2_10 => zz_let (v4_3 + (1 : Int32)) (fun v4_11 => (f_X6_waysOfComing_L5 N k_1 n_hopeTenths n_hopeCount p1 n_1 v2_10 v4_11)))) (fun k_8 => (if ((p1 >>> (v4_3 &&& 31)) &&& (1 : Int32)) = 0 then (k_8 (((10 : Int32) - v5_6).toInt64)) else (k_8 v5_6.toInt64))))))
theorem f_X6_waysOfComing_L5_s (N : Nat) (k_1 : (Int64) → Option (Int64)) (n_hopeTenths : Nat → Int32) (n_hopeCount : Int32) (p1 : Int32) (n_1 : Nat) (v2_2 : Int64) (v4_3 : Int32) : f_X6_waysOfComing_L5 N k_1 n_hopeTenths n_hopeCount p1 (n_1 + 1) v2_2 v4_3 = (if n_hopeCount ≤ v4_3 then (k_1 v2_2) else zz_gd (zz_in v4_3 6) (zz_let (n_hopeTenths v4_3.toNatClampNeg) (fun v5_6 => zz_let (fun (q_9 : Int64) => zz_let (v2_2 * q_9) (fun v2_10 => zz_let (v4_3 + (1 : Int32)) (fun v4_11 => (f_X6_waysOfComing_L5 N k_1 n_hopeTenths n_hopeCount p1 n_1 v2_10 v4_11)))) (fun k_8 => (if ((p1 >>> (v4_3 &&& 31)) &&& (1 : Int32)) = 0 then (k_8 (((10 : Int32) - v5_6).toInt64)) else (k_8 v5_6.toInt64)))))) := rfl
def f_X6_waysOfComing (N : Nat) (n_hopeTenths : Nat → Int32) (n_hopeCount : Int32) (p1 : Int32) : Option (Int64) := zz_let (fun (v2_12 : Int64) => (some v2_12)) (fun k_1 => f_X6_waysOfComing_L5 N k_1 n_hopeTenths n_hopeCount p1 N (1 : Int64) (0 : Int32))
abbrev rm_X6_waysOfComing : Room := { frames := 0, cells := 0, slots := 0, locals := 0 }
theorem mi_X6_waysOfComing : zMI RX6 yX6_waysOfComing cX6_waysOfComing 6 (some .long) 1 := ⟨⟨tw_3_177, ts_X6_waysOfComing, tw_1_1, tw_3_178⟩, by decide +kernel, by decide +kernel, by decide +kernel⟩
set_option maxHeartbeats 4000000 in
set_option maxRecDepth 100000 in
theorem k_X6_waysOfComing (l : Launch) (D : va_G) (c : Nat → ClassId) (N : Nat) (t0 : Nat) (n0 : Nat) (tA_images : Nat) (r0 : Nat) (m0 : Nat) (h0 : Nat) (o0 : Nat) (sA : Nat) (tA_rooms : Nat) (t_rooms : Nat → Int32) (n0_x : Nat) (nA_numbers : Nat) (nA_syllables : Nat) (nA_days : Nat) (nA_words : Nat) (nA_parents : Nat) (nA_otherParents : Nat) (nA_kinds : Nat) (nA_hopeDays : Nat) (nA_hopeTenths : Nat) (n_numbers : Nat → Int32) (n_syllables : Nat → Int64) (n_syllableCount : Int32) (n_days : Nat → Int32) (n_words : Nat → Int64) (n_parents : Nat → Int32) (n_otherParents : Nat → Int32) (n_kinds : Nat → Int32) (n_personCount : Int32) (n_hopeDays : Nat → Int32) (n_hopeTenths : Nat → Int32) (n_hopeCount : Int32) (n_degreesTold : Int32) (p1 : Int32) (o : Int64) (hf : f_X6_waysOfComing N n_hopeTenths n_hopeCount p1 = some o) : zMPl l D c yX6_waysOfComing cX6_waysOfComing 6 (some .long) rm_X6_waysOfComing (wX6 c t0 n0 tA_images r0 m0 h0 o0 sA tA_rooms t_rooms ++ wX5 c n0 nA_numbers nA_syllables nA_days nA_words nA_parents nA_otherParents nA_kinds nA_hopeDays nA_hopeTenths n_numbers n_syllables n_syllableCount n_days n_words n_parents n_otherParents n_kinds n_personCount n_hopeDays n_hopeTenths n_hopeCount n_degreesTold) [.ref t0, .int p1] o := by
  refine zIP (by decide) (Nat.le_of_ble_eq_true rfl) ?_
  intro p e s m args below meth c0 Q hQ hx hb hr hlk hml hts hown hP hE hX hS ls hl
  have S : CallFix p m c0 cX6_waysOfComing 6 s args zT RX6 := ⟨hx, hb, hml, hown, hts⟩
  have hl : lv_has ls 6 [(0, .ref t0), (1, .int p1)] := hl
  unfold f_X6_waysOfComing at hf
  refine lv_lconst (v := (1 : Int64)) hx hb dX6_waysOfComing_0 (by decide) ?_
  refine lv_lstore_n (lv' := [(2, .long (1 : Int64)), (0, .ref t0), (1, .int p1)]) hx hb dX6_waysOfComing_1 rfl hl (by decide) rfl (fun ls hl => ?_)
  refine lv_iconst (v := (0 : Int32)) hx hb dX6_waysOfComing_2 (by decide) ?_
  refine lv_istore (lv' := [(4, .int (0 : Int32)), (2, .long (1 : Int64)), (0, .ref t0), (1, .int p1)]) hx hb dX6_waysOfComing_3 hl (by decide) rfl (fun ls hl => ?_)
  obtain ⟨k_1, hk_1, hf⟩ := zz_let_use hf
  have hX_1 : ∀ (v2_12 : Int64) (ls : Array Slot), k_1 v2_12 = some o → lv_has ls 6 [(2, .long v2_12)] → W p l e rm_X6_waysOfComing s m args below meth c0 s.heap [] 0 0 Q (F0 m 59 ls []) := by
    intro v2_12 ls hf hl
    subst hk_1
    refine lv_lload_n hx hb dX6_waysOfComing_59 rfl (lv_at hl 0 rfl) ?_
    exact zRPl hQ hx hb hr hlk (Option.some.inj hf) dX6_waysOfComing_60
  have hL_1 : ∀ (n_1 : Nat) (v2_2 : Int64) (v4_3 : Int32) (ls : Array Slot), f_X6_waysOfComing_L5 N k_1 n_hopeTenths n_hopeCount p1 n_1 v2_2 v4_3 = some o → lv_has ls 6 [(0, .ref t0), (1, .int p1), (2, .long v2_2), (4, .int v4_3)] → W p l e rm_X6_waysOfComing s m args below meth c0 s.heap [] 0 0 Q (F0 m 5 ls []) := by
    intro n_1
    induction n_1 with
    | zero => intro v2_2 v4_3 ls hf hl; exact zz_none hf
    | succ n_1 ih_1 =>
      intro v2_2 v4_3 ls hf hl
      rw [f_X6_waysOfComing_L5_s] at hf
      refine lv_iload hx hb dX6_waysOfComing_5 (lv_at hl 3 rfl) ?_
      refine lv_aload_n hx hb dX6_waysOfComing_7 rfl (lv_at hl 0 rfl) ?_
      refine zget S uw_X6 hE hP 0 0 rfl rfl (by decide) tw_2_9 rfl rfl dX6_waysOfComing_8 ?_
      refine zget S uw_X5 hE hP 2 11 rfl rfl (by decide) tw_1_63 rfl rfl dX6_waysOfComing_11 ?_
      refine lv_icmp_ge (tgt := 59) hx hb dX6_waysOfComing_14 (by decide) (fun hc_4 => ?_) (fun hc_4 => ?_)
      · have hf := zz_it hf hc_4
        exact hX_1 v2_2 ls hf (lv_sub hl [2] rfl)
      · have hf := zz_if hf hc_4
        refine lv_aload_n hx hb dX6_waysOfComing_17 rfl (lv_at hl 0 rfl) ?_
        refine zget S uw_X6 hE hP 0 0 rfl rfl (by decide) tw_2_9 rfl rfl dX6_waysOfComing_18 ?_
        refine zget S uw_X5 hE hP 2 10 rfl rfl (by decide) tw_1_60 rfl rfl dX6_waysOfComing_21 ?_
        refine lv_iload hx hb dX6_waysOfComing_24 (lv_at hl 3 rfl) ?_
        obtain ⟨hin_5, hf⟩ := zz_gd_use hf
        refine zild hx hb hE hP 11 rfl (zz_in_ok hin_5) dX6_waysOfComing_26 ?_
        obtain ⟨v5_6, ev5_6, hf⟩ := zz_let_use hf
        refine zti ev5_6 ?_
        refine lv_istore (lv' := [(5, .int v5_6), (0, .ref t0), (1, .int p1), (2, .long v2_2), (4, .int v4_3)]) hx hb dX6_waysOfComing_27 hl (by decide) rfl (fun ls hl => ?_)
        refine lv_lload_n hx hb dX6_waysOfComing_29 rfl (lv_at hl 3 rfl) ?_
        refine lv_iload_n hx hb dX6_waysOfComing_30 rfl (lv_at hl 2 rfl) ?_
        refine lv_iload hx hb dX6_waysOfComing_31 (lv_at hl 4 rfl) ?_
        refine lv_ishr hx hb dX6_waysOfComing_33 ?_
        refine lv_iconst (v := (1 : Int32)) hx hb dX6_waysOfComing_34 (by decide) ?_
        refine lv_iand hx hb dX6_waysOfComing_35 ?_
        obtain ⟨k_8, hk_8, hf⟩ := zz_let_use hf
        have hJ_8 : ∀ (q_9 : Int64) (ls : Array Slot), k_8 q_9 = some o → lv_has ls 6 [(0, .ref t0), (1, .int p1), (4, .int v4_3)] → W p l e rm_X6_waysOfComing s m args below meth c0 s.heap [] 0 0 Q (F0 m 51 ls [.long q_9, .long v2_2]) := by
          intro q_9 ls hf hl
          subst hk_8
          refine lv_lmul hx hb dX6_waysOfComing_51 ?_
          obtain ⟨v2_10, ev2_10, hf⟩ := zz_let_use hf
          refine ztl ev2_10 ?_
          refine lv_lstore_n (lv' := [(2, .long v2_10), (0, .ref t0), (1, .int p1), (4, .int v4_3)]) hx hb dX6_waysOfComing_52 rfl hl (by decide) rfl (fun ls hl => ?_)
          obtain ⟨v4_11, ev4_11, hf⟩ := zz_let_use hf
          refine lv_iinc (v := v4_11) (lv' := [(4, .int v4_11), (2, .long v2_10), (0, .ref t0), (1, .int p1)]) hx hb dX6_waysOfComing_53 hl (k := 3) rfl (by rw [← ev4_11]; rfl) (by decide) rfl (fun ls hl => ?_)
          refine lv_goto (tgt := 5) hx hb dX6_waysOfComing_56 (by decide) ?_
          exact ih_1 v2_10 v4_11 ls hf (lv_sub hl [2, 3, 1, 0] rfl)
        refine lv_if_eq (tgt := 45) hx hb dX6_waysOfComing_36 (by decide) (fun hc_7 => ?_) (fun hc_7 => ?_)
        · have hf := zz_it hf hc_7
          refine lv_bipush (v := (10 : Int32)) hx hb dX6_waysOfComing_45 (by decide) ?_
          refine lv_iload hx hb dX6_waysOfComing_47 (lv_at hl 0 rfl) ?_
          refine lv_isub hx hb dX6_waysOfComing_49 ?_
          refine lv_i2l (v := ((10 : Int32) - v5_6).toInt64) hx hb dX6_waysOfComing_50 rfl ?_
          exact hJ_8 (((10 : Int32) - v5_6).toInt64) ls hf (lv_sub hl [1, 2, 4] rfl)
        · have hf := zz_if hf hc_7
          refine lv_iload hx hb dX6_waysOfComing_39 (lv_at hl 0 rfl) ?_
          refine lv_i2l (v := v5_6.toInt64) hx hb dX6_waysOfComing_41 rfl ?_
          refine lv_goto (tgt := 51) hx hb dX6_waysOfComing_42 (by decide) ?_
          exact hJ_8 v5_6.toInt64 ls hf (lv_sub hl [1, 2, 4] rfl)
  exact hL_1 N (1 : Int64) (0 : Int32) ls hf (lv_sub hl [2, 3, 1, 0] rfl)
def f_X6_waysWithNames_L4 (N : Nat) (k_1 : (Int64) → Option (Int64)) (t_rooms : Nat → Int32) (n_hopeDays : Nat → Int32) (n_hopeTenths : Nat → Int32) (n_hopeCount : Int32) : Nat → (Int64) → (Int32) → Option (Int64)
  | 0, _, _ => none
  | n_1 + 1, v1_2, v3_3 => (if ((1 : Int32) <<< (n_hopeCount &&& 31)) ≤ v3_3 then (k_1 v1_2) else zz_b1 (f_X6_allHaveNames N t_rooms n_hopeDays n_hopeCount v3_3) (fun r_5 => zz_let (fun (v1_10 : Int64) => zz_let (v3_3 + (1 : Int32)) (fun v3_11 => (f_X6_waysWithNames_L4 N k_1 t_rooms n_hopeDays n_hopeTenths n_hopeCount n_1 v1_10 v3_11))) (fun k_9 => (if r_5 = 0 then (k_9 v1_2) else zz_b1 (f_X6_waysOfComing N n_hopeTenths n_hopeCount v3_3) (fun r_7 => zz_let (v1_2 + r_7) (fun v1_8 => (k_9 v1_8)))))))
theorem f_X6_waysWithNames_L4_s (N : Nat) (k_1 : (Int64) → Option (Int64)) (t_rooms : Nat → Int32) (n_hopeDays : Nat → Int32) (n_hopeTenths : Nat → Int32) (n_hopeCount : Int32) (n_1 : Nat) (v1_2 : Int64) (v3_3 : Int32) : f_X6_waysWithNames_L4 N k_1 t_rooms n_hopeDays n_hopeTenths n_hopeCount (n_1 + 1) v1_2 v3_3 = (if ((1 : Int32) <<< (n_hopeCount &&& 31)) ≤ v3_3 then (k_1 v1_2) else zz_b1 (f_X6_allHaveNames N t_rooms n_hopeDays n_hopeCount v3_3) (fun r_5 => zz_let (fun (v1_10 : Int64) => zz_let (v3_3 + (1 : Int32)) (fun v3_11 => (f_X6_waysWithNames_L4 N k_1 t_rooms n_hopeDays n_hopeTenths n_hopeCount n_1 v1_10 v3_11))) (fun k_9 => (if r_5 = 0 then (k_9 v1_2) else zz_b1 (f_X6_waysOfComing N n_hopeTenths n_hopeCount v3_3) (fun r_7 => zz_let (v1_2 + r_7) (fun v1_8 => (k_9 v1_8))))))) := rfl
def f_X6_waysWithNames (N : Nat) (t_rooms : Nat → Int32) (n_hopeDays : Nat → Int32) (n_hopeTenths : Nat → Int32) (n_hopeCount : Int32) : Option (Int64) := zz_let (fun (v1_12 : Int64) => (some v1_12)) (fun k_1 => f_X6_waysWithNames_L4 N k_1 t_rooms n_hopeDays n_hopeTenths n_hopeCount N (0 : Int64) (0 : Int32))
abbrev rm_X6_waysWithNames : Room := { frames := 2, cells := 0, slots := 0, locals := 46 }
theorem mi_X6_waysWithNames : zMI RX6 yX6_waysWithNames cX6_waysWithNames 4 (some .long) 0 := ⟨⟨tw_3_165, ts_X6_waysWithNames, tw_1_1, tw_3_166⟩, by decide +kernel, by decide +kernel, by decide +kernel⟩
set_option maxHeartbeats 4000000 in
set_option maxRecDepth 100000 in
theorem k_X6_waysWithNames (l : Launch) (D : va_G) (c : Nat → ClassId) (N : Nat) (t0 : Nat) (n0 : Nat) (tA_images : Nat) (r0 : Nat) (m0 : Nat) (h0 : Nat) (o0 : Nat) (sA : Nat) (tA_rooms : Nat) (t_rooms : Nat → Int32) (n0_x : Nat) (nA_numbers : Nat) (nA_syllables : Nat) (nA_days : Nat) (nA_words : Nat) (nA_parents : Nat) (nA_otherParents : Nat) (nA_kinds : Nat) (nA_hopeDays : Nat) (nA_hopeTenths : Nat) (n_numbers : Nat → Int32) (n_syllables : Nat → Int64) (n_syllableCount : Int32) (n_days : Nat → Int32) (n_words : Nat → Int64) (n_parents : Nat → Int32) (n_otherParents : Nat → Int32) (n_kinds : Nat → Int32) (n_personCount : Int32) (n_hopeDays : Nat → Int32) (n_hopeTenths : Nat → Int32) (n_hopeCount : Int32) (n_degreesTold : Int32)  (o : Int64) (hf : f_X6_waysWithNames N t_rooms n_hopeDays n_hopeTenths n_hopeCount = some o) : zMPl l D c yX6_waysWithNames cX6_waysWithNames 4 (some .long) rm_X6_waysWithNames (wX6 c t0 n0 tA_images r0 m0 h0 o0 sA tA_rooms t_rooms ++ wX5 c n0 nA_numbers nA_syllables nA_days nA_words nA_parents nA_otherParents nA_kinds nA_hopeDays nA_hopeTenths n_numbers n_syllables n_syllableCount n_days n_words n_parents n_otherParents n_kinds n_personCount n_hopeDays n_hopeTenths n_hopeCount n_degreesTold) [.ref t0] o := by
  refine zIP (by decide) (Nat.le_of_ble_eq_true rfl) ?_
  intro p e s m args below meth c0 Q hQ hx hb hr hlk hml hts hown hP hE hX hS ls hl
  have S : CallFix p m c0 cX6_waysWithNames 4 s args zT RX6 := ⟨hx, hb, hml, hown, hts⟩
  have hl : lv_has ls 4 [(0, .ref t0)] := hl
  unfold f_X6_waysWithNames at hf
  refine lv_lconst (v := (0 : Int64)) hx hb dX6_waysWithNames_0 (by decide) ?_
  refine lv_lstore_n (lv' := [(1, .long (0 : Int64)), (0, .ref t0)]) hx hb dX6_waysWithNames_1 rfl hl (by decide) rfl (fun ls hl => ?_)
  refine lv_iconst (v := (0 : Int32)) hx hb dX6_waysWithNames_2 (by decide) ?_
  refine lv_istore_n (lv' := [(3, .int (0 : Int32)), (1, .long (0 : Int64)), (0, .ref t0)]) hx hb dX6_waysWithNames_3 rfl hl (by decide) rfl (fun ls hl => ?_)
  obtain ⟨k_1, hk_1, hf⟩ := zz_let_use hf
  have hX_1 : ∀ (v1_12 : Int64) (ls : Array Slot), k_1 v1_12 = some o → lv_has ls 4 [(1, .long v1_12)] → W p l e rm_X6_waysWithNames s m args below meth c0 s.heap [] 0 0 Q (F0 m 39 ls []) := by
    intro v1_12 ls hf hl
    subst hk_1
    refine lv_lload_n hx hb dX6_waysWithNames_39 rfl (lv_at hl 0 rfl) ?_
    exact zRPl hQ hx hb hr hlk (Option.some.inj hf) dX6_waysWithNames_40
  have hL_1 : ∀ (n_1 : Nat) (v1_2 : Int64) (v3_3 : Int32) (ls : Array Slot), f_X6_waysWithNames_L4 N k_1 t_rooms n_hopeDays n_hopeTenths n_hopeCount n_1 v1_2 v3_3 = some o → lv_has ls 4 [(0, .ref t0), (1, .long v1_2), (3, .int v3_3)] → W p l e rm_X6_waysWithNames s m args below meth c0 s.heap [] 0 0 Q (F0 m 4 ls []) := by
    intro n_1
    induction n_1 with
    | zero => intro v1_2 v3_3 ls hf hl; exact zz_none hf
    | succ n_1 ih_1 =>
      intro v1_2 v3_3 ls hf hl
      rw [f_X6_waysWithNames_L4_s] at hf
      refine lv_iload_n hx hb dX6_waysWithNames_4 rfl (lv_at hl 2 rfl) ?_
      refine lv_iconst (v := (1 : Int32)) hx hb dX6_waysWithNames_5 (by decide) ?_
      refine lv_aload_n hx hb dX6_waysWithNames_6 rfl (lv_at hl 0 rfl) ?_
      refine zget S uw_X6 hE hP 0 0 rfl rfl (by decide) tw_2_9 rfl rfl dX6_waysWithNames_7 ?_
      refine zget S uw_X5 hE hP 2 11 rfl rfl (by decide) tw_1_63 rfl rfl dX6_waysWithNames_10 ?_
      refine lv_ishl hx hb dX6_waysWithNames_13 ?_
      refine lv_icmp_ge (tgt := 39) hx hb dX6_waysWithNames_14 (by decide) (fun hc_4 => ?_) (fun hc_4 => ?_)
      · have hf := zz_it hf hc_4
        exact hX_1 v1_2 ls hf (lv_sub hl [1] rfl)
      · have hf := zz_if hf hc_4
        refine lv_aload_n hx hb dX6_waysWithNames_17 rfl (lv_at hl 0 rfl) ?_
        refine lv_iload_n hx hb dX6_waysWithNames_18 rfl (lv_at hl 2 rfl) ?_
        obtain ⟨r_5, he_5, hf⟩ := zz_b1_use hf
        refine zcVi (As := [.int v3_3]) (rest := []) S (k_X6_allHaveNames l D c N t0 n0 tA_images r0 m0 h0 o0 sA tA_rooms t_rooms n0 nA_numbers nA_syllables nA_days nA_words nA_parents nA_otherParents nA_kinds nA_hopeDays nA_hopeTenths n_numbers n_syllables n_syllableCount n_days n_words n_parents n_otherParents n_kinds n_personCount n_hopeDays n_hopeTenths n_hopeCount n_degreesTold v3_3 r_5 he_5) mi_X6_allHaveNames tw_3_167 ⟨(Nat.le_of_ble_eq_true rfl), (Nat.le_of_ble_eq_true rfl)⟩ ⟨rfl, rfl⟩ hP hE hX hS (ci := 6) rfl rfl (q0 := 0) rfl rfl hl.1 rfl (Nat.le_of_ble_eq_true rfl) dX6_waysWithNames_19 ⟨(Nat.le_of_ble_eq_true rfl), (Nat.le_of_ble_eq_true rfl)⟩ ?_
        obtain ⟨k_9, hk_9, hf⟩ := zz_let_use hf
        have hJ_9 : ∀ (v1_10 : Int64) (ls : Array Slot), k_9 v1_10 = some o → lv_has ls 4 [(0, .ref t0), (1, .long v1_10), (3, .int v3_3)] → W p l e rm_X6_waysWithNames s m args below meth c0 s.heap [] 0 0 Q (F0 m 33 ls []) := by
          intro v1_10 ls hf hl
          subst hk_9
          obtain ⟨v3_11, ev3_11, hf⟩ := zz_let_use hf
          refine lv_iinc (v := v3_11) (lv' := [(3, .int v3_11), (0, .ref t0), (1, .long v1_10)]) hx hb dX6_waysWithNames_33 hl (k := 2) rfl (by rw [← ev3_11]; rfl) (by decide) rfl (fun ls hl => ?_)
          refine lv_goto (tgt := 4) hx hb dX6_waysWithNames_36 (by decide) ?_
          exact ih_1 v1_10 v3_11 ls hf (lv_sub hl [1, 2, 0] rfl)
        refine lv_if_eq (tgt := 33) hx hb dX6_waysWithNames_22 (by decide) (fun hc_6 => ?_) (fun hc_6 => ?_)
        · have hf := zz_it hf hc_6
          exact hJ_9 v1_2 ls hf (lv_sub hl [0, 1, 2] rfl)
        · have hf := zz_if hf hc_6
          refine lv_lload_n hx hb dX6_waysWithNames_25 rfl (lv_at hl 1 rfl) ?_
          refine lv_aload_n hx hb dX6_waysWithNames_26 rfl (lv_at hl 0 rfl) ?_
          refine lv_iload_n hx hb dX6_waysWithNames_27 rfl (lv_at hl 2 rfl) ?_
          obtain ⟨r_7, he_7, hf⟩ := zz_b1_use hf
          refine zcVl (As := [.int v3_3]) (rest := [.long v1_2]) S (k_X6_waysOfComing l D c N t0 n0 tA_images r0 m0 h0 o0 sA tA_rooms t_rooms n0 nA_numbers nA_syllables nA_days nA_words nA_parents nA_otherParents nA_kinds nA_hopeDays nA_hopeTenths n_numbers n_syllables n_syllableCount n_days n_words n_parents n_otherParents n_kinds n_personCount n_hopeDays n_hopeTenths n_hopeCount n_degreesTold v3_3 r_7 he_7) mi_X6_waysOfComing tw_3_175 ⟨(Nat.le_of_ble_eq_true rfl), (Nat.le_of_ble_eq_true rfl)⟩ ⟨rfl, rfl⟩ hP hE hX hS (ci := 6) rfl rfl (q0 := 0) rfl rfl hl.1 rfl (Nat.le_of_ble_eq_true rfl) dX6_waysWithNames_28 ⟨(Nat.le_of_ble_eq_true rfl), (Nat.le_of_ble_eq_true rfl)⟩ ?_
          refine lv_ladd hx hb dX6_waysWithNames_31 ?_
          obtain ⟨v1_8, ev1_8, hf⟩ := zz_let_use hf
          refine ztl ev1_8 ?_
          refine lv_lstore_n (lv' := [(1, .long v1_8), (0, .ref t0), (3, .int v3_3)]) hx hb dX6_waysWithNames_32 rfl hl (by decide) rfl (fun ls hl => ?_)
          exact hJ_9 v1_8 ls hf (lv_sub hl [1, 0, 2] rfl)
  exact hL_1 N (0 : Int64) (0 : Int32) ls hf (lv_sub hl [2, 1, 0] rfl)
def f_X6_hopes_L67 (N : Nat) (k_19 : (Int64) → Option (Int64 × (Nat → Int32) × (Nat → Int64) × (Int32) × (Nat → Int64) × (Nat → Int64) × (Nat → Int32) × (Int32) × (Int32) × (Int32))) (n_hopeCount : Int32) : Nat → (Int64) → (Int32) → Option (Int64 × (Nat → Int32) × (Nat → Int64) × (Int32) × (Nat → Int64) × (Nat → Int64) × (Nat → Int32) × (Int32) × (Int32) × (Int32))
  | 0, _, _ => none
  | n_19 + 1, v6_20, v8_21 => (if n_hopeCount ≤ v8_21 then (k_19 v6_20) else zz_let (v6_20 * (10 : Int64)) (fun v6_23 => zz_let (v8_21 + (1 : Int32)) (fun v8_24 => (f_X6_hopes_L67 N k_19 n_hopeCount n_19 v6_23 v8_24))))
theorem f_X6_hopes_L67_s (N : Nat) (k_19 : (Int64) → Option (Int64 × (Nat → Int32) × (Nat → Int64) × (Int32) × (Nat → Int64) × (Nat → Int64) × (Nat → Int32) × (Int32) × (Int32) × (Int32))) (n_hopeCount : Int32) (n_19 : Nat) (v6_20 : Int64) (v8_21 : Int32) : f_X6_hopes_L67 N k_19 n_hopeCount (n_19 + 1) v6_20 v8_21 = (if n_hopeCount ≤ v8_21 then (k_19 v6_20) else zz_let (v6_20 * (10 : Int64)) (fun v6_23 => zz_let (v8_21 + (1 : Int32)) (fun v8_24 => (f_X6_hopes_L67 N k_19 n_hopeCount n_19 v6_23 v8_24)))) := rfl
def f_X6_hopes (N : Nat) (t_rooms : Nat → Int32) (n_numbers : Nat → Int32) (n_syllables : Nat → Int64) (n_syllableCount : Int32) (n_words : Nat → Int64) (n_parents : Nat → Int32) (n_otherParents : Nat → Int32) (n_kinds : Nat → Int32) (n_personCount : Int32) (n_hopeDays : Nat → Int32) (n_hopeTenths : Nat → Int32) (n_hopeCount : Int32) (n_degreesTold : Int32) (m_codes : Nat → Int64) (m_size : Int32) (m_partCodes : Nat → Int64) (m_partShifts : Nat → Int64) (m_partSums : Nat → Int32) (m_partCount : Int32) (m_wantedDay : Int32) (m_divisorsWanted : Int32) (p1 : Int32) (p2 : Int32) (p3 : Int32) : Option (Int64 × (Nat → Int32) × (Nat → Int64) × (Int32) × (Nat → Int64) × (Nat → Int64) × (Nat → Int32) × (Int32) × (Int32) × (Int32)) := zz_b1 (f_X5_isPerson N n_personCount p1) (fun r_1 => (if r_1 = 0 then (some ((-2 : Int64), t_rooms, m_codes, m_size, m_partCodes, m_partShifts, m_partSums, m_partCount, m_wantedDay, m_divisorsWanted)) else zz_b1 (f_X5_isPerson N n_personCount p2) (fun r_3 => (if r_3 = 0 then (some ((-2 : Int64), t_rooms, m_codes, m_size, m_partCodes, m_partShifts, m_partSums, m_partCount, m_wantedDay, m_divisorsWanted)) else (if p1 = p2 then (some ((-3 : Int64), t_rooms, m_codes, m_size, m_partCodes, m_partShifts, m_partSums, m_partCount, m_wantedDay, m_divisorsWanted)) else zz_b1 (f_X6_isZeroOrOne N p3) (fun r_6 => (if r_6 = 0 then (some ((-3 : Int64), t_rooms, m_codes, m_size, m_partCodes, m_partShifts, m_partSums, m_partCount, m_wantedDay, m_divisorsWanted)) else zz_b1 (f_X5_nearChildOf N n_parents n_otherParents n_kinds n_personCount n_degreesTold p1 p2) (fun r_8 => zz_b9 (f_X6_findRooms N t_rooms n_numbers n_syllables n_syllableCount n_words n_personCount n_hopeDays n_hopeCount m_codes m_size m_partCodes m_partShifts m_partSums m_partCount m_wantedDay m_divisorsWanted r_8) (fun t_rooms_9 m_codes_10 m_size_11 m_partCodes_12 m_partShifts_13 m_partSums_14 m_partCount_15 m_wantedDay_16 m_divisorsWanted_17 => zz_b1 (f_X6_waysWithNames N t_rooms_9 n_hopeDays n_hopeTenths n_hopeCount) (fun r_18 => zz_let (fun (v6_25 : Int64) => zz_b1 (f_X6_commonDivisor N r_18 v6_25) (fun r_26 => zz_let (fun (q_29 : Int64) => zz_gd (zz_nzL r_26) ((some (q_29 / r_26, t_rooms_9, m_codes_10, m_size_11, m_partCodes_12, m_partShifts_13, m_partSums_14, m_partCount_15, m_wantedDay_16, m_divisorsWanted_17)))) (fun k_28 => (if p3 = 0 then (k_28 r_18) else (k_28 v6_25))))) (fun k_19 => f_X6_hopes_L67 N k_19 n_hopeCount N (1 : Int64) (0 : Int32))))))))))))
abbrev rm_X6_hopes : Room := { frames := 8, cells := 0, slots := 0, locals := 209 }
theorem mi_X6_hopes : zMI RX6 yX6_hopes cX6_hopes 10 (some .long) 3 := ⟨⟨tw_3_149, tw_3_150, tw_1_1, tw_3_151⟩, by decide +kernel, by decide +kernel, by decide +kernel⟩
set_option maxHeartbeats 4000000 in
set_option maxRecDepth 100000 in
theorem k_X6_hopes (l : Launch) (D : va_G) (c : Nat → ClassId) (N : Nat) (t0 : Nat) (n0 : Nat) (tA_images : Nat) (r0 : Nat) (m0 : Nat) (h0 : Nat) (o0 : Nat) (sA : Nat) (tA_rooms : Nat) (t_rooms : Nat → Int32) (n0_x : Nat) (nA_numbers : Nat) (nA_syllables : Nat) (nA_days : Nat) (nA_words : Nat) (nA_parents : Nat) (nA_otherParents : Nat) (nA_kinds : Nat) (nA_hopeDays : Nat) (nA_hopeTenths : Nat) (n_numbers : Nat → Int32) (n_syllables : Nat → Int64) (n_syllableCount : Int32) (n_days : Nat → Int32) (n_words : Nat → Int64) (n_parents : Nat → Int32) (n_otherParents : Nat → Int32) (n_kinds : Nat → Int32) (n_personCount : Int32) (n_hopeDays : Nat → Int32) (n_hopeTenths : Nat → Int32) (n_hopeCount : Int32) (n_degreesTold : Int32) (m0_x : Nat) (mA_codes : Nat) (mA_partCodes : Nat) (mA_partShifts : Nat) (mA_partSums : Nat) (m_codes : Nat → Int64) (m_size : Int32) (m_partCodes : Nat → Int64) (m_partShifts : Nat → Int64) (m_partSums : Nat → Int32) (m_partCount : Int32) (m_wantedDay : Int32) (m_divisorsWanted : Int32) (p1 : Int32) (p2 : Int32) (p3 : Int32) (o : Int64) (o_t_rooms : Nat → Int32) (o_m_codes : Nat → Int64) (o_m_size : Int32) (o_m_partCodes : Nat → Int64) (o_m_partShifts : Nat → Int64) (o_m_partSums : Nat → Int32) (o_m_partCount : Int32) (o_m_wantedDay : Int32) (o_m_divisorsWanted : Int32) (hf : f_X6_hopes N t_rooms n_numbers n_syllables n_syllableCount n_words n_parents n_otherParents n_kinds n_personCount n_hopeDays n_hopeTenths n_hopeCount n_degreesTold m_codes m_size m_partCodes m_partShifts m_partSums m_partCount m_wantedDay m_divisorsWanted p1 p2 p3 = some (o, o_t_rooms, o_m_codes, o_m_size, o_m_partCodes, o_m_partShifts, o_m_partSums, o_m_partCount, o_m_wantedDay, o_m_divisorsWanted)) : zMWl l D c yX6_hopes cX6_hopes 10 (some .long) rm_X6_hopes (wX6 c t0 n0 tA_images r0 m0 h0 o0 sA tA_rooms t_rooms ++ wX5 c n0 nA_numbers nA_syllables nA_days nA_words nA_parents nA_otherParents nA_kinds nA_hopeDays nA_hopeTenths n_numbers n_syllables n_syllableCount n_days n_words n_parents n_otherParents n_kinds n_personCount n_hopeDays n_hopeTenths n_hopeCount n_degreesTold ++ wX0 c m0 mA_codes mA_partCodes mA_partShifts mA_partSums m_codes m_size m_partCodes m_partShifts m_partSums m_partCount m_wantedDay m_divisorsWanted) (wX6 c t0 n0 tA_images r0 m0 h0 o0 sA tA_rooms o_t_rooms ++ wX5 c n0 nA_numbers nA_syllables nA_days nA_words nA_parents nA_otherParents nA_kinds nA_hopeDays nA_hopeTenths n_numbers n_syllables n_syllableCount n_days n_words n_parents n_otherParents n_kinds n_personCount n_hopeDays n_hopeTenths n_hopeCount n_degreesTold ++ wX0 c m0 mA_codes mA_partCodes mA_partShifts mA_partSums o_m_codes o_m_size o_m_partCodes o_m_partShifts o_m_partSums o_m_partCount o_m_wantedDay o_m_divisorsWanted) [.ref t0, .int p1, .int p2, .int p3] o := by
  intro sz
  refine zIW (by decide) (Nat.le_of_ble_eq_true rfl) ?_
  intro p e s m args below meth c0 Q A hAe hQ hx hb hr hlk hml hts hown hP hE hD hS hA hsz hmn hX ls hl
  rw [← hAe] at hQ
  have S : CallFix p m c0 cX6_hopes 10 s args zT RX6 := ⟨hx, hb, hml, hown, hts⟩
  have hl : lv_has ls 10 [(0, .ref t0), (1, .int p1), (2, .int p2), (3, .int p3)] := hl
  unfold f_X6_hopes at hf
  refine lv_aload_n hx hb dX6_hopes_0 rfl (lv_at hl 0 rfl) ?_
  refine zget S uw_X6 hE hP 0 0 rfl rfl (by decide) tw_2_9 rfl rfl dX6_hopes_1 ?_
  refine lv_iload_n hx hb dX6_hopes_4 rfl (lv_at hl 1 rfl) ?_
  obtain ⟨r_1, he_1, hf⟩ := zz_b1_use hf
  refine zcVi (As := [.int p1]) (rest := []) S (k_X5_isPerson l D c N n0 nA_numbers nA_syllables nA_days nA_words nA_parents nA_otherParents nA_kinds nA_hopeDays nA_hopeTenths n_numbers n_syllables n_syllableCount n_days n_words n_parents n_otherParents n_kinds n_personCount n_hopeDays n_hopeTenths n_hopeCount n_degreesTold p1 r_1 he_1) mi_X5_isPerson tw_2_238 ⟨(Nat.le_of_ble_eq_true rfl), (Nat.le_of_ble_eq_true rfl)⟩ ⟨rfl, rfl⟩ (zpsub (is := [2, 3, 4, 5, 6, 7, 8, 9, 10, 11]) hP rfl) hE hX hS (ci := 5) rfl rfl (q0 := 0) rfl rfl hl.1 rfl (Nat.le_of_ble_eq_true rfl) dX6_hopes_5 ⟨(Nat.le_of_ble_eq_true rfl), (Nat.le_of_ble_eq_true rfl)⟩ ?_
  refine lv_if_eq (tgt := 22) hx hb dX6_hopes_8 (by decide) (fun hc_2 => ?_) (fun hc_2 => ?_)
  · have hf := zz_it hf hc_2
    refine lv_ldc2 (v := (-2 : Int64)) hx hb hown (hts _ tw_3_18) dX6_hopes_22 ?_
    cases hf
    exact zRWl hQ hx hb hr hlk rfl hP hD hS dX6_hopes_25
  · have hf := zz_if hf hc_2
    refine lv_aload_n hx hb dX6_hopes_11 rfl (lv_at hl 0 rfl) ?_
    refine zget S uw_X6 hE hP 0 0 rfl rfl (by decide) tw_2_9 rfl rfl dX6_hopes_12 ?_
    refine lv_iload_n hx hb dX6_hopes_15 rfl (lv_at hl 2 rfl) ?_
    obtain ⟨r_3, he_3, hf⟩ := zz_b1_use hf
    refine zcVi (As := [.int p2]) (rest := []) S (k_X5_isPerson l D c N n0 nA_numbers nA_syllables nA_days nA_words nA_parents nA_otherParents nA_kinds nA_hopeDays nA_hopeTenths n_numbers n_syllables n_syllableCount n_days n_words n_parents n_otherParents n_kinds n_personCount n_hopeDays n_hopeTenths n_hopeCount n_degreesTold p2 r_3 he_3) mi_X5_isPerson tw_2_238 ⟨(Nat.le_of_ble_eq_true rfl), (Nat.le_of_ble_eq_true rfl)⟩ ⟨rfl, rfl⟩ (zpsub (is := [2, 3, 4, 5, 6, 7, 8, 9, 10, 11]) hP rfl) hE hX hS (ci := 5) rfl rfl (q0 := 0) rfl rfl hl.1 rfl (Nat.le_of_ble_eq_true rfl) dX6_hopes_16 ⟨(Nat.le_of_ble_eq_true rfl), (Nat.le_of_ble_eq_true rfl)⟩ ?_
    refine lv_if_ne (tgt := 26) hx hb dX6_hopes_19 (by decide) (fun hc_4 => ?_) (fun hc_4 => ?_)
    · have hf := zz_if hf hc_4
      refine lv_iload_n hx hb dX6_hopes_26 rfl (lv_at hl 1 rfl) ?_
      refine lv_iload_n hx hb dX6_hopes_27 rfl (lv_at hl 2 rfl) ?_
      refine lv_icmp_eq (tgt := 38) hx hb dX6_hopes_28 (by decide) (fun hc_5 => ?_) (fun hc_5 => ?_)
      · have hf := zz_it hf hc_5
        refine lv_ldc2 (v := (-3 : Int64)) hx hb hown (hts _ tw_3_137) dX6_hopes_38 ?_
        cases hf
        exact zRWl hQ hx hb hr hlk rfl hP hD hS dX6_hopes_41
      · have hf := zz_if hf hc_5
        refine lv_iload_n hx hb dX6_hopes_31 rfl (lv_at hl 3 rfl) ?_
        obtain ⟨r_6, he_6, hf⟩ := zz_b1_use hf
        refine zcSi (As := [.int p3]) (rest := []) S (k_X6_isZeroOrOne l D c N  p3 r_6 he_6) mi_X6_isZeroOrOne tw_3_152 ⟨(Nat.le_of_ble_eq_true rfl), (Nat.le_of_ble_eq_true rfl)⟩ ⟨rfl, rfl⟩ (zpnil) hE hX hS rfl hl.1 rfl (Nat.le_of_ble_eq_true rfl) dX6_hopes_32 ⟨(Nat.le_of_ble_eq_true rfl), (Nat.le_of_ble_eq_true rfl)⟩ ?_
        refine lv_if_ne (tgt := 42) hx hb dX6_hopes_35 (by decide) (fun hc_7 => ?_) (fun hc_7 => ?_)
        · have hf := zz_if hf hc_7
          refine lv_aload_n hx hb dX6_hopes_42 rfl (lv_at hl 0 rfl) ?_
          refine lv_aload_n hx hb dX6_hopes_43 rfl (lv_at hl 0 rfl) ?_
          refine zget S uw_X6 hE hP 0 0 rfl rfl (by decide) tw_2_9 rfl rfl dX6_hopes_44 ?_
          refine lv_iload_n hx hb dX6_hopes_47 rfl (lv_at hl 1 rfl) ?_
          refine lv_iload_n hx hb dX6_hopes_48 rfl (lv_at hl 2 rfl) ?_
          obtain ⟨r_8, he_8, hf⟩ := zz_b1_use hf
          refine zcVi (As := [.int p1, .int p2]) (rest := [.ref t0]) S (k_X5_nearChildOf l D c N n0 nA_numbers nA_syllables nA_days nA_words nA_parents nA_otherParents nA_kinds nA_hopeDays nA_hopeTenths n_numbers n_syllables n_syllableCount n_days n_words n_parents n_otherParents n_kinds n_personCount n_hopeDays n_hopeTenths n_hopeCount n_degreesTold p1 p2 r_8 he_8) mi_X5_nearChildOf tw_3_155 ⟨(Nat.le_of_ble_eq_true rfl), (Nat.le_of_ble_eq_true rfl)⟩ ⟨rfl, rfl⟩ (zpsub (is := [2, 3, 4, 5, 6, 7, 8, 9, 10, 11]) hP rfl) hE hX hS (ci := 5) rfl rfl (q0 := 0) rfl rfl hl.1 rfl (Nat.le_of_ble_eq_true rfl) dX6_hopes_49 ⟨(Nat.le_of_ble_eq_true rfl), (Nat.le_of_ble_eq_true rfl)⟩ ?_
          obtain ⟨t_rooms_9, m_codes_10, m_size_11, m_partCodes_12, m_partShifts_13, m_partSums_14, m_partCount_15, m_wantedDay_16, m_divisorsWanted_17, he_17, hf⟩ := zz_b9_use hf
          refine zwVv (As := [.int r_8]) (rest := []) (wr := []) (wX6 c t0 n0 tA_images r0 m0 h0 o0 sA tA_rooms t_rooms_9 ++ wX5 c n0 nA_numbers nA_syllables nA_days nA_words nA_parents nA_otherParents nA_kinds nA_hopeDays nA_hopeTenths n_numbers n_syllables n_syllableCount n_days n_words n_parents n_otherParents n_kinds n_personCount n_hopeDays n_hopeTenths n_hopeCount n_degreesTold ++ wX0 c m0 mA_codes mA_partCodes mA_partShifts mA_partSums m_codes_10 m_size_11 m_partCodes_12 m_partShifts_13 m_partSums_14 m_partCount_15 m_wantedDay_16 m_divisorsWanted_17) [0, 1, 2, 3, 4, 5, 6, 7, 8, 9, 10, 11, 12, 13, 14, 15, 16] [] [0, 1, 2, 3, 4, 5, 6, 7, 8, 9, 10, 11, 12, 13, 14, 15, 16] S (k_X6_findRooms l D c N t0 n0 tA_images r0 m0 h0 o0 sA tA_rooms t_rooms n0 nA_numbers nA_syllables nA_days nA_words nA_parents nA_otherParents nA_kinds nA_hopeDays nA_hopeTenths n_numbers n_syllables n_syllableCount n_days n_words n_parents n_otherParents n_kinds n_personCount n_hopeDays n_hopeTenths n_hopeCount n_degreesTold m0 mA_codes mA_partCodes mA_partShifts mA_partSums m_codes m_size m_partCodes m_partShifts m_partSums m_partCount m_wantedDay m_divisorsWanted r_8 t_rooms_9 m_codes_10 m_size_11 m_partCodes_12 m_partShifts_13 m_partSums_14 m_partCount_15 m_wantedDay_16 m_divisorsWanted_17 he_17) mi_X6_findRooms tw_3_159 ⟨(Nat.le_of_ble_eq_true rfl), (Nat.le_of_ble_eq_true rfl)⟩ ⟨rfl, rfl⟩ hP hD hS hA rfl rfl rfl rfl (by decide) rfl rfl hE hX (ci := 6) rfl rfl (q0 := 0) rfl rfl hl.1 rfl (Nat.le_of_ble_eq_true rfl) dX6_hopes_52 ⟨(Nat.le_of_ble_eq_true rfl), (Nat.le_of_ble_eq_true rfl)⟩ (fun H locs hP hD hS => ?_)
          refine lv_aload_n hx hb dX6_hopes_55 rfl (lv_at hl 0 rfl) ?_
          obtain ⟨r_18, he_18, hf⟩ := zz_b1_use hf
          refine zcVl (As := []) (rest := []) S (k_X6_waysWithNames l D c N t0 n0 tA_images r0 m0 h0 o0 sA tA_rooms t_rooms_9 n0 nA_numbers nA_syllables nA_days nA_words nA_parents nA_otherParents nA_kinds nA_hopeDays nA_hopeTenths n_numbers n_syllables n_syllableCount n_days n_words n_parents n_otherParents n_kinds n_personCount n_hopeDays n_hopeTenths n_hopeCount n_degreesTold  r_18 he_18) mi_X6_waysWithNames tw_3_163 ⟨(Nat.le_of_ble_eq_true rfl), (Nat.le_of_ble_eq_true rfl)⟩ ⟨rfl, rfl⟩ (zpsub (is := [0, 1, 2, 3, 4, 5, 6, 7, 8, 9, 10, 11]) hP rfl) hE hX hS (ci := 6) rfl rfl (q0 := 0) rfl rfl hl.1 rfl (Nat.le_of_ble_eq_true rfl) dX6_hopes_56 ⟨(Nat.le_of_ble_eq_true rfl), (Nat.le_of_ble_eq_true rfl)⟩ ?_
          refine lv_lstore (lv' := [(4, .long r_18), (0, .ref t0), (1, .int p1), (2, .int p2), (3, .int p3)]) hx hb dX6_hopes_59 hl (by decide) rfl (fun ls hl => ?_)
          refine lv_lconst (v := (1 : Int64)) hx hb dX6_hopes_61 (by decide) ?_
          refine lv_lstore (lv' := [(6, .long (1 : Int64)), (4, .long r_18), (0, .ref t0), (1, .int p1), (2, .int p2), (3, .int p3)]) hx hb dX6_hopes_62 hl (by decide) rfl (fun ls hl => ?_)
          refine lv_iconst (v := (0 : Int32)) hx hb dX6_hopes_64 (by decide) ?_
          refine lv_istore (lv' := [(8, .int (0 : Int32)), (6, .long (1 : Int64)), (4, .long r_18), (0, .ref t0), (1, .int p1), (2, .int p2), (3, .int p3)]) hx hb dX6_hopes_65 hl (by decide) rfl (fun ls hl => ?_)
          obtain ⟨k_19, hk_19, hf⟩ := zz_let_use hf
          have hX_19 : ∀ (v6_25 : Int64) (H : Heap) (locs : List Loc) (ls : Array Slot), k_19 v6_25 = some (o, o_t_rooms, o_m_codes, o_m_size, o_m_partCodes, o_m_partShifts, o_m_partSums, o_m_partCount, o_m_wantedDay, o_m_divisorsWanted) → va_P D vwCl (wX6 c t0 n0 tA_images r0 m0 h0 o0 sA tA_rooms t_rooms_9 ++ wX5 c n0 nA_numbers nA_syllables nA_days nA_words nA_parents nA_otherParents nA_kinds nA_hopeDays nA_hopeTenths n_numbers n_syllables n_syllableCount n_days n_words n_parents n_otherParents n_kinds n_personCount n_hopeDays n_hopeTenths n_hopeCount n_degreesTold ++ wX0 c m0 mA_codes mA_partCodes mA_partShifts mA_partSums m_codes_10 m_size_11 m_partCodes_12 m_partShifts_13 m_partSums_14 m_partCount_15 m_wantedDay_16 m_divisorsWanted_17) H → va_D A (wX6 c t0 n0 tA_images r0 m0 h0 o0 sA tA_rooms t_rooms_9 ++ wX5 c n0 nA_numbers nA_syllables nA_days nA_words nA_parents nA_otherParents nA_kinds nA_hopeDays nA_hopeTenths n_numbers n_syllables n_syllableCount n_days n_words n_parents n_otherParents n_kinds n_personCount n_hopeDays n_hopeTenths n_hopeCount n_degreesTold ++ wX0 c m0 mA_codes mA_partCodes mA_partShifts mA_partSums m_codes_10 m_size_11 m_partCodes_12 m_partShifts_13 m_partSums_14 m_partCount_15 m_wantedDay_16 m_divisorsWanted_17) → va_S A s.heap H locs → lv_has ls 10 [(3, .int p3), (4, .long r_18), (6, .long v6_25)] → W p l e rm_X6_hopes s m args below meth c0 H locs 0 0 Q (F0 m 93 ls []) := by
            intro v6_25 H locs ls hf hP hD hS hl
            subst hk_19
            refine lv_lload hx hb dX6_hopes_93 (lv_at hl 1 rfl) ?_
            refine lv_lload hx hb dX6_hopes_95 (lv_at hl 2 rfl) ?_
            obtain ⟨r_26, he_26, hf⟩ := zz_b1_use hf
            refine zcSl (As := [.long r_18, .long v6_25]) (rest := []) S (k_X6_commonDivisor l D c N  r_18 v6_25 r_26 he_26) mi_X6_commonDivisor tw_3_180 ⟨(Nat.le_of_ble_eq_true rfl), (Nat.le_of_ble_eq_true rfl)⟩ ⟨rfl, rfl⟩ (zpnil) hE hX hS rfl hl.1 rfl (Nat.le_of_ble_eq_true rfl) dX6_hopes_97 ⟨(Nat.le_of_ble_eq_true rfl), (Nat.le_of_ble_eq_true rfl)⟩ ?_
            refine lv_lstore (lv' := [(8, .long r_26), (3, .int p3), (4, .long r_18), (6, .long v6_25)]) hx hb dX6_hopes_100 hl (by decide) rfl (fun ls hl => ?_)
            refine lv_iload_n hx hb dX6_hopes_102 rfl (lv_at hl 1 rfl) ?_
            obtain ⟨k_28, hk_28, hf⟩ := zz_let_use hf
            have hJ_28 : ∀ (q_29 : Int64) (H : Heap) (locs : List Loc) (ls : Array Slot), k_28 q_29 = some (o, o_t_rooms, o_m_codes, o_m_size, o_m_partCodes, o_m_partShifts, o_m_partSums, o_m_partCount, o_m_wantedDay, o_m_divisorsWanted) → va_P D vwCl (wX6 c t0 n0 tA_images r0 m0 h0 o0 sA tA_rooms t_rooms_9 ++ wX5 c n0 nA_numbers nA_syllables nA_days nA_words nA_parents nA_otherParents nA_kinds nA_hopeDays nA_hopeTenths n_numbers n_syllables n_syllableCount n_days n_words n_parents n_otherParents n_kinds n_personCount n_hopeDays n_hopeTenths n_hopeCount n_degreesTold ++ wX0 c m0 mA_codes mA_partCodes mA_partShifts mA_partSums m_codes_10 m_size_11 m_partCodes_12 m_partShifts_13 m_partSums_14 m_partCount_15 m_wantedDay_16 m_divisorsWanted_17) H → va_D A (wX6 c t0 n0 tA_images r0 m0 h0 o0 sA tA_rooms t_rooms_9 ++ wX5 c n0 nA_numbers nA_syllables nA_days nA_words nA_parents nA_otherParents nA_kinds nA_hopeDays nA_hopeTenths n_numbers n_syllables n_syllableCount n_days n_words n_parents n_otherParents n_kinds n_personCount n_hopeDays n_hopeTenths n_hopeCount n_degreesTold ++ wX0 c m0 mA_codes mA_partCodes mA_partShifts mA_partSums m_codes_10 m_size_11 m_partCodes_12 m_partShifts_13 m_partSums_14 m_partCount_15 m_wantedDay_16 m_divisorsWanted_17) → va_S A s.heap H locs → lv_has ls 10 [(8, .long r_26)] → W p l e rm_X6_hopes s m args below meth c0 H locs 0 0 Q (F0 m 113 ls [.long q_29]) := by
              intro q_29 H locs ls hf hP hD hS hl
              subst hk_28
              refine lv_lload hx hb dX6_hopes_113 (lv_at hl 0 rfl) ?_
              obtain ⟨hnz_30, hf⟩ := zz_gd_use hf
              refine lv_ldiv hx hb dX6_hopes_115 (zz_nzL_ok hnz_30) ?_
              cases hf
              exact zRWl hQ hx hb hr hlk rfl hP hD hS dX6_hopes_116
            refine lv_if_ne (tgt := 111) hx hb dX6_hopes_103 (by decide) (fun hc_27 => ?_) (fun hc_27 => ?_)
            · have hf := zz_if hf hc_27
              refine lv_lload hx hb dX6_hopes_111 (lv_at hl 3 rfl) ?_
              exact hJ_28 v6_25 H locs ls hf hP hD hS (lv_sub hl [0] rfl)
            · have hf := zz_it hf hc_27
              refine lv_lload hx hb dX6_hopes_106 (lv_at hl 2 rfl) ?_
              refine lv_goto (tgt := 113) hx hb dX6_hopes_108 (by decide) ?_
              exact hJ_28 r_18 H locs ls hf hP hD hS (lv_sub hl [0] rfl)
          have hL_19 : ∀ (n_19 : Nat) (v6_20 : Int64) (v8_21 : Int32) (H : Heap) (locs : List Loc) (ls : Array Slot), f_X6_hopes_L67 N k_19 n_hopeCount n_19 v6_20 v8_21 = some (o, o_t_rooms, o_m_codes, o_m_size, o_m_partCodes, o_m_partShifts, o_m_partSums, o_m_partCount, o_m_wantedDay, o_m_divisorsWanted) → va_P D vwCl (wX6 c t0 n0 tA_images r0 m0 h0 o0 sA tA_rooms t_rooms_9 ++ wX5 c n0 nA_numbers nA_syllables nA_days nA_words nA_parents nA_otherParents nA_kinds nA_hopeDays nA_hopeTenths n_numbers n_syllables n_syllableCount n_days n_words n_parents n_otherParents n_kinds n_personCount n_hopeDays n_hopeTenths n_hopeCount n_degreesTold ++ wX0 c m0 mA_codes mA_partCodes mA_partShifts mA_partSums m_codes_10 m_size_11 m_partCodes_12 m_partShifts_13 m_partSums_14 m_partCount_15 m_wantedDay_16 m_divisorsWanted_17) H → va_D A (wX6 c t0 n0 tA_images r0 m0 h0 o0 sA tA_rooms t_rooms_9 ++ wX5 c n0 nA_numbers nA_syllables nA_days nA_words nA_parents nA_otherParents nA_kinds nA_hopeDays nA_hopeTenths n_numbers n_syllables n_syllableCount n_days n_words n_parents n_otherParents n_kinds n_personCount n_hopeDays n_hopeTenths n_hopeCount n_degreesTold ++ wX0 c m0 mA_codes mA_partCodes mA_partShifts mA_partSums m_codes_10 m_size_11 m_partCodes_12 m_partShifts_13 m_partSums_14 m_partCount_15 m_wantedDay_16 m_divisorsWanted_17) → va_S A s.heap H locs → lv_has ls 10 [(0, .ref t0), (3, .int p3), (4, .long r_18), (6, .long v6_20), (8, .int v8_21)] → W p l e rm_X6_hopes s m args below meth c0 H locs 0 0 Q (F0 m 67 ls []) := by
            intro n_19
            induction n_19 with
            | zero => intro v6_20 v8_21 H locs ls hf hP hD hS hl; exact zz_none hf
            | succ n_19 ih_19 =>
              intro v6_20 v8_21 H locs ls hf hP hD hS hl
              rw [f_X6_hopes_L67_s] at hf
              refine lv_iload hx hb dX6_hopes_67 (lv_at hl 4 rfl) ?_
              refine lv_aload_n hx hb dX6_hopes_69 rfl (lv_at hl 0 rfl) ?_
              refine zget S uw_X6 hE hP 0 0 rfl rfl (by decide) tw_2_9 rfl rfl dX6_hopes_70 ?_
              refine zget S uw_X5 hE hP 2 11 rfl rfl (by decide) tw_1_63 rfl rfl dX6_hopes_73 ?_
              refine lv_icmp_ge (tgt := 93) hx hb dX6_hopes_76 (by decide) (fun hc_22 => ?_) (fun hc_22 => ?_)
              · have hf := zz_it hf hc_22
                exact hX_19 v6_20 H locs ls hf hP hD hS (lv_sub hl [1, 2, 3] rfl)
              · have hf := zz_if hf hc_22
                refine lv_lload hx hb dX6_hopes_79 (lv_at hl 3 rfl) ?_
                refine lv_ldc2 (v := (10 : Int64)) hx hb hown (hts _ tw_3_179) dX6_hopes_81 ?_
                refine lv_lmul hx hb dX6_hopes_84 ?_
                obtain ⟨v6_23, ev6_23, hf⟩ := zz_let_use hf
                refine ztl ev6_23 ?_
                refine lv_lstore (lv' := [(6, .long v6_23), (0, .ref t0), (3, .int p3), (4, .long r_18), (8, .int v8_21)]) hx hb dX6_hopes_85 hl (by decide) rfl (fun ls hl => ?_)
                obtain ⟨v8_24, ev8_24, hf⟩ := zz_let_use hf
                refine lv_iinc (v := v8_24) (lv' := [(8, .int v8_24), (6, .long v6_23), (0, .ref t0), (3, .int p3), (4, .long r_18)]) hx hb dX6_hopes_87 hl (k := 4) rfl (by rw [← ev8_24]; rfl) (by decide) rfl (fun ls hl => ?_)
                refine lv_goto (tgt := 67) hx hb dX6_hopes_90 (by decide) ?_
                exact ih_19 v6_23 v8_24 H locs ls hf hP hD hS (lv_sub hl [2, 3, 4, 1, 0] rfl)
          exact hL_19 N (1 : Int64) (0 : Int32) H locs ls hf hP hD hS (lv_sub hl [3, 6, 2, 1, 0] rfl)
        · have hf := zz_it hf hc_7
          refine lv_ldc2 (v := (-3 : Int64)) hx hb hown (hts _ tw_3_137) dX6_hopes_38 ?_
          cases hf
          exact zRWl hQ hx hb hr hlk rfl hP hD hS dX6_hopes_41
    · have hf := zz_it hf hc_4
      refine lv_ldc2 (v := (-2 : Int64)) hx hb hown (hts _ tw_3_18) dX6_hopes_22 ?_
      cases hf
      exact zRWl hQ hx hb hr hlk rfl hP hD hS dX6_hopes_25
def f_X6_without (N : Nat) (n_numbers : Nat → Int32) (n_syllables : Nat → Int64) (n_syllableCount : Int32) (h_fewest : Nat → Int32) (p1 : Int32) (p2 : Int32) (p3 : Int32) : Option (Int32 × (Nat → Int32)) := zz_b1 (f_X6_areDays N p1 p2) (fun r_1 => (if r_1 = 0 then (some ((-3 : Int32), h_fewest)) else zz_b1 (f_X6_isZeroOrOne N p3) (fun r_3 => (if r_3 = 0 then (some ((-3 : Int32), h_fewest)) else zz_b1 (f_X2_measure N h_fewest n_numbers n_syllables n_syllableCount) (fun h_fewest_5 => (if p3 = 0 then zz_b1 (f_X2_daysWithout N h_fewest_5 p1 p2) (fun r_8 => (some (r_8, h_fewest_5))) else zz_b1 (f_X2_firstWithout N h_fewest_5 p1 p2) (fun r_7 => (some (r_7, h_fewest_5)))))))))
abbrev rm_X6_without : Room := { frames := 4, cells := 0, slots := 0, locals := 97 }
theorem mi_X6_without : zMI RX6 yX6_without cX6_without 4 (some .int) 3 := ⟨⟨tw_3_187, tw_3_188, tw_1_1, tw_3_189⟩, by decide +kernel, by decide +kernel, by decide +kernel⟩
set_option maxHeartbeats 4000000 in
set_option maxRecDepth 100000 in
theorem k_X6_without (l : Launch) (D : va_G) (c : Nat → ClassId) (N : Nat) (t0 : Nat) (n0 : Nat) (tA_images : Nat) (r0 : Nat) (m0 : Nat) (h0 : Nat) (o0 : Nat) (sA : Nat) (tA_rooms : Nat) (t_rooms : Nat → Int32) (n0_x : Nat) (nA_numbers : Nat) (nA_syllables : Nat) (nA_days : Nat) (nA_words : Nat) (nA_parents : Nat) (nA_otherParents : Nat) (nA_kinds : Nat) (nA_hopeDays : Nat) (nA_hopeTenths : Nat) (n_numbers : Nat → Int32) (n_syllables : Nat → Int64) (n_syllableCount : Int32) (n_days : Nat → Int32) (n_words : Nat → Int64) (n_parents : Nat → Int32) (n_otherParents : Nat → Int32) (n_kinds : Nat → Int32) (n_personCount : Int32) (n_hopeDays : Nat → Int32) (n_hopeTenths : Nat → Int32) (n_hopeCount : Int32) (n_degreesTold : Int32) (h0_x : Nat) (hA_fewest : Nat) (hA_tried : Nat) (h_fewest : Nat → Int32) (h_tried : Nat → Int32) (p1 : Int32) (p2 : Int32) (p3 : Int32) (o : Int32) (o_h_fewest : Nat → Int32) (hf : f_X6_without N n_numbers n_syllables n_syllableCount h_fewest p1 p2 p3 = some (o, o_h_fewest)) : zMWi l D c yX6_without cX6_without 4 (some .int) rm_X6_without (wX6 c t0 n0 tA_images r0 m0 h0 o0 sA tA_rooms t_rooms ++ wX5 c n0 nA_numbers nA_syllables nA_days nA_words nA_parents nA_otherParents nA_kinds nA_hopeDays nA_hopeTenths n_numbers n_syllables n_syllableCount n_days n_words n_parents n_otherParents n_kinds n_personCount n_hopeDays n_hopeTenths n_hopeCount n_degreesTold ++ wX2 c h0 hA_fewest hA_tried h_fewest h_tried) (wX6 c t0 n0 tA_images r0 m0 h0 o0 sA tA_rooms t_rooms ++ wX5 c n0 nA_numbers nA_syllables nA_days nA_words nA_parents nA_otherParents nA_kinds nA_hopeDays nA_hopeTenths n_numbers n_syllables n_syllableCount n_days n_words n_parents n_otherParents n_kinds n_personCount n_hopeDays n_hopeTenths n_hopeCount n_degreesTold ++ wX2 c h0 hA_fewest hA_tried o_h_fewest h_tried) [.ref t0, .int p1, .int p2, .int p3] o := by
  intro sz
  refine zIW (by decide) (Nat.le_of_ble_eq_true rfl) ?_
  intro p e s m args below meth c0 Q A hAe hQ hx hb hr hlk hml hts hown hP hE hD hS hA hsz hmn hX ls hl
  rw [← hAe] at hQ
  have S : CallFix p m c0 cX6_without 4 s args zT RX6 := ⟨hx, hb, hml, hown, hts⟩
  have hl : lv_has ls 4 [(0, .ref t0), (1, .int p1), (2, .int p2), (3, .int p3)] := hl
  unfold f_X6_without at hf
  refine lv_iload_n hx hb dX6_without_0 rfl (lv_at hl 1 rfl) ?_
  refine lv_iload_n hx hb dX6_without_1 rfl (lv_at hl 2 rfl) ?_
  obtain ⟨r_1, he_1, hf⟩ := zz_b1_use hf
  refine zcSi (As := [.int p1, .int p2]) (rest := []) S (k_X6_areDays l D c N  p1 p2 r_1 he_1) mi_X6_areDays tw_3_190 ⟨(Nat.le_of_ble_eq_true rfl), (Nat.le_of_ble_eq_true rfl)⟩ ⟨rfl, rfl⟩ (zpnil) hE hX hS rfl hl.1 rfl (Nat.le_of_ble_eq_true rfl) dX6_without_2 ⟨(Nat.le_of_ble_eq_true rfl), (Nat.le_of_ble_eq_true rfl)⟩ ?_
  refine lv_if_eq (tgt := 15) hx hb dX6_without_5 (by decide) (fun hc_2 => ?_) (fun hc_2 => ?_)
  · have hf := zz_it hf hc_2
    refine lv_bipush (v := (-3 : Int32)) hx hb dX6_without_15 (by decide) ?_
    cases hf
    exact zRWi hQ hx hb hr hlk rfl hP hD hS dX6_without_17
  · have hf := zz_if hf hc_2
    refine lv_iload_n hx hb dX6_without_8 rfl (lv_at hl 3 rfl) ?_
    obtain ⟨r_3, he_3, hf⟩ := zz_b1_use hf
    refine zcSi (As := [.int p3]) (rest := []) S (k_X6_isZeroOrOne l D c N  p3 r_3 he_3) mi_X6_isZeroOrOne tw_3_152 ⟨(Nat.le_of_ble_eq_true rfl), (Nat.le_of_ble_eq_true rfl)⟩ ⟨rfl, rfl⟩ (zpnil) hE hX hS rfl hl.1 rfl (Nat.le_of_ble_eq_true rfl) dX6_without_9 ⟨(Nat.le_of_ble_eq_true rfl), (Nat.le_of_ble_eq_true rfl)⟩ ?_
    refine lv_if_ne (tgt := 18) hx hb dX6_without_12 (by decide) (fun hc_4 => ?_) (fun hc_4 => ?_)
    · have hf := zz_if hf hc_4
      refine lv_aload_n hx hb dX6_without_18 rfl (lv_at hl 0 rfl) ?_
      refine zget S uw_X6 hE hP 0 4 rfl rfl (by decide) tw_2_13 rfl rfl dX6_without_19 ?_
      refine lv_aload_n hx hb dX6_without_22 rfl (lv_at hl 0 rfl) ?_
      refine zget S uw_X6 hE hP 0 0 rfl rfl (by decide) tw_2_9 rfl rfl dX6_without_23 ?_
      obtain ⟨h_fewest_5, he_5, hf⟩ := zz_b1_use hf
      refine zwVv (As := [.ref n0]) (rest := []) (wr := (wX6 c t0 n0 tA_images r0 m0 h0 o0 sA tA_rooms t_rooms)) (wX6 c t0 n0 tA_images r0 m0 h0 o0 sA tA_rooms t_rooms ++ wX5 c n0 nA_numbers nA_syllables nA_days nA_words nA_parents nA_otherParents nA_kinds nA_hopeDays nA_hopeTenths n_numbers n_syllables n_syllableCount n_days n_words n_parents n_otherParents n_kinds n_personCount n_hopeDays n_hopeTenths n_hopeCount n_degreesTold ++ wX2 c h0 hA_fewest hA_tried h_fewest_5 h_tried) [12, 13, 14, 2, 3, 4, 5, 6, 7, 8, 9, 10, 11] [0, 1] [0, 1, 5, 6, 7, 8, 9, 10, 11, 12, 13, 14, 2, 3, 4] S (k_X2_measure l D c N h0 hA_fewest hA_tried h_fewest h_tried n0 nA_numbers nA_syllables nA_days nA_words nA_parents nA_otherParents nA_kinds nA_hopeDays nA_hopeTenths n_numbers n_syllables n_syllableCount n_days n_words n_parents n_otherParents n_kinds n_personCount n_hopeDays n_hopeTenths n_hopeCount n_degreesTold  h_fewest_5 he_5) mi_X2_measure tw_3_193 ⟨(Nat.le_of_ble_eq_true rfl), (Nat.le_of_ble_eq_true rfl)⟩ ⟨rfl, rfl⟩ hP hD hS hA rfl rfl rfl rfl (by decide) rfl rfl hE hX (ci := 2) rfl rfl (q0 := 0) rfl rfl hl.1 rfl (Nat.le_of_ble_eq_true rfl) dX6_without_26 ⟨(Nat.le_of_ble_eq_true rfl), (Nat.le_of_ble_eq_true rfl)⟩ (fun H locs hP hD hS => ?_)
      refine lv_iload_n hx hb dX6_without_29 rfl (lv_at hl 3 rfl) ?_
      refine lv_if_ne (tgt := 45) hx hb dX6_without_30 (by decide) (fun hc_6 => ?_) (fun hc_6 => ?_)
      · have hf := zz_if hf hc_6
        refine lv_aload_n hx hb dX6_without_45 rfl (lv_at hl 0 rfl) ?_
        refine zget S uw_X6 hE hP 0 4 rfl rfl (by decide) tw_2_13 rfl rfl dX6_without_46 ?_
        refine lv_iload_n hx hb dX6_without_49 rfl (lv_at hl 1 rfl) ?_
        refine lv_iload_n hx hb dX6_without_50 rfl (lv_at hl 2 rfl) ?_
        obtain ⟨r_7, he_7, hf⟩ := zz_b1_use hf
        refine zcVi (As := [.int p1, .int p2]) (rest := []) S (k_X2_firstWithout l D c N h0 hA_fewest hA_tried h_fewest_5 h_tried p1 p2 r_7 he_7) mi_X2_firstWithout tw_3_209 ⟨(Nat.le_of_ble_eq_true rfl), (Nat.le_of_ble_eq_true rfl)⟩ ⟨rfl, rfl⟩ (zpsub (is := [12, 13, 14]) hP rfl) hE hX hS (ci := 2) rfl rfl (q0 := 0) rfl rfl hl.1 rfl (Nat.le_of_ble_eq_true rfl) dX6_without_51 ⟨(Nat.le_of_ble_eq_true rfl), (Nat.le_of_ble_eq_true rfl)⟩ ?_
        cases hf
        exact zRWi hQ hx hb hr hlk rfl hP hD hS dX6_without_54
      · have hf := zz_it hf hc_6
        refine lv_aload_n hx hb dX6_without_33 rfl (lv_at hl 0 rfl) ?_
        refine zget S uw_X6 hE hP 0 4 rfl rfl (by decide) tw_2_13 rfl rfl dX6_without_34 ?_
        refine lv_iload_n hx hb dX6_without_37 rfl (lv_at hl 1 rfl) ?_
        refine lv_iload_n hx hb dX6_without_38 rfl (lv_at hl 2 rfl) ?_
        obtain ⟨r_8, he_8, hf⟩ := zz_b1_use hf
        refine zcVi (As := [.int p1, .int p2]) (rest := []) S (k_X2_daysWithout l D c N h0 hA_fewest hA_tried h_fewest_5 h_tried p1 p2 r_8 he_8) mi_X2_daysWithout tw_3_205 ⟨(Nat.le_of_ble_eq_true rfl), (Nat.le_of_ble_eq_true rfl)⟩ ⟨rfl, rfl⟩ (zpsub (is := [12, 13, 14]) hP rfl) hE hX hS (ci := 2) rfl rfl (q0 := 0) rfl rfl hl.1 rfl (Nat.le_of_ble_eq_true rfl) dX6_without_39 ⟨(Nat.le_of_ble_eq_true rfl), (Nat.le_of_ble_eq_true rfl)⟩ ?_
        refine lv_goto (tgt := 54) hx hb dX6_without_42 (by decide) ?_
        cases hf
        exact zRWi hQ hx hb hr hlk rfl hP hD hS dX6_without_54
    · have hf := zz_it hf hc_4
      refine lv_bipush (v := (-3 : Int32)) hx hb dX6_without_15 (by decide) ?_
      cases hf
      exact zRWi hQ hx hb hr hlk rfl hP hD hS dX6_without_17
def f_X6_mend (N : Nat) (n_numbers : Nat → Int32) (n_syllables : Nat → Int64) (n_syllableCount : Int32) (h_fewest : Nat → Int32) (h_tried : Nat → Int32) (p1 : Int32) (p2 : Int32) : Option (Int64 × (Nat → Int32) × (Nat → Int32)) := zz_b1 (f_X6_areDays N p1 p2) (fun r_1 => (if r_1 = 0 then (some ((-3 : Int64), h_fewest, h_tried)) else zz_b1 (f_X2_measure N h_fewest n_numbers n_syllables n_syllableCount) (fun h_fewest_3 => zz_b1 (f_X2_firstWithout N h_fewest_3 p1 p2) (fun r_4 => (if r_4 = (-1 : Int32) then (some ((0 : Int64), h_fewest_3, h_tried)) else (if n_syllableCount < (10 : Int32) then zz_b2 (f_X2_mendingSyllable N h_fewest_3 h_tried n_numbers p1 p2) (fun r_7 h_tried_8 => (some (r_7, h_fewest_3, h_tried_8))) else (some ((-4 : Int64), h_fewest_3, h_tried))))))))
abbrev rm_X6_mend : Room := { frames := 4, cells := 0, slots := 0, locals := 100 }
theorem mi_X6_mend : zMI RX6 yX6_mend cX6_mend 3 (some .long) 2 := ⟨⟨tw_3_214, tw_3_215, tw_1_1, tw_3_216⟩, by decide +kernel, by decide +kernel, by decide +kernel⟩
set_option maxHeartbeats 4000000 in
set_option maxRecDepth 100000 in
theorem k_X6_mend (l : Launch) (D : va_G) (c : Nat → ClassId) (N : Nat) (t0 : Nat) (n0 : Nat) (tA_images : Nat) (r0 : Nat) (m0 : Nat) (h0 : Nat) (o0 : Nat) (sA : Nat) (tA_rooms : Nat) (t_rooms : Nat → Int32) (n0_x : Nat) (nA_numbers : Nat) (nA_syllables : Nat) (nA_days : Nat) (nA_words : Nat) (nA_parents : Nat) (nA_otherParents : Nat) (nA_kinds : Nat) (nA_hopeDays : Nat) (nA_hopeTenths : Nat) (n_numbers : Nat → Int32) (n_syllables : Nat → Int64) (n_syllableCount : Int32) (n_days : Nat → Int32) (n_words : Nat → Int64) (n_parents : Nat → Int32) (n_otherParents : Nat → Int32) (n_kinds : Nat → Int32) (n_personCount : Int32) (n_hopeDays : Nat → Int32) (n_hopeTenths : Nat → Int32) (n_hopeCount : Int32) (n_degreesTold : Int32) (h0_x : Nat) (hA_fewest : Nat) (hA_tried : Nat) (h_fewest : Nat → Int32) (h_tried : Nat → Int32) (p1 : Int32) (p2 : Int32) (o : Int64) (o_h_fewest : Nat → Int32) (o_h_tried : Nat → Int32) (hf : f_X6_mend N n_numbers n_syllables n_syllableCount h_fewest h_tried p1 p2 = some (o, o_h_fewest, o_h_tried)) : zMWl l D c yX6_mend cX6_mend 3 (some .long) rm_X6_mend (wX6 c t0 n0 tA_images r0 m0 h0 o0 sA tA_rooms t_rooms ++ wX5 c n0 nA_numbers nA_syllables nA_days nA_words nA_parents nA_otherParents nA_kinds nA_hopeDays nA_hopeTenths n_numbers n_syllables n_syllableCount n_days n_words n_parents n_otherParents n_kinds n_personCount n_hopeDays n_hopeTenths n_hopeCount n_degreesTold ++ wX2 c h0 hA_fewest hA_tried h_fewest h_tried) (wX6 c t0 n0 tA_images r0 m0 h0 o0 sA tA_rooms t_rooms ++ wX5 c n0 nA_numbers nA_syllables nA_days nA_words nA_parents nA_otherParents nA_kinds nA_hopeDays nA_hopeTenths n_numbers n_syllables n_syllableCount n_days n_words n_parents n_otherParents n_kinds n_personCount n_hopeDays n_hopeTenths n_hopeCount n_degreesTold ++ wX2 c h0 hA_fewest hA_tried o_h_fewest o_h_tried) [.ref t0, .int p1, .int p2] o := by
  intro sz
  refine zIW (by decide) (Nat.le_of_ble_eq_true rfl) ?_
  intro p e s m args below meth c0 Q A hAe hQ hx hb hr hlk hml hts hown hP hE hD hS hA hsz hmn hX ls hl
  rw [← hAe] at hQ
  have S : CallFix p m c0 cX6_mend 3 s args zT RX6 := ⟨hx, hb, hml, hown, hts⟩
  have hl : lv_has ls 3 [(0, .ref t0), (1, .int p1), (2, .int p2)] := hl
  unfold f_X6_mend at hf
  refine lv_iload_n hx hb dX6_mend_0 rfl (lv_at hl 1 rfl) ?_
  refine lv_iload_n hx hb dX6_mend_1 rfl (lv_at hl 2 rfl) ?_
  obtain ⟨r_1, he_1, hf⟩ := zz_b1_use hf
  refine zcSi (As := [.int p1, .int p2]) (rest := []) S (k_X6_areDays l D c N  p1 p2 r_1 he_1) mi_X6_areDays tw_3_190 ⟨(Nat.le_of_ble_eq_true rfl), (Nat.le_of_ble_eq_true rfl)⟩ ⟨rfl, rfl⟩ (zpnil) hE hX hS rfl hl.1 rfl (Nat.le_of_ble_eq_true rfl) dX6_mend_2 ⟨(Nat.le_of_ble_eq_true rfl), (Nat.le_of_ble_eq_true rfl)⟩ ?_
  refine lv_if_ne (tgt := 12) hx hb dX6_mend_5 (by decide) (fun hc_2 => ?_) (fun hc_2 => ?_)
  · have hf := zz_if hf hc_2
    refine lv_aload_n hx hb dX6_mend_12 rfl (lv_at hl 0 rfl) ?_
    refine zget S uw_X6 hE hP 0 4 rfl rfl (by decide) tw_2_13 rfl rfl dX6_mend_13 ?_
    refine lv_aload_n hx hb dX6_mend_16 rfl (lv_at hl 0 rfl) ?_
    refine zget S uw_X6 hE hP 0 0 rfl rfl (by decide) tw_2_9 rfl rfl dX6_mend_17 ?_
    obtain ⟨h_fewest_3, he_3, hf⟩ := zz_b1_use hf
    refine zwVv (As := [.ref n0]) (rest := []) (wr := (wX6 c t0 n0 tA_images r0 m0 h0 o0 sA tA_rooms t_rooms)) (wX6 c t0 n0 tA_images r0 m0 h0 o0 sA tA_rooms t_rooms ++ wX5 c n0 nA_numbers nA_syllables nA_days nA_words nA_parents nA_otherParents nA_kinds nA_hopeDays nA_hopeTenths n_numbers n_syllables n_syllableCount n_days n_words n_parents n_otherParents n_kinds n_personCount n_hopeDays n_hopeTenths n_hopeCount n_degreesTold ++ wX2 c h0 hA_fewest hA_tried h_fewest_3 h_tried) [12, 13, 14, 2, 3, 4, 5, 6, 7, 8, 9, 10, 11] [0, 1] [0, 1, 5, 6, 7, 8, 9, 10, 11, 12, 13, 14, 2, 3, 4] S (k_X2_measure l D c N h0 hA_fewest hA_tried h_fewest h_tried n0 nA_numbers nA_syllables nA_days nA_words nA_parents nA_otherParents nA_kinds nA_hopeDays nA_hopeTenths n_numbers n_syllables n_syllableCount n_days n_words n_parents n_otherParents n_kinds n_personCount n_hopeDays n_hopeTenths n_hopeCount n_degreesTold  h_fewest_3 he_3) mi_X2_measure tw_3_193 ⟨(Nat.le_of_ble_eq_true rfl), (Nat.le_of_ble_eq_true rfl)⟩ ⟨rfl, rfl⟩ hP hD hS hA rfl rfl rfl rfl (by decide) rfl rfl hE hX (ci := 2) rfl rfl (q0 := 0) rfl rfl hl.1 rfl (Nat.le_of_ble_eq_true rfl) dX6_mend_20 ⟨(Nat.le_of_ble_eq_true rfl), (Nat.le_of_ble_eq_true rfl)⟩ (fun H locs hP hD hS => ?_)
    refine lv_aload_n hx hb dX6_mend_23 rfl (lv_at hl 0 rfl) ?_
    refine zget S uw_X6 hE hP 0 4 rfl rfl (by decide) tw_2_13 rfl rfl dX6_mend_24 ?_
    refine lv_iload_n hx hb dX6_mend_27 rfl (lv_at hl 1 rfl) ?_
    refine lv_iload_n hx hb dX6_mend_28 rfl (lv_at hl 2 rfl) ?_
    obtain ⟨r_4, he_4, hf⟩ := zz_b1_use hf
    refine zcVi (As := [.int p1, .int p2]) (rest := []) S (k_X2_firstWithout l D c N h0 hA_fewest hA_tried h_fewest_3 h_tried p1 p2 r_4 he_4) mi_X2_firstWithout tw_3_209 ⟨(Nat.le_of_ble_eq_true rfl), (Nat.le_of_ble_eq_true rfl)⟩ ⟨rfl, rfl⟩ (zpsub (is := [12, 13, 14]) hP rfl) hE hX hS (ci := 2) rfl rfl (q0 := 0) rfl rfl hl.1 rfl (Nat.le_of_ble_eq_true rfl) dX6_mend_29 ⟨(Nat.le_of_ble_eq_true rfl), (Nat.le_of_ble_eq_true rfl)⟩ ?_
    refine lv_iconst (v := (-1 : Int32)) hx hb dX6_mend_32 (by decide) ?_
    refine lv_icmp_ne (tgt := 38) hx hb dX6_mend_33 (by decide) (fun hc_5 => ?_) (fun hc_5 => ?_)
    · have hf := zz_if hf hc_5
      refine lv_aload_n hx hb dX6_mend_38 rfl (lv_at hl 0 rfl) ?_
      refine zget S uw_X6 hE hP 0 0 rfl rfl (by decide) tw_2_9 rfl rfl dX6_mend_39 ?_
      refine zget S uw_X5 hE hP 2 2 rfl rfl (by decide) tw_1_39 rfl rfl dX6_mend_42 ?_
      refine lv_bipush (v := (10 : Int32)) hx hb dX6_mend_45 (by decide) ?_
      refine lv_icmp_lt (tgt := 56) hx hb dX6_mend_47 (by decide) (fun hc_6 => ?_) (fun hc_6 => ?_)
      · have hf := zz_it hf hc_6
        refine lv_aload_n hx hb dX6_mend_56 rfl (lv_at hl 0 rfl) ?_
        refine zget S uw_X6 hE hP 0 4 rfl rfl (by decide) tw_2_13 rfl rfl dX6_mend_57 ?_
        refine lv_aload_n hx hb dX6_mend_60 rfl (lv_at hl 0 rfl) ?_
        refine zget S uw_X6 hE hP 0 0 rfl rfl (by decide) tw_2_9 rfl rfl dX6_mend_61 ?_
        refine lv_iload_n hx hb dX6_mend_64 rfl (lv_at hl 1 rfl) ?_
        refine lv_iload_n hx hb dX6_mend_65 rfl (lv_at hl 2 rfl) ?_
        obtain ⟨r_7, h_tried_8, he_8, hf⟩ := zz_b2_use hf
        refine zwVl (As := [.ref n0, .int p1, .int p2]) (rest := []) (wr := (wX6 c t0 n0 tA_images r0 m0 h0 o0 sA tA_rooms t_rooms)) (wX6 c t0 n0 tA_images r0 m0 h0 o0 sA tA_rooms t_rooms ++ wX5 c n0 nA_numbers nA_syllables nA_days nA_words nA_parents nA_otherParents nA_kinds nA_hopeDays nA_hopeTenths n_numbers n_syllables n_syllableCount n_days n_words n_parents n_otherParents n_kinds n_personCount n_hopeDays n_hopeTenths n_hopeCount n_degreesTold ++ wX2 c h0 hA_fewest hA_tried h_fewest_3 h_tried_8) [12, 13, 14, 2, 3, 4, 5, 6, 7, 8, 9, 10, 11] [0, 1] [0, 1, 5, 6, 7, 8, 9, 10, 11, 12, 13, 14, 2, 3, 4] S (k_X2_mendingSyllable l D c N h0 hA_fewest hA_tried h_fewest_3 h_tried n0 nA_numbers nA_syllables nA_days nA_words nA_parents nA_otherParents nA_kinds nA_hopeDays nA_hopeTenths n_numbers n_syllables n_syllableCount n_days n_words n_parents n_otherParents n_kinds n_personCount n_hopeDays n_hopeTenths n_hopeCount n_degreesTold p1 p2 r_7 h_tried_8 he_8) mi_X2_mendingSyllable tw_3_218 ⟨(Nat.le_of_ble_eq_true rfl), (Nat.le_of_ble_eq_true rfl)⟩ ⟨rfl, rfl⟩ hP hD hS hA rfl rfl rfl rfl (by decide) rfl rfl hE hX (ci := 2) rfl rfl (q0 := 0) rfl rfl hl.1 rfl (Nat.le_of_ble_eq_true rfl) dX6_mend_66 ⟨(Nat.le_of_ble_eq_true rfl), (Nat.le_of_ble_eq_true rfl)⟩ (fun H locs hP hD hS => ?_)
        cases hf
        exact zRWl hQ hx hb hr hlk rfl hP hD hS dX6_mend_69
      · have hf := zz_if hf hc_6
        refine lv_ldc2 (v := (-4 : Int64)) hx hb hown (hts _ tw_3_217) dX6_mend_50 ?_
        refine lv_goto (tgt := 69) hx hb dX6_mend_53 (by decide) ?_
        cases hf
        exact zRWl hQ hx hb hr hlk rfl hP hD hS dX6_mend_69
    · have hf := zz_it hf hc_5
      refine lv_lconst (v := (0 : Int64)) hx hb dX6_mend_36 (by decide) ?_
      cases hf
      exact zRWl hQ hx hb hr hlk rfl hP hD hS dX6_mend_37
  · have hf := zz_it hf hc_2
    refine lv_ldc2 (v := (-3 : Int64)) hx hb hown (hts _ tw_3_137) dX6_mend_8 ?_
    cases hf
    exact zRWl hQ hx hb hr hlk rfl hP hD hS dX6_mend_11
def f_X6_old (N : Nat) (n_days : Nat → Int32) (n_words : Nat → Int64) (n_personCount : Int32) (o_ways : Int32) (o_letters : Nat → Int32) (o_letterCount : Int32) (o_left : Nat → Int32) (o_wordCount : Int32) (o_given : Nat → Int32) (o_first : Nat → Int32) (o_most : Int32) (x_m : Nat → Nat → Int32) (y_m : Nat → Nat → Int32) (p1 : Int32) (p2 : Int32) : Option (Int32 × (Int32) × (Nat → Int32) × (Int32) × (Nat → Int32) × (Int32) × (Nat → Int32) × (Nat → Int32) × (Int32) × (Nat → Nat → Int32) × (Nat → Nat → Int32)) := zz_let ((if p1 < (1 : Int32) then (some ((-3 : Int32), o_ways, o_letters, o_letterCount, o_left, o_wordCount, o_given, o_first, o_most, x_m, y_m)) else (if p1 ≤ (9 : Int32) then zz_b11 (f_X1_solve N o_letters o_left o_wordCount o_given o_first x_m y_m n_days n_words n_personCount p1) (fun r_7 o_ways_8 o_letters_9 o_letterCount_10 o_left_11 o_wordCount_12 o_given_13 o_first_14 o_most_15 x_m_16 y_m_17 => (if r_7 = 0 then (some ((-4 : Int32), o_ways_8, o_letters_9, o_letterCount_10, o_left_11, o_wordCount_12, o_given_13, o_first_14, o_most_15, x_m_16, y_m_17)) else (if p2 = (-1 : Int32) then (some (o_ways_8, o_ways_8, o_letters_9, o_letterCount_10, o_left_11, o_wordCount_12, o_given_13, o_first_14, o_most_15, x_m_16, y_m_17)) else zz_b1 (f_X1_firstNumberOf N o_ways_8 o_letters_9 o_letterCount_10 o_first_14 p2) (fun r_20 => (some (r_20, o_ways_8, o_letters_9, o_letterCount_10, o_left_11, o_wordCount_12, o_given_13, o_first_14, o_most_15, x_m_16, y_m_17)))))) else (some ((-3 : Int32), o_ways, o_letters, o_letterCount, o_left, o_wordCount, o_given, o_first, o_most, x_m, y_m))))) (fun k_4 => (if p2 = (-1 : Int32) then k_4 else zz_b1 (f_X6_isLetter N p2) (fun r_2 => (if r_2 = 0 then (some ((-2 : Int32), o_ways, o_letters, o_letterCount, o_left, o_wordCount, o_given, o_first, o_most, x_m, y_m)) else k_4))))
abbrev rm_X6_old : Room := { frames := 11, cells := 0, slots := 0, locals := 267 }
theorem mi_X6_old : zMI RX6 yX6_old cX6_old 3 (some .int) 2 := ⟨⟨tw_3_233, tw_3_234, tw_1_1, tw_3_235⟩, by decide +kernel, by decide +kernel, by decide +kernel⟩
set_option maxHeartbeats 4000000 in
set_option maxRecDepth 100000 in
theorem k_X6_old (l : Launch) (D : va_G) (c : Nat → ClassId) (N : Nat) (t0 : Nat) (n0 : Nat) (tA_images : Nat) (r0 : Nat) (m0 : Nat) (h0 : Nat) (o0 : Nat) (sA : Nat) (tA_rooms : Nat) (t_rooms : Nat → Int32) (n0_x : Nat) (nA_numbers : Nat) (nA_syllables : Nat) (nA_days : Nat) (nA_words : Nat) (nA_parents : Nat) (nA_otherParents : Nat) (nA_kinds : Nat) (nA_hopeDays : Nat) (nA_hopeTenths : Nat) (n_numbers : Nat → Int32) (n_syllables : Nat → Int64) (n_syllableCount : Int32) (n_days : Nat → Int32) (n_words : Nat → Int64) (n_parents : Nat → Int32) (n_otherParents : Nat → Int32) (n_kinds : Nat → Int32) (n_personCount : Int32) (n_hopeDays : Nat → Int32) (n_hopeTenths : Nat → Int32) (n_hopeCount : Int32) (n_degreesTold : Int32) (o0_x : Nat) (oA_letters : Nat) (xA : Nat) (yA : Nat) (oA_left : Nat) (oA_given : Nat) (oA_first : Nat) (o_ways : Int32) (o_letters : Nat → Int32) (o_letterCount : Int32) (o_left : Nat → Int32) (o_wordCount : Int32) (o_given : Nat → Int32) (o_first : Nat → Int32) (o_most : Int32) (xA_x : Nat) (xr : Nat → Nat) (x_m : Nat → Nat → Int32) (yA_x : Nat) (yr : Nat → Nat) (y_m : Nat → Nat → Int32) (p1 : Int32) (p2 : Int32) (o : Int32) (o_o_ways : Int32) (o_o_letters : Nat → Int32) (o_o_letterCount : Int32) (o_o_left : Nat → Int32) (o_o_wordCount : Int32) (o_o_given : Nat → Int32) (o_o_first : Nat → Int32) (o_o_most : Int32) (o_x_m : Nat → Nat → Int32) (o_y_m : Nat → Nat → Int32) (hf : f_X6_old N n_days n_words n_personCount o_ways o_letters o_letterCount o_left o_wordCount o_given o_first o_most x_m y_m p1 p2 = some (o, o_o_ways, o_o_letters, o_o_letterCount, o_o_left, o_o_wordCount, o_o_given, o_o_first, o_o_most, o_x_m, o_y_m)) : zMWi l D c yX6_old cX6_old 3 (some .int) rm_X6_old (wX6 c t0 n0 tA_images r0 m0 h0 o0 sA tA_rooms t_rooms ++ wX5 c n0 nA_numbers nA_syllables nA_days nA_words nA_parents nA_otherParents nA_kinds nA_hopeDays nA_hopeTenths n_numbers n_syllables n_syllableCount n_days n_words n_parents n_otherParents n_kinds n_personCount n_hopeDays n_hopeTenths n_hopeCount n_degreesTold ++ wX1 c o0 oA_letters xA yA oA_left oA_given oA_first o_ways o_letters o_letterCount o_left o_wordCount o_given o_first o_most ++ wG c xA xr x_m ++ wG c yA yr y_m) (wX6 c t0 n0 tA_images r0 m0 h0 o0 sA tA_rooms t_rooms ++ wX5 c n0 nA_numbers nA_syllables nA_days nA_words nA_parents nA_otherParents nA_kinds nA_hopeDays nA_hopeTenths n_numbers n_syllables n_syllableCount n_days n_words n_parents n_otherParents n_kinds n_personCount n_hopeDays n_hopeTenths n_hopeCount n_degreesTold ++ wX1 c o0 oA_letters xA yA oA_left oA_given oA_first o_o_ways o_o_letters o_o_letterCount o_o_left o_o_wordCount o_o_given o_o_first o_o_most ++ wG c xA xr o_x_m ++ wG c yA yr o_y_m) [.ref t0, .int p1, .int p2] o := by
  intro sz
  refine zIW (by decide) (Nat.le_of_ble_eq_true rfl) ?_
  intro p e s m args below meth c0 Q A hAe hQ hx hb hr hlk hml hts hown hP hE hD hS hA hsz hmn hX ls hl
  rw [← hAe] at hQ
  have S : CallFix p m c0 cX6_old 3 s args zT RX6 := ⟨hx, hb, hml, hown, hts⟩
  have hl : lv_has ls 3 [(0, .ref t0), (1, .int p1), (2, .int p2)] := hl
  unfold f_X6_old at hf
  refine lv_iload_n hx hb dX6_old_0 rfl (lv_at hl 2 rfl) ?_
  refine lv_iconst (v := (-1 : Int32)) hx hb dX6_old_1 (by decide) ?_
  obtain ⟨k_4, hk_4, hf⟩ := zz_let_use hf
  have hJ_4 : ∀ (H : Heap) (locs : List Loc) (ls : Array Slot), k_4 = some (o, o_o_ways, o_o_letters, o_o_letterCount, o_o_left, o_o_wordCount, o_o_given, o_o_first, o_o_most, o_x_m, o_y_m) → va_P D vwCl (wX6 c t0 n0 tA_images r0 m0 h0 o0 sA tA_rooms t_rooms ++ wX5 c n0 nA_numbers nA_syllables nA_days nA_words nA_parents nA_otherParents nA_kinds nA_hopeDays nA_hopeTenths n_numbers n_syllables n_syllableCount n_days n_words n_parents n_otherParents n_kinds n_personCount n_hopeDays n_hopeTenths n_hopeCount n_degreesTold ++ wX1 c o0 oA_letters xA yA oA_left oA_given oA_first o_ways o_letters o_letterCount o_left o_wordCount o_given o_first o_most ++ wG c xA xr x_m ++ wG c yA yr y_m) H → va_D A (wX6 c t0 n0 tA_images r0 m0 h0 o0 sA tA_rooms t_rooms ++ wX5 c n0 nA_numbers nA_syllables nA_days nA_words nA_parents nA_otherParents nA_kinds nA_hopeDays nA_hopeTenths n_numbers n_syllables n_syllableCount n_days n_words n_parents n_otherParents n_kinds n_personCount n_hopeDays n_hopeTenths n_hopeCount n_degreesTold ++ wX1 c o0 oA_letters xA yA oA_left oA_given oA_first o_ways o_letters o_letterCount o_left o_wordCount o_given o_first o_most ++ wG c xA xr x_m ++ wG c yA yr y_m) → va_S A s.heap H locs → lv_has ls 3 [(0, .ref t0), (1, .int p1), (2, .int p2)] → W p l e rm_X6_old s m args below meth c0 H locs 0 0 Q (F0 m 15 ls []) := by
    intro H locs ls hf hP hD hS hl
    subst hk_4
    refine lv_iload_n hx hb dX6_old_15 rfl (lv_at hl 1 rfl) ?_
    refine lv_iconst (v := (1 : Int32)) hx hb dX6_old_16 (by decide) ?_
    refine lv_icmp_lt (tgt := 26) hx hb dX6_old_17 (by decide) (fun hc_5 => ?_) (fun hc_5 => ?_)
    · have hf := zz_it hf hc_5
      refine lv_bipush (v := (-3 : Int32)) hx hb dX6_old_26 (by decide) ?_
      cases hf
      exact zRWi hQ hx hb hr hlk rfl hP hD hS dX6_old_28
    · have hf := zz_if hf hc_5
      refine lv_iload_n hx hb dX6_old_20 rfl (lv_at hl 1 rfl) ?_
      refine lv_bipush (v := (9 : Int32)) hx hb dX6_old_21 (by decide) ?_
      refine lv_icmp_le (tgt := 29) hx hb dX6_old_23 (by decide) (fun hc_6 => ?_) (fun hc_6 => ?_)
      · have hf := zz_it hf hc_6
        refine lv_aload_n hx hb dX6_old_29 rfl (lv_at hl 0 rfl) ?_
        refine zget S uw_X6 hE hP 0 5 rfl rfl (by decide) tw_2_14 rfl rfl dX6_old_30 ?_
        refine lv_aload_n hx hb dX6_old_33 rfl (lv_at hl 0 rfl) ?_
        refine zget S uw_X6 hE hP 0 0 rfl rfl (by decide) tw_2_9 rfl rfl dX6_old_34 ?_
        refine lv_iload_n hx hb dX6_old_37 rfl (lv_at hl 1 rfl) ?_
        obtain ⟨r_7, o_ways_8, o_letters_9, o_letterCount_10, o_left_11, o_wordCount_12, o_given_13, o_first_14, o_most_15, x_m_16, y_m_17, he_17, hf⟩ := zz_b11_use hf
        refine zwVi (As := [.ref n0, .int p1]) (rest := []) (wr := (wX6 c t0 n0 tA_images r0 m0 h0 o0 sA tA_rooms t_rooms)) (wX6 c t0 n0 tA_images r0 m0 h0 o0 sA tA_rooms t_rooms ++ wX5 c n0 nA_numbers nA_syllables nA_days nA_words nA_parents nA_otherParents nA_kinds nA_hopeDays nA_hopeTenths n_numbers n_syllables n_syllableCount n_days n_words n_parents n_otherParents n_kinds n_personCount n_hopeDays n_hopeTenths n_hopeCount n_degreesTold ++ wX1 c o0 oA_letters xA yA oA_left oA_given oA_first o_ways_8 o_letters_9 o_letterCount_10 o_left_11 o_wordCount_12 o_given_13 o_first_14 o_most_15 ++ wG c xA xr x_m_16 ++ wG c yA yr y_m_17) [12, 13, 14, 15, 16, 17, 18, 19, 20, 21, 22, 23, 24, 25, 26, 27, 28, 29, 30, 31, 32, 33, 34, 35, 36, 37, 38, 39, 40, 41, 42, 43, 44, 45, 46, 47, 48, 49, 50, 2, 3, 4, 5, 6, 7, 8, 9, 10, 11] [0, 1] [0, 1, 41, 42, 43, 44, 45, 46, 47, 48, 49, 50, 2, 3, 4, 5, 6, 7, 8, 9, 10, 11, 12, 13, 14, 15, 16, 17, 18, 19, 20, 21, 22, 23, 24, 25, 26, 27, 28, 29, 30, 31, 32, 33, 34, 35, 36, 37, 38, 39, 40] S (k_X1_solve l D c N o0 oA_letters xA yA oA_left oA_given oA_first o_ways o_letters o_letterCount o_left o_wordCount o_given o_first o_most xA xr x_m yA yr y_m n0 nA_numbers nA_syllables nA_days nA_words nA_parents nA_otherParents nA_kinds nA_hopeDays nA_hopeTenths n_numbers n_syllables n_syllableCount n_days n_words n_parents n_otherParents n_kinds n_personCount n_hopeDays n_hopeTenths n_hopeCount n_degreesTold p1 r_7 o_ways_8 o_letters_9 o_letterCount_10 o_left_11 o_wordCount_12 o_given_13 o_first_14 o_most_15 x_m_16 y_m_17 he_17) mi_X1_solve tw_3_236 ⟨(Nat.le_of_ble_eq_true rfl), (Nat.le_of_ble_eq_true rfl)⟩ ⟨rfl, rfl⟩ hP hD hS hA rfl rfl rfl rfl (by decide) rfl rfl hE hX (ci := 1) rfl rfl (q0 := 0) rfl rfl hl.1 rfl (Nat.le_of_ble_eq_true rfl) dX6_old_38 ⟨(Nat.le_of_ble_eq_true rfl), (Nat.le_of_ble_eq_true rfl)⟩ (fun H locs hP hD hS => ?_)
        refine lv_if_ne (tgt := 47) hx hb dX6_old_41 (by decide) (fun hc_18 => ?_) (fun hc_18 => ?_)
        · have hf := zz_if hf hc_18
          refine lv_iload_n hx hb dX6_old_47 rfl (lv_at hl 2 rfl) ?_
          refine lv_iconst (v := (-1 : Int32)) hx hb dX6_old_48 (by decide) ?_
          refine lv_icmp_ne (tgt := 62) hx hb dX6_old_49 (by decide) (fun hc_19 => ?_) (fun hc_19 => ?_)
          · have hf := zz_if hf hc_19
            refine lv_aload_n hx hb dX6_old_62 rfl (lv_at hl 0 rfl) ?_
            refine zget S uw_X6 hE hP 0 5 rfl rfl (by decide) tw_2_14 rfl rfl dX6_old_63 ?_
            refine lv_iload_n hx hb dX6_old_66 rfl (lv_at hl 2 rfl) ?_
            obtain ⟨r_20, he_20, hf⟩ := zz_b1_use hf
            refine zcVi (As := [.int p2]) (rest := []) S (k_X1_firstNumberOf l D c N o0 oA_letters xA yA oA_left oA_given oA_first o_ways_8 o_letters_9 o_letterCount_10 o_left_11 o_wordCount_12 o_given_13 o_first_14 o_most_15 xA xr x_m_16 yA yr y_m_17 p2 r_20 he_20) mi_X1_firstNumberOf tw_4_43 ⟨(Nat.le_of_ble_eq_true rfl), (Nat.le_of_ble_eq_true rfl)⟩ ⟨rfl, rfl⟩ (zpsub (is := [12, 13, 14, 15, 16, 17, 18, 19, 20, 21, 22, 23, 24, 25, 26, 27, 28, 29, 30, 31, 32, 33, 34, 35, 36, 37, 38, 39, 40, 41, 42, 43, 44, 45, 46, 47, 48, 49, 50]) hP rfl) hE hX hS (ci := 1) rfl rfl (q0 := 0) rfl rfl hl.1 rfl (Nat.le_of_ble_eq_true rfl) dX6_old_67 ⟨(Nat.le_of_ble_eq_true rfl), (Nat.le_of_ble_eq_true rfl)⟩ ?_
            cases hf
            exact zRWi hQ hx hb hr hlk rfl hP hD hS dX6_old_70
          · have hf := zz_it hf hc_19
            refine lv_aload_n hx hb dX6_old_52 rfl (lv_at hl 0 rfl) ?_
            refine zget S uw_X6 hE hP 0 5 rfl rfl (by decide) tw_2_14 rfl rfl dX6_old_53 ?_
            refine zget S uw_X1 hE hP 12 0 rfl rfl (by decide) tw_1_198 rfl rfl dX6_old_56 ?_
            refine lv_goto (tgt := 70) hx hb dX6_old_59 (by decide) ?_
            cases hf
            exact zRWi hQ hx hb hr hlk rfl hP hD hS dX6_old_70
        · have hf := zz_it hf hc_18
          refine lv_bipush (v := (-4 : Int32)) hx hb dX6_old_44 (by decide) ?_
          cases hf
          exact zRWi hQ hx hb hr hlk rfl hP hD hS dX6_old_46
      · have hf := zz_if hf hc_6
        refine lv_bipush (v := (-3 : Int32)) hx hb dX6_old_26 (by decide) ?_
        cases hf
        exact zRWi hQ hx hb hr hlk rfl hP hD hS dX6_old_28
  refine lv_icmp_eq (tgt := 15) hx hb dX6_old_2 (by decide) (fun hc_1 => ?_) (fun hc_1 => ?_)
  · have hf := zz_it hf hc_1
    exact hJ_4 s.heap [] ls hf hP hD hS (lv_sub hl [0, 1, 2] rfl)
  · have hf := zz_if hf hc_1
    refine lv_iload_n hx hb dX6_old_5 rfl (lv_at hl 2 rfl) ?_
    obtain ⟨r_2, he_2, hf⟩ := zz_b1_use hf
    refine zcSi (As := [.int p2]) (rest := []) S (k_X6_isLetter l D c N  p2 r_2 he_2) mi_X6_isLetter tw_2_233 ⟨(Nat.le_of_ble_eq_true rfl), (Nat.le_of_ble_eq_true rfl)⟩ ⟨rfl, rfl⟩ (zpnil) hE hX hS rfl hl.1 rfl (Nat.le_of_ble_eq_true rfl) dX6_old_6 ⟨(Nat.le_of_ble_eq_true rfl), (Nat.le_of_ble_eq_true rfl)⟩ ?_
    refine lv_if_ne (tgt := 15) hx hb dX6_old_9 (by decide) (fun hc_3 => ?_) (fun hc_3 => ?_)
    · have hf := zz_if hf hc_3
      exact hJ_4 s.heap [] ls hf hP hD hS (lv_sub hl [0, 1, 2] rfl)
    · have hf := zz_it hf hc_3
      refine lv_bipush (v := (-2 : Int32)) hx hb dX6_old_12 (by decide) ?_
      cases hf
      exact zRWi hQ hx hb hr hlk rfl hP hD hS dX6_old_14
def f_X6_calledAnew_L5 (N : Nat) (k_1 : (Int32) → Option (Int32)) (n_numbers : Nat → Int32) (n_days : Nat → Int32) (n_words : Nat → Int64) (n_personCount : Int32) (p1 : Int32) (p2 : Int32) : Nat → (Int32) → (Int32) → Option (Int32)
  | 0, _, _ => none
  | n_1 + 1, v3_2, v4_3 => (if n_personCount ≤ v4_3 then (k_1 v3_2) else zz_let (fun (v3_13 : Int32) => zz_let (v4_3 + (1 : Int32)) (fun v4_14 => (f_X6_calledAnew_L5 N k_1 n_numbers n_days n_words n_personCount p1 p2 n_1 v3_13 v4_14))) (fun k_12 => (if v4_3 = p1 then (k_12 v3_2) else zz_b1 (f_X5_addsUp N n_numbers n_days n_words v4_3) (fun r_6 => (if r_6 = 0 then (k_12 v3_2) else zz_gd (zz_in v4_3 16) (zz_b1 (f_X6_timesIn N (n_words v4_3.toNatClampNeg) p2) (fun r_9 => (if r_9 ≤ 0 then (k_12 v3_2) else zz_let (v3_2 + (1 : Int32)) (fun v3_11 => (k_12 v3_11))))))))))
theorem f_X6_calledAnew_L5_s (N : Nat) (k_1 : (Int32) → Option (Int32)) (n_numbers : Nat → Int32) (n_days : Nat → Int32) (n_words : Nat → Int64) (n_personCount : Int32) (p1 : Int32) (p2 : Int32) (n_1 : Nat) (v3_2 : Int32) (v4_3 : Int32) : f_X6_calledAnew_L5 N k_1 n_numbers n_days n_words n_personCount p1 p2 (n_1 + 1) v3_2 v4_3 = (if n_personCount ≤ v4_3 then (k_1 v3_2) else zz_let (fun (v3_13 : Int32) => zz_let (v4_3 + (1 : Int32)) (fun v4_14 => (f_X6_calledAnew_L5 N k_1 n_numbers n_days n_words n_personCount p1 p2 n_1 v3_13 v4_14))) (fun k_12 => (if v4_3 = p1 then (k_12 v3_2) else zz_b1 (f_X5_addsUp N n_numbers n_days n_words v4_3) (fun r_6 => (if r_6 = 0 then (k_12 v3_2) else zz_gd (zz_in v4_3 16) (zz_b1 (f_X6_timesIn N (n_words v4_3.toNatClampNeg) p2) (fun r_9 => (if r_9 ≤ 0 then (k_12 v3_2) else zz_let (v3_2 + (1 : Int32)) (fun v3_11 => (k_12 v3_11)))))))))) := rfl
def f_X6_calledAnew (N : Nat) (n_numbers : Nat → Int32) (n_days : Nat → Int32) (n_words : Nat → Int64) (n_personCount : Int32) (p1 : Int32) (p2 : Int32) : Option (Int32) := zz_let (fun (v3_15 : Int32) => (some v3_15)) (fun k_1 => f_X6_calledAnew_L5 N k_1 n_numbers n_days n_words n_personCount p1 p2 N (0 : Int32) (0 : Int32))
abbrev rm_X6_calledAnew : Room := { frames := 3, cells := 0, slots := 0, locals := 69 }
theorem mi_X6_calledAnew : zMI RX6 yX6_calledAnew cX6_calledAnew 5 (some .int) 2 := ⟨⟨tw_4_62, ts_X6_calledAnew, tw_1_1, tw_4_63⟩, by decide +kernel, by decide +kernel, by decide +kernel⟩
set_option maxHeartbeats 4000000 in
set_option maxRecDepth 100000 in
theorem k_X6_calledAnew (l : Launch) (D : va_G) (c : Nat → ClassId) (N : Nat) (t0 : Nat) (n0 : Nat) (tA_images : Nat) (r0 : Nat) (m0 : Nat) (h0 : Nat) (o0 : Nat) (sA : Nat) (tA_rooms : Nat) (t_rooms : Nat → Int32) (n0_x : Nat) (nA_numbers : Nat) (nA_syllables : Nat) (nA_days : Nat) (nA_words : Nat) (nA_parents : Nat) (nA_otherParents : Nat) (nA_kinds : Nat) (nA_hopeDays : Nat) (nA_hopeTenths : Nat) (n_numbers : Nat → Int32) (n_syllables : Nat → Int64) (n_syllableCount : Int32) (n_days : Nat → Int32) (n_words : Nat → Int64) (n_parents : Nat → Int32) (n_otherParents : Nat → Int32) (n_kinds : Nat → Int32) (n_personCount : Int32) (n_hopeDays : Nat → Int32) (n_hopeTenths : Nat → Int32) (n_hopeCount : Int32) (n_degreesTold : Int32) (p1 : Int32) (p2 : Int32) (o : Int32) (hf : f_X6_calledAnew N n_numbers n_days n_words n_personCount p1 p2 = some o) : zMPi l D c yX6_calledAnew cX6_calledAnew 5 (some .int) rm_X6_calledAnew (wX6 c t0 n0 tA_images r0 m0 h0 o0 sA tA_rooms t_rooms ++ wX5 c n0 nA_numbers nA_syllables nA_days nA_words nA_parents nA_otherParents nA_kinds nA_hopeDays nA_hopeTenths n_numbers n_syllables n_syllableCount n_days n_words n_parents n_otherParents n_kinds n_personCount n_hopeDays n_hopeTenths n_hopeCount n_degreesTold) [.ref t0, .int p1, .int p2] o := by
  refine zIP (by decide) (Nat.le_of_ble_eq_true rfl) ?_
  intro p e s m args below meth c0 Q hQ hx hb hr hlk hml hts hown hP hE hX hS ls hl
  have S : CallFix p m c0 cX6_calledAnew 5 s args zT RX6 := ⟨hx, hb, hml, hown, hts⟩
  have hl : lv_has ls 5 [(0, .ref t0), (1, .int p1), (2, .int p2)] := hl
  unfold f_X6_calledAnew at hf
  refine lv_iconst (v := (0 : Int32)) hx hb dX6_calledAnew_0 (by decide) ?_
  refine lv_istore_n (lv' := [(3, .int (0 : Int32)), (0, .ref t0), (1, .int p1), (2, .int p2)]) hx hb dX6_calledAnew_1 rfl hl (by decide) rfl (fun ls hl => ?_)
  refine lv_iconst (v := (0 : Int32)) hx hb dX6_calledAnew_2 (by decide) ?_
  refine lv_istore (lv' := [(4, .int (0 : Int32)), (3, .int (0 : Int32)), (0, .ref t0), (1, .int p1), (2, .int p2)]) hx hb dX6_calledAnew_3 hl (by decide) rfl (fun ls hl => ?_)
  obtain ⟨k_1, hk_1, hf⟩ := zz_let_use hf
  have hX_1 : ∀ (v3_15 : Int32) (ls : Array Slot), k_1 v3_15 = some o → lv_has ls 5 [(3, .int v3_15)] → W p l e rm_X6_calledAnew s m args below meth c0 s.heap [] 0 0 Q (F0 m 61 ls []) := by
    intro v3_15 ls hf hl
    subst hk_1
    refine lv_iload_n hx hb dX6_calledAnew_61 rfl (lv_at hl 0 rfl) ?_
    exact zRPi hQ hx hb hr hlk (Option.some.inj hf) dX6_calledAnew_62
  have hL_1 : ∀ (n_1 : Nat) (v3_2 : Int32) (v4_3 : Int32) (ls : Array Slot), f_X6_calledAnew_L5 N k_1 n_numbers n_days n_words n_personCount p1 p2 n_1 v3_2 v4_3 = some o → lv_has ls 5 [(0, .ref t0), (1, .int p1), (2, .int p2), (3, .int v3_2), (4, .int v4_3)] → W p l e rm_X6_calledAnew s m args below meth c0 s.heap [] 0 0 Q (F0 m 5 ls []) := by
    intro n_1
    induction n_1 with
    | zero => intro v3_2 v4_3 ls hf hl; exact zz_none hf
    | succ n_1 ih_1 =>
      intro v3_2 v4_3 ls hf hl
      rw [f_X6_calledAnew_L5_s] at hf
      refine lv_iload hx hb dX6_calledAnew_5 (lv_at hl 4 rfl) ?_
      refine lv_aload_n hx hb dX6_calledAnew_7 rfl (lv_at hl 0 rfl) ?_
      refine zget S uw_X6 hE hP 0 0 rfl rfl (by decide) tw_2_9 rfl rfl dX6_calledAnew_8 ?_
      refine zget S uw_X5 hE hP 2 8 rfl rfl (by decide) tw_1_56 rfl rfl dX6_calledAnew_11 ?_
      refine lv_icmp_ge (tgt := 61) hx hb dX6_calledAnew_14 (by decide) (fun hc_4 => ?_) (fun hc_4 => ?_)
      · have hf := zz_it hf hc_4
        exact hX_1 v3_2 ls hf (lv_sub hl [3] rfl)
      · have hf := zz_if hf hc_4
        refine lv_iload hx hb dX6_calledAnew_17 (lv_at hl 4 rfl) ?_
        refine lv_iload_n hx hb dX6_calledAnew_19 rfl (lv_at hl 1 rfl) ?_
        obtain ⟨k_12, hk_12, hf⟩ := zz_let_use hf
        have hJ_12 : ∀ (v3_13 : Int32) (ls : Array Slot), k_12 v3_13 = some o → lv_has ls 5 [(0, .ref t0), (1, .int p1), (2, .int p2), (3, .int v3_13), (4, .int v4_3)] → W p l e rm_X6_calledAnew s m args below meth c0 s.heap [] 0 0 Q (F0 m 55 ls []) := by
          intro v3_13 ls hf hl
          subst hk_12
          obtain ⟨v4_14, ev4_14, hf⟩ := zz_let_use hf
          refine lv_iinc (v := v4_14) (lv' := [(4, .int v4_14), (0, .ref t0), (1, .int p1), (2, .int p2), (3, .int v3_13)]) hx hb dX6_calledAnew_55 hl (k := 4) rfl (by rw [← ev4_14]; rfl) (by decide) rfl (fun ls hl => ?_)
          refine lv_goto (tgt := 5) hx hb dX6_calledAnew_58 (by decide) ?_
          exact ih_1 v3_13 v4_14 ls hf (lv_sub hl [1, 2, 3, 4, 0] rfl)
        refine lv_icmp_eq (tgt := 55) hx hb dX6_calledAnew_20 (by decide) (fun hc_5 => ?_) (fun hc_5 => ?_)
        · have hf := zz_it hf hc_5
          exact hJ_12 v3_2 ls hf (lv_sub hl [0, 1, 2, 3, 4] rfl)
        · have hf := zz_if hf hc_5
          refine lv_aload_n hx hb dX6_calledAnew_23 rfl (lv_at hl 0 rfl) ?_
          refine zget S uw_X6 hE hP 0 0 rfl rfl (by decide) tw_2_9 rfl rfl dX6_calledAnew_24 ?_
          refine lv_iload hx hb dX6_calledAnew_27 (lv_at hl 4 rfl) ?_
          obtain ⟨r_6, he_6, hf⟩ := zz_b1_use hf
          refine zcVi (As := [.int v4_3]) (rest := []) S (k_X5_addsUp l D c N n0 nA_numbers nA_syllables nA_days nA_words nA_parents nA_otherParents nA_kinds nA_hopeDays nA_hopeTenths n_numbers n_syllables n_syllableCount n_days n_words n_parents n_otherParents n_kinds n_personCount n_hopeDays n_hopeTenths n_hopeCount n_degreesTold v4_3 r_6 he_6) mi_X5_addsUp tw_4_64 ⟨(Nat.le_of_ble_eq_true rfl), (Nat.le_of_ble_eq_true rfl)⟩ ⟨rfl, rfl⟩ (zpsub (is := [2, 3, 4, 5, 6, 7, 8, 9, 10, 11]) hP rfl) hE hX hS (ci := 5) rfl rfl (q0 := 0) rfl rfl hl.1 rfl (Nat.le_of_ble_eq_true rfl) dX6_calledAnew_29 ⟨(Nat.le_of_ble_eq_true rfl), (Nat.le_of_ble_eq_true rfl)⟩ ?_
          refine lv_if_eq (tgt := 55) hx hb dX6_calledAnew_32 (by decide) (fun hc_7 => ?_) (fun hc_7 => ?_)
          · have hf := zz_it hf hc_7
            exact hJ_12 v3_2 ls hf (lv_sub hl [0, 1, 2, 3, 4] rfl)
          · have hf := zz_if hf hc_7
            refine lv_aload_n hx hb dX6_calledAnew_35 rfl (lv_at hl 0 rfl) ?_
            refine zget S uw_X6 hE hP 0 0 rfl rfl (by decide) tw_2_9 rfl rfl dX6_calledAnew_36 ?_
            refine zget S uw_X5 hE hP 2 4 rfl rfl (by decide) tw_1_45 rfl rfl dX6_calledAnew_39 ?_
            refine lv_iload hx hb dX6_calledAnew_42 (lv_at hl 4 rfl) ?_
            obtain ⟨hin_8, hf⟩ := zz_gd_use hf
            refine zlld hx hb hE hP 6 rfl (zz_in_ok hin_8) dX6_calledAnew_44 ?_
            refine lv_iload_n hx hb dX6_calledAnew_45 rfl (lv_at hl 2 rfl) ?_
            obtain ⟨r_9, he_9, hf⟩ := zz_b1_use hf
            refine zcSi (As := [.long (n_words v4_3.toNatClampNeg), .int p2]) (rest := []) S (k_X6_timesIn l D c N  (n_words v4_3.toNatClampNeg) p2 r_9 he_9) mi_X6_timesIn tw_4_59 ⟨(Nat.le_of_ble_eq_true rfl), (Nat.le_of_ble_eq_true rfl)⟩ ⟨rfl, rfl⟩ (zpnil) hE hX hS rfl hl.1 rfl (Nat.le_of_ble_eq_true rfl) dX6_calledAnew_46 ⟨(Nat.le_of_ble_eq_true rfl), (Nat.le_of_ble_eq_true rfl)⟩ ?_
            refine lv_if_le (tgt := 55) hx hb dX6_calledAnew_49 (by decide) (fun hc_10 => ?_) (fun hc_10 => ?_)
            · have hf := zz_it hf hc_10
              exact hJ_12 v3_2 ls hf (lv_sub hl [0, 1, 2, 3, 4] rfl)
            · have hf := zz_if hf hc_10
              obtain ⟨v3_11, ev3_11, hf⟩ := zz_let_use hf
              refine lv_iinc (v := v3_11) (lv' := [(3, .int v3_11), (0, .ref t0), (1, .int p1), (2, .int p2), (4, .int v4_3)]) hx hb dX6_calledAnew_52 hl (k := 3) rfl (by rw [← ev3_11]; rfl) (by decide) rfl (fun ls hl => ?_)
              exact hJ_12 v3_11 ls hf (lv_sub hl [1, 2, 3, 0, 4] rfl)
  exact hL_1 N (0 : Int32) (0 : Int32) ls hf (lv_sub hl [2, 3, 4, 1, 0] rfl)
def f_X6_reformedNumber (N : Nat) (n_numbers : Nat → Int32) (n_days : Nat → Int32) (n_words : Nat → Int64) (p1 : Int32) (p2 : Int32) : Option (Int32) := zz_gd (zz_in p2 26) (zz_let (n_numbers p2.toNatClampNeg) (fun v3_2 => zz_gd (zz_in p1 16) (zz_b1 (f_X6_timesIn N (n_words p1.toNatClampNeg) p2) (fun r_4 => zz_b1 (f_X5_sumOf N n_numbers (n_words p1.toNatClampNeg)) (fun r_5 => zz_let ((n_days p1.toNatClampNeg) - r_5) (fun v5_6 => (if r_4 = 0 then (if v5_6 = 0 then (if v3_2 = (1 : Int32) then (some (2 : Int32)) else (some (1 : Int32))) else (some (-1 : Int32))) else (if v5_6 = 0 then (some (-1 : Int32)) else zz_gd (zz_nz r_4) ((if (v5_6 - v5_6 / r_4 * r_4) = 0 then zz_let (v3_2 + (v5_6 / r_4)) (fun v6_13 => (if v6_13 < (1 : Int32) then (some (-1 : Int32)) else (if (99 : Int32) < v6_13 then (some (-1 : Int32)) else (some v6_13)))) else (some (-1 : Int32))))))))))))
abbrev rm_X6_reformedNumber : Room := { frames := 2, cells := 0, slots := 0, locals := 48 }
theorem mi_X6_reformedNumber : zMI RX6 yX6_reformedNumber cX6_reformedNumber 7 (some .int) 2 := ⟨⟨tw_4_57, ts_X6_reformedNumber, tw_1_1, tw_4_58⟩, by decide +kernel, by decide +kernel, by decide +kernel⟩
set_option maxHeartbeats 4000000 in
set_option maxRecDepth 100000 in
theorem k_X6_reformedNumber (l : Launch) (D : va_G) (c : Nat → ClassId) (N : Nat) (t0 : Nat) (n0 : Nat) (tA_images : Nat) (r0 : Nat) (m0 : Nat) (h0 : Nat) (o0 : Nat) (sA : Nat) (tA_rooms : Nat) (t_rooms : Nat → Int32) (n0_x : Nat) (nA_numbers : Nat) (nA_syllables : Nat) (nA_days : Nat) (nA_words : Nat) (nA_parents : Nat) (nA_otherParents : Nat) (nA_kinds : Nat) (nA_hopeDays : Nat) (nA_hopeTenths : Nat) (n_numbers : Nat → Int32) (n_syllables : Nat → Int64) (n_syllableCount : Int32) (n_days : Nat → Int32) (n_words : Nat → Int64) (n_parents : Nat → Int32) (n_otherParents : Nat → Int32) (n_kinds : Nat → Int32) (n_personCount : Int32) (n_hopeDays : Nat → Int32) (n_hopeTenths : Nat → Int32) (n_hopeCount : Int32) (n_degreesTold : Int32) (p1 : Int32) (p2 : Int32) (o : Int32) (hf : f_X6_reformedNumber N n_numbers n_days n_words p1 p2 = some o) : zMPi l D c yX6_reformedNumber cX6_reformedNumber 7 (some .int) rm_X6_reformedNumber (wX6 c t0 n0 tA_images r0 m0 h0 o0 sA tA_rooms t_rooms ++ wX5 c n0 nA_numbers nA_syllables nA_days nA_words nA_parents nA_otherParents nA_kinds nA_hopeDays nA_hopeTenths n_numbers n_syllables n_syllableCount n_days n_words n_parents n_otherParents n_kinds n_personCount n_hopeDays n_hopeTenths n_hopeCount n_degreesTold) [.ref t0, .int p1, .int p2] o := by
  refine zIP (by decide) (Nat.le_of_ble_eq_true rfl) ?_
  intro p e s m args below meth c0 Q hQ hx hb hr hlk hml hts hown hP hE hX hS ls hl
  have S : CallFix p m c0 cX6_reformedNumber 7 s args zT RX6 := ⟨hx, hb, hml, hown, hts⟩
  have hl : lv_has ls 7 [(0, .ref t0), (1, .int p1), (2, .int p2)] := hl
  unfold f_X6_reformedNumber at hf
  refine lv_aload_n hx hb dX6_reformedNumber_0 rfl (lv_at hl 0 rfl) ?_
  refine zget S uw_X6 hE hP 0 0 rfl rfl (by decide) tw_2_9 rfl rfl dX6_reformedNumber_1 ?_
  refine zget S uw_X5 hE hP 2 0 rfl rfl (by decide) tw_1_32 rfl rfl dX6_reformedNumber_4 ?_
  refine lv_iload_n hx hb dX6_reformedNumber_7 rfl (lv_at hl 2 rfl) ?_
  obtain ⟨hin_1, hf⟩ := zz_gd_use hf
  refine zild hx hb hE hP 3 rfl (zz_in_ok hin_1) dX6_reformedNumber_8 ?_
  obtain ⟨v3_2, ev3_2, hf⟩ := zz_let_use hf
  refine zti ev3_2 ?_
  refine lv_istore_n (lv' := [(3, .int v3_2), (0, .ref t0), (1, .int p1), (2, .int p2)]) hx hb dX6_reformedNumber_9 rfl hl (by decide) rfl (fun ls hl => ?_)
  refine lv_aload_n hx hb dX6_reformedNumber_10 rfl (lv_at hl 1 rfl) ?_
  refine zget S uw_X6 hE hP 0 0 rfl rfl (by decide) tw_2_9 rfl rfl dX6_reformedNumber_11 ?_
  refine zget S uw_X5 hE hP 2 4 rfl rfl (by decide) tw_1_45 rfl rfl dX6_reformedNumber_14 ?_
  refine lv_iload_n hx hb dX6_reformedNumber_17 rfl (lv_at hl 2 rfl) ?_
  obtain ⟨hin_3, hf⟩ := zz_gd_use hf
  refine zlld hx hb hE hP 6 rfl (zz_in_ok hin_3) dX6_reformedNumber_18 ?_
  refine lv_iload_n hx hb dX6_reformedNumber_19 rfl (lv_at hl 3 rfl) ?_
  obtain ⟨r_4, he_4, hf⟩ := zz_b1_use hf
  refine zcSi (As := [.long (n_words p1.toNatClampNeg), .int p2]) (rest := []) S (k_X6_timesIn l D c N  (n_words p1.toNatClampNeg) p2 r_4 he_4) mi_X6_timesIn tw_4_59 ⟨(Nat.le_of_ble_eq_true rfl), (Nat.le_of_ble_eq_true rfl)⟩ ⟨rfl, rfl⟩ (zpnil) hE hX hS rfl hl.1 rfl (Nat.le_of_ble_eq_true rfl) dX6_reformedNumber_20 ⟨(Nat.le_of_ble_eq_true rfl), (Nat.le_of_ble_eq_true rfl)⟩ ?_
  refine lv_istore (lv' := [(4, .int r_4), (3, .int v3_2), (0, .ref t0), (1, .int p1), (2, .int p2)]) hx hb dX6_reformedNumber_23 hl (by decide) rfl (fun ls hl => ?_)
  refine lv_aload_n hx hb dX6_reformedNumber_25 rfl (lv_at hl 2 rfl) ?_
  refine zget S uw_X6 hE hP 0 0 rfl rfl (by decide) tw_2_9 rfl rfl dX6_reformedNumber_26 ?_
  refine zget S uw_X5 hE hP 2 3 rfl rfl (by decide) tw_1_42 rfl rfl dX6_reformedNumber_29 ?_
  refine lv_iload_n hx hb dX6_reformedNumber_32 rfl (lv_at hl 3 rfl) ?_
  refine zild hx hb hE hP 5 rfl (zz_in_ok hin_3) dX6_reformedNumber_33 ?_
  refine lv_aload_n hx hb dX6_reformedNumber_34 rfl (lv_at hl 2 rfl) ?_
  refine zget S uw_X6 hE hP 0 0 rfl rfl (by decide) tw_2_9 rfl rfl dX6_reformedNumber_35 ?_
  refine lv_aload_n hx hb dX6_reformedNumber_38 rfl (lv_at hl 2 rfl) ?_
  refine zget S uw_X6 hE hP 0 0 rfl rfl (by decide) tw_2_9 rfl rfl dX6_reformedNumber_39 ?_
  refine zget S uw_X5 hE hP 2 4 rfl rfl (by decide) tw_1_45 rfl rfl dX6_reformedNumber_42 ?_
  refine lv_iload_n hx hb dX6_reformedNumber_45 rfl (lv_at hl 3 rfl) ?_
  refine zlld hx hb hE hP 6 rfl (zz_in_ok hin_3) dX6_reformedNumber_46 ?_
  obtain ⟨r_5, he_5, hf⟩ := zz_b1_use hf
  refine zcVi (As := [.long (n_words p1.toNatClampNeg)]) (rest := [.int (n_days p1.toNatClampNeg)]) S (k_X5_sumOf l D c N n0 nA_numbers nA_syllables nA_days nA_words nA_parents nA_otherParents nA_kinds nA_hopeDays nA_hopeTenths n_numbers n_syllables n_syllableCount n_days n_words n_parents n_otherParents n_kinds n_personCount n_hopeDays n_hopeTenths n_hopeCount n_degreesTold (n_words p1.toNatClampNeg) r_5 he_5) mi_X5_sumOf tw_3_48 ⟨(Nat.le_of_ble_eq_true rfl), (Nat.le_of_ble_eq_true rfl)⟩ ⟨rfl, rfl⟩ (zpsub (is := [2, 3, 4, 5, 6, 7, 8, 9, 10, 11]) hP rfl) hE hX hS (ci := 5) rfl rfl (q0 := 0) rfl rfl hl.1 rfl (Nat.le_of_ble_eq_true rfl) dX6_reformedNumber_47 ⟨(Nat.le_of_ble_eq_true rfl), (Nat.le_of_ble_eq_true rfl)⟩ ?_
  refine lv_isub hx hb dX6_reformedNumber_50 ?_
  obtain ⟨v5_6, ev5_6, hf⟩ := zz_let_use hf
  refine zti ev5_6 ?_
  refine lv_istore (lv' := [(5, .int v5_6), (4, .int r_4), (3, .int v3_2), (0, .ref t0), (1, .int p1), (2, .int p2)]) hx hb dX6_reformedNumber_51 hl (by decide) rfl (fun ls hl => ?_)
  refine lv_iload hx hb dX6_reformedNumber_53 (lv_at hl 1 rfl) ?_
  refine lv_if_ne (tgt := 78) hx hb dX6_reformedNumber_55 (by decide) (fun hc_7 => ?_) (fun hc_7 => ?_)
  · have hf := zz_if hf hc_7
    refine lv_iload hx hb dX6_reformedNumber_78 (lv_at hl 0 rfl) ?_
    refine lv_if_eq (tgt := 91) hx hb dX6_reformedNumber_80 (by decide) (fun hc_10 => ?_) (fun hc_10 => ?_)
    · have hf := zz_it hf hc_10
      refine lv_iconst (v := (-1 : Int32)) hx hb dX6_reformedNumber_91 (by decide) ?_
      exact zRPi hQ hx hb hr hlk (Option.some.inj hf) dX6_reformedNumber_92
    · have hf := zz_if hf hc_10
      refine lv_iload hx hb dX6_reformedNumber_83 (lv_at hl 0 rfl) ?_
      refine lv_iload hx hb dX6_reformedNumber_85 (lv_at hl 1 rfl) ?_
      obtain ⟨hnz_11, hf⟩ := zz_gd_use hf
      refine lv_irem hx hb dX6_reformedNumber_87 (zz_nz_ok hnz_11) ?_
      refine lv_if_eq (tgt := 93) hx hb dX6_reformedNumber_88 (by decide) (fun hc_12 => ?_) (fun hc_12 => ?_)
      · have hf := zz_it hf hc_12
        refine lv_iload_n hx hb dX6_reformedNumber_93 rfl (lv_at hl 2 rfl) ?_
        refine lv_iload hx hb dX6_reformedNumber_94 (lv_at hl 0 rfl) ?_
        refine lv_iload hx hb dX6_reformedNumber_96 (lv_at hl 1 rfl) ?_
        refine lv_idiv hx hb dX6_reformedNumber_98 (zz_nz_ok hnz_11) ?_
        refine lv_iadd hx hb dX6_reformedNumber_99 ?_
        obtain ⟨v6_13, ev6_13, hf⟩ := zz_let_use hf
        refine zti ev6_13 ?_
        refine lv_istore (lv' := [(6, .int v6_13), (5, .int v5_6), (4, .int r_4), (3, .int v3_2), (0, .ref t0), (1, .int p1), (2, .int p2)]) hx hb dX6_reformedNumber_100 hl (by decide) rfl (fun ls hl => ?_)
        refine lv_iload hx hb dX6_reformedNumber_102 (lv_at hl 0 rfl) ?_
        refine lv_iconst (v := (1 : Int32)) hx hb dX6_reformedNumber_104 (by decide) ?_
        refine lv_icmp_lt (tgt := 120) hx hb dX6_reformedNumber_105 (by decide) (fun hc_14 => ?_) (fun hc_14 => ?_)
        · have hf := zz_it hf hc_14
          refine lv_iconst (v := (-1 : Int32)) hx hb dX6_reformedNumber_120 (by decide) ?_
          exact zRPi hQ hx hb hr hlk (Option.some.inj hf) dX6_reformedNumber_121
        · have hf := zz_if hf hc_14
          refine lv_iload hx hb dX6_reformedNumber_108 (lv_at hl 0 rfl) ?_
          refine lv_bipush (v := (99 : Int32)) hx hb dX6_reformedNumber_110 (by decide) ?_
          refine lv_icmp_gt (tgt := 120) hx hb dX6_reformedNumber_112 (by decide) (fun hc_15 => ?_) (fun hc_15 => ?_)
          · have hf := zz_it hf hc_15
            refine lv_iconst (v := (-1 : Int32)) hx hb dX6_reformedNumber_120 (by decide) ?_
            exact zRPi hQ hx hb hr hlk (Option.some.inj hf) dX6_reformedNumber_121
          · have hf := zz_if hf hc_15
            refine lv_iload hx hb dX6_reformedNumber_115 (lv_at hl 0 rfl) ?_
            refine lv_goto (tgt := 121) hx hb dX6_reformedNumber_117 (by decide) ?_
            exact zRPi hQ hx hb hr hlk (Option.some.inj hf) dX6_reformedNumber_121
      · have hf := zz_if hf hc_12
        refine lv_iconst (v := (-1 : Int32)) hx hb dX6_reformedNumber_91 (by decide) ?_
        exact zRPi hQ hx hb hr hlk (Option.some.inj hf) dX6_reformedNumber_92
  · have hf := zz_it hf hc_7
    refine lv_iload hx hb dX6_reformedNumber_58 (lv_at hl 0 rfl) ?_
    refine lv_if_eq (tgt := 67) hx hb dX6_reformedNumber_60 (by decide) (fun hc_8 => ?_) (fun hc_8 => ?_)
    · have hf := zz_it hf hc_8
      refine lv_iload_n hx hb dX6_reformedNumber_67 rfl (lv_at hl 2 rfl) ?_
      refine lv_iconst (v := (1 : Int32)) hx hb dX6_reformedNumber_68 (by decide) ?_
      refine lv_icmp_ne (tgt := 76) hx hb dX6_reformedNumber_69 (by decide) (fun hc_9 => ?_) (fun hc_9 => ?_)
      · have hf := zz_if hf hc_9
        refine lv_iconst (v := (1 : Int32)) hx hb dX6_reformedNumber_76 (by decide) ?_
        exact zRPi hQ hx hb hr hlk (Option.some.inj hf) dX6_reformedNumber_77
      · have hf := zz_it hf hc_9
        refine lv_iconst (v := (2 : Int32)) hx hb dX6_reformedNumber_72 (by decide) ?_
        refine lv_goto (tgt := 77) hx hb dX6_reformedNumber_73 (by decide) ?_
        exact zRPi hQ hx hb hr hlk (Option.some.inj hf) dX6_reformedNumber_77
    · have hf := zz_if hf hc_8
      refine lv_iconst (v := (-1 : Int32)) hx hb dX6_reformedNumber_63 (by decide) ?_
      refine lv_goto (tgt := 77) hx hb dX6_reformedNumber_64 (by decide) ?_
      exact zRPi hQ hx hb hr hlk (Option.some.inj hf) dX6_reformedNumber_77
def f_X6_bestReformedLetter_L8 (N : Nat) (k_1 : (Int32) → Option (Int32)) (n_numbers : Nat → Int32) (n_days : Nat → Int32) (n_words : Nat → Int64) (n_personCount : Int32) (p1 : Int32) : Nat → (Int32) → (Int32) → (Int32) → Option (Int32)
  | 0, _, _, _ => none
  | n_1 + 1, v2_2, v3_3, v4_4 => (if (26 : Int32) ≤ v4_4 then (k_1 v2_2) else zz_b1 (f_X6_reformedNumber N n_numbers n_days n_words p1 v4_4) (fun r_6 => zz_let (fun (v2_12 : Int32) (v3_13 : Int32) => zz_let (v4_4 + (1 : Int32)) (fun v4_14 => (f_X6_bestReformedLetter_L8 N k_1 n_numbers n_days n_words n_personCount p1 n_1 v2_12 v3_13 v4_14))) (fun k_11 => (if r_6 = (-1 : Int32) then (k_11 v2_2 v3_3) else zz_b1 (f_X6_calledAnew N n_numbers n_days n_words n_personCount p1 v4_4) (fun r_8 => (if v3_3 ≤ r_8 then (k_11 v2_2 v3_3) else zz_b1 (f_X6_calledAnew N n_numbers n_days n_words n_personCount p1 v4_4) (fun r_10 => (k_11 v4_4 r_10))))))))
theorem f_X6_bestReformedLetter_L8_s (N : Nat) (k_1 : (Int32) → Option (Int32)) (n_numbers : Nat → Int32) (n_days : Nat → Int32) (n_words : Nat → Int64) (n_personCount : Int32) (p1 : Int32) (n_1 : Nat) (v2_2 : Int32) (v3_3 : Int32) (v4_4 : Int32) : f_X6_bestReformedLetter_L8 N k_1 n_numbers n_days n_words n_personCount p1 (n_1 + 1) v2_2 v3_3 v4_4 = (if (26 : Int32) ≤ v4_4 then (k_1 v2_2) else zz_b1 (f_X6_reformedNumber N n_numbers n_days n_words p1 v4_4) (fun r_6 => zz_let (fun (v2_12 : Int32) (v3_13 : Int32) => zz_let (v4_4 + (1 : Int32)) (fun v4_14 => (f_X6_bestReformedLetter_L8 N k_1 n_numbers n_days n_words n_personCount p1 n_1 v2_12 v3_13 v4_14))) (fun k_11 => (if r_6 = (-1 : Int32) then (k_11 v2_2 v3_3) else zz_b1 (f_X6_calledAnew N n_numbers n_days n_words n_personCount p1 v4_4) (fun r_8 => (if v3_3 ≤ r_8 then (k_11 v2_2 v3_3) else zz_b1 (f_X6_calledAnew N n_numbers n_days n_words n_personCount p1 v4_4) (fun r_10 => (k_11 v4_4 r_10)))))))) := rfl
def f_X6_bestReformedLetter (N : Nat) (n_numbers : Nat → Int32) (n_days : Nat → Int32) (n_words : Nat → Int64) (n_personCount : Int32) (p1 : Int32) : Option (Int32) := zz_let (fun (v2_15 : Int32) => (some v2_15)) (fun k_1 => f_X6_bestReformedLetter_L8 N k_1 n_numbers n_days n_words n_personCount p1 N (-1 : Int32) (16 : Int32) (0 : Int32))
abbrev rm_X6_bestReformedLetter : Room := { frames := 4, cells := 0, slots := 0, locals := 93 }
theorem mi_X6_bestReformedLetter : zMI RX6 yX6_bestReformedLetter cX6_bestReformedLetter 5 (some .int) 1 := ⟨⟨tw_4_53, ts_X6_bestReformedLetter, tw_1_1, tw_4_54⟩, by decide +kernel, by decide +kernel, by decide +kernel⟩
set_option maxHeartbeats 4000000 in
set_option maxRecDepth 100000 in
theorem k_X6_bestReformedLetter (l : Launch) (D : va_G) (c : Nat → ClassId) (N : Nat) (t0 : Nat) (n0 : Nat) (tA_images : Nat) (r0 : Nat) (m0 : Nat) (h0 : Nat) (o0 : Nat) (sA : Nat) (tA_rooms : Nat) (t_rooms : Nat → Int32) (n0_x : Nat) (nA_numbers : Nat) (nA_syllables : Nat) (nA_days : Nat) (nA_words : Nat) (nA_parents : Nat) (nA_otherParents : Nat) (nA_kinds : Nat) (nA_hopeDays : Nat) (nA_hopeTenths : Nat) (n_numbers : Nat → Int32) (n_syllables : Nat → Int64) (n_syllableCount : Int32) (n_days : Nat → Int32) (n_words : Nat → Int64) (n_parents : Nat → Int32) (n_otherParents : Nat → Int32) (n_kinds : Nat → Int32) (n_personCount : Int32) (n_hopeDays : Nat → Int32) (n_hopeTenths : Nat → Int32) (n_hopeCount : Int32) (n_degreesTold : Int32) (p1 : Int32) (o : Int32) (hf : f_X6_bestReformedLetter N n_numbers n_days n_words n_personCount p1 = some o) : zMPi l D c yX6_bestReformedLetter cX6_bestReformedLetter 5 (some .int) rm_X6_bestReformedLetter (wX6 c t0 n0 tA_images r0 m0 h0 o0 sA tA_rooms t_rooms ++ wX5 c n0 nA_numbers nA_syllables nA_days nA_words nA_parents nA_otherParents nA_kinds nA_hopeDays nA_hopeTenths n_numbers n_syllables n_syllableCount n_days n_words n_parents n_otherParents n_kinds n_personCount n_hopeDays n_hopeTenths n_hopeCount n_degreesTold) [.ref t0, .int p1] o := by
  refine zIP (by decide) (Nat.le_of_ble_eq_true rfl) ?_
  intro p e s m args below meth c0 Q hQ hx hb hr hlk hml hts hown hP hE hX hS ls hl
  have S : CallFix p m c0 cX6_bestReformedLetter 5 s args zT RX6 := ⟨hx, hb, hml, hown, hts⟩
  have hl : lv_has ls 5 [(0, .ref t0), (1, .int p1)] := hl
  unfold f_X6_bestReformedLetter at hf
  refine lv_iconst (v := (-1 : Int32)) hx hb dX6_bestReformedLetter_0 (by decide) ?_
  refine lv_istore_n (lv' := [(2, .int (-1 : Int32)), (0, .ref t0), (1, .int p1)]) hx hb dX6_bestReformedLetter_1 rfl hl (by decide) rfl (fun ls hl => ?_)
  refine lv_bipush (v := (16 : Int32)) hx hb dX6_bestReformedLetter_2 (by decide) ?_
  refine lv_istore_n (lv' := [(3, .int (16 : Int32)), (2, .int (-1 : Int32)), (0, .ref t0), (1, .int p1)]) hx hb dX6_bestReformedLetter_4 rfl hl (by decide) rfl (fun ls hl => ?_)
  refine lv_iconst (v := (0 : Int32)) hx hb dX6_bestReformedLetter_5 (by decide) ?_
  refine lv_istore (lv' := [(4, .int (0 : Int32)), (3, .int (16 : Int32)), (2, .int (-1 : Int32)), (0, .ref t0), (1, .int p1)]) hx hb dX6_bestReformedLetter_6 hl (by decide) rfl (fun ls hl => ?_)
  obtain ⟨k_1, hk_1, hf⟩ := zz_let_use hf
  have hX_1 : ∀ (v2_15 : Int32) (ls : Array Slot), k_1 v2_15 = some o → lv_has ls 5 [(2, .int v2_15)] → W p l e rm_X6_bestReformedLetter s m args below meth c0 s.heap [] 0 0 Q (F0 m 54 ls []) := by
    intro v2_15 ls hf hl
    subst hk_1
    refine lv_iload_n hx hb dX6_bestReformedLetter_54 rfl (lv_at hl 0 rfl) ?_
    exact zRPi hQ hx hb hr hlk (Option.some.inj hf) dX6_bestReformedLetter_55
  have hL_1 : ∀ (n_1 : Nat) (v2_2 : Int32) (v3_3 : Int32) (v4_4 : Int32) (ls : Array Slot), f_X6_bestReformedLetter_L8 N k_1 n_numbers n_days n_words n_personCount p1 n_1 v2_2 v3_3 v4_4 = some o → lv_has ls 5 [(0, .ref t0), (1, .int p1), (2, .int v2_2), (3, .int v3_3), (4, .int v4_4)] → W p l e rm_X6_bestReformedLetter s m args below meth c0 s.heap [] 0 0 Q (F0 m 8 ls []) := by
    intro n_1
    induction n_1 with
    | zero => intro v2_2 v3_3 v4_4 ls hf hl; exact zz_none hf
    | succ n_1 ih_1 =>
      intro v2_2 v3_3 v4_4 ls hf hl
      rw [f_X6_bestReformedLetter_L8_s] at hf
      refine lv_iload hx hb dX6_bestReformedLetter_8 (lv_at hl 4 rfl) ?_
      refine lv_bipush (v := (26 : Int32)) hx hb dX6_bestReformedLetter_10 (by decide) ?_
      refine lv_icmp_ge (tgt := 54) hx hb dX6_bestReformedLetter_12 (by decide) (fun hc_5 => ?_) (fun hc_5 => ?_)
      · have hf := zz_it hf hc_5
        exact hX_1 v2_2 ls hf (lv_sub hl [2] rfl)
      · have hf := zz_if hf hc_5
        refine lv_aload_n hx hb dX6_bestReformedLetter_15 rfl (lv_at hl 0 rfl) ?_
        refine lv_iload_n hx hb dX6_bestReformedLetter_16 rfl (lv_at hl 1 rfl) ?_
        refine lv_iload hx hb dX6_bestReformedLetter_17 (lv_at hl 4 rfl) ?_
        obtain ⟨r_6, he_6, hf⟩ := zz_b1_use hf
        refine zcVi (As := [.int p1, .int v4_4]) (rest := []) S (k_X6_reformedNumber l D c N t0 n0 tA_images r0 m0 h0 o0 sA tA_rooms t_rooms n0 nA_numbers nA_syllables nA_days nA_words nA_parents nA_otherParents nA_kinds nA_hopeDays nA_hopeTenths n_numbers n_syllables n_syllableCount n_days n_words n_parents n_otherParents n_kinds n_personCount n_hopeDays n_hopeTenths n_hopeCount n_degreesTold p1 v4_4 r_6 he_6) mi_X6_reformedNumber tw_4_55 ⟨(Nat.le_of_ble_eq_true rfl), (Nat.le_of_ble_eq_true rfl)⟩ ⟨rfl, rfl⟩ hP hE hX hS (ci := 6) rfl rfl (q0 := 0) rfl rfl hl.1 rfl (Nat.le_of_ble_eq_true rfl) dX6_bestReformedLetter_19 ⟨(Nat.le_of_ble_eq_true rfl), (Nat.le_of_ble_eq_true rfl)⟩ ?_
        refine lv_iconst (v := (-1 : Int32)) hx hb dX6_bestReformedLetter_22 (by decide) ?_
        obtain ⟨k_11, hk_11, hf⟩ := zz_let_use hf
        have hJ_11 : ∀ (v2_12 : Int32) (v3_13 : Int32) (ls : Array Slot), k_11 v2_12 v3_13 = some o → lv_has ls 5 [(0, .ref t0), (1, .int p1), (2, .int v2_12), (3, .int v3_13), (4, .int v4_4)] → W p l e rm_X6_bestReformedLetter s m args below meth c0 s.heap [] 0 0 Q (F0 m 48 ls []) := by
          intro v2_12 v3_13 ls hf hl
          subst hk_11
          obtain ⟨v4_14, ev4_14, hf⟩ := zz_let_use hf
          refine lv_iinc (v := v4_14) (lv' := [(4, .int v4_14), (0, .ref t0), (1, .int p1), (2, .int v2_12), (3, .int v3_13)]) hx hb dX6_bestReformedLetter_48 hl (k := 4) rfl (by rw [← ev4_14]; rfl) (by decide) rfl (fun ls hl => ?_)
          refine lv_goto (tgt := 8) hx hb dX6_bestReformedLetter_51 (by decide) ?_
          exact ih_1 v2_12 v3_13 v4_14 ls hf (lv_sub hl [1, 2, 3, 4, 0] rfl)
        refine lv_icmp_eq (tgt := 48) hx hb dX6_bestReformedLetter_23 (by decide) (fun hc_7 => ?_) (fun hc_7 => ?_)
        · have hf := zz_it hf hc_7
          exact hJ_11 v2_2 v3_3 ls hf (lv_sub hl [0, 1, 2, 3, 4] rfl)
        · have hf := zz_if hf hc_7
          refine lv_aload_n hx hb dX6_bestReformedLetter_26 rfl (lv_at hl 0 rfl) ?_
          refine lv_iload_n hx hb dX6_bestReformedLetter_27 rfl (lv_at hl 1 rfl) ?_
          refine lv_iload hx hb dX6_bestReformedLetter_28 (lv_at hl 4 rfl) ?_
          obtain ⟨r_8, he_8, hf⟩ := zz_b1_use hf
          refine zcVi (As := [.int p1, .int v4_4]) (rest := []) S (k_X6_calledAnew l D c N t0 n0 tA_images r0 m0 h0 o0 sA tA_rooms t_rooms n0 nA_numbers nA_syllables nA_days nA_words nA_parents nA_otherParents nA_kinds nA_hopeDays nA_hopeTenths n_numbers n_syllables n_syllableCount n_days n_words n_parents n_otherParents n_kinds n_personCount n_hopeDays n_hopeTenths n_hopeCount n_degreesTold p1 v4_4 r_8 he_8) mi_X6_calledAnew tw_4_60 ⟨(Nat.le_of_ble_eq_true rfl), (Nat.le_of_ble_eq_true rfl)⟩ ⟨rfl, rfl⟩ hP hE hX hS (ci := 6) rfl rfl (q0 := 0) rfl rfl hl.1 rfl (Nat.le_of_ble_eq_true rfl) dX6_bestReformedLetter_30 ⟨(Nat.le_of_ble_eq_true rfl), (Nat.le_of_ble_eq_true rfl)⟩ ?_
          refine lv_iload_n hx hb dX6_bestReformedLetter_33 rfl (lv_at hl 3 rfl) ?_
          refine lv_icmp_ge (tgt := 48) hx hb dX6_bestReformedLetter_34 (by decide) (fun hc_9 => ?_) (fun hc_9 => ?_)
          · have hf := zz_it hf hc_9
            exact hJ_11 v2_2 v3_3 ls hf (lv_sub hl [0, 1, 2, 3, 4] rfl)
          · have hf := zz_if hf hc_9
            refine lv_iload hx hb dX6_bestReformedLetter_37 (lv_at hl 4 rfl) ?_
            refine lv_istore_n (lv' := [(2, .int v4_4), (0, .ref t0), (1, .int p1), (3, .int v3_3), (4, .int v4_4)]) hx hb dX6_bestReformedLetter_39 rfl hl (by decide) rfl (fun ls hl => ?_)
            refine lv_aload_n hx hb dX6_bestReformedLetter_40 rfl (lv_at hl 1 rfl) ?_
            refine lv_iload_n hx hb dX6_bestReformedLetter_41 rfl (lv_at hl 2 rfl) ?_
            refine lv_iload hx hb dX6_bestReformedLetter_42 (lv_at hl 4 rfl) ?_
            obtain ⟨r_10, he_10, hf⟩ := zz_b1_use hf
            refine zcVi (As := [.int p1, .int v4_4]) (rest := []) S (k_X6_calledAnew l D c N t0 n0 tA_images r0 m0 h0 o0 sA tA_rooms t_rooms n0 nA_numbers nA_syllables nA_days nA_words nA_parents nA_otherParents nA_kinds nA_hopeDays nA_hopeTenths n_numbers n_syllables n_syllableCount n_days n_words n_parents n_otherParents n_kinds n_personCount n_hopeDays n_hopeTenths n_hopeCount n_degreesTold p1 v4_4 r_10 he_10) mi_X6_calledAnew tw_4_60 ⟨(Nat.le_of_ble_eq_true rfl), (Nat.le_of_ble_eq_true rfl)⟩ ⟨rfl, rfl⟩ hP hE hX hS (ci := 6) rfl rfl (q0 := 0) rfl rfl hl.1 rfl (Nat.le_of_ble_eq_true rfl) dX6_bestReformedLetter_44 ⟨(Nat.le_of_ble_eq_true rfl), (Nat.le_of_ble_eq_true rfl)⟩ ?_
            refine lv_istore_n (lv' := [(3, .int r_10), (2, .int v4_4), (0, .ref t0), (1, .int p1), (4, .int v4_4)]) hx hb dX6_bestReformedLetter_47 rfl hl (by decide) rfl (fun ls hl => ?_)
            exact hJ_11 v4_4 r_10 ls hf (lv_sub hl [2, 3, 1, 0, 4] rfl)
  exact hL_1 N (-1 : Int32) (16 : Int32) (0 : Int32) ls hf (lv_sub hl [3, 4, 2, 1, 0] rfl)
def f_X6_reform (N : Nat) (n_numbers : Nat → Int32) (n_days : Nat → Int32) (n_words : Nat → Int64) (n_personCount : Int32) (p1 : Int32) (p2 : Int32) : Option (Int32) := zz_b1 (f_X5_isPerson N n_personCount p1) (fun r_1 => (if r_1 = 0 then (some (-2 : Int32)) else (if p2 < 0 then (some (-3 : Int32)) else (if p2 ≤ (2 : Int32) then zz_gd (zz_in p1 16) ((if (n_words p1.toNatClampNeg) = (0 : Int64) then (some (-4 : Int32)) else zz_b1 (f_X6_bestReformedLetter N n_numbers n_days n_words n_personCount p1) (fun r_7 => (if r_7 = (-1 : Int32) then (some r_7) else (if p2 = 0 then (some r_7) else (if p2 = (1 : Int32) then zz_b1 (f_X6_reformedNumber N n_numbers n_days n_words p1 r_7) (fun r_12 => (some r_12)) else zz_b1 (f_X6_calledAnew N n_numbers n_days n_words n_personCount p1 r_7) (fun r_11 => (some r_11)))))))) else (some (-3 : Int32))))))
abbrev rm_X6_reform : Room := { frames := 5, cells := 0, slots := 0, locals := 117 }
theorem mi_X6_reform : zMI RX6 yX6_reform cX6_reform 4 (some .int) 2 := ⟨⟨tw_4_48, tw_4_49, tw_1_1, tw_4_50⟩, by decide +kernel, by decide +kernel, by decide +kernel⟩
set_option maxHeartbeats 4000000 in
set_option maxRecDepth 100000 in
theorem k_X6_reform (l : Launch) (D : va_G) (c : Nat → ClassId) (N : Nat) (t0 : Nat) (n0 : Nat) (tA_images : Nat) (r0 : Nat) (m0 : Nat) (h0 : Nat) (o0 : Nat) (sA : Nat) (tA_rooms : Nat) (t_rooms : Nat → Int32) (n0_x : Nat) (nA_numbers : Nat) (nA_syllables : Nat) (nA_days : Nat) (nA_words : Nat) (nA_parents : Nat) (nA_otherParents : Nat) (nA_kinds : Nat) (nA_hopeDays : Nat) (nA_hopeTenths : Nat) (n_numbers : Nat → Int32) (n_syllables : Nat → Int64) (n_syllableCount : Int32) (n_days : Nat → Int32) (n_words : Nat → Int64) (n_parents : Nat → Int32) (n_otherParents : Nat → Int32) (n_kinds : Nat → Int32) (n_personCount : Int32) (n_hopeDays : Nat → Int32) (n_hopeTenths : Nat → Int32) (n_hopeCount : Int32) (n_degreesTold : Int32) (p1 : Int32) (p2 : Int32) (o : Int32) (hf : f_X6_reform N n_numbers n_days n_words n_personCount p1 p2 = some o) : zMPi l D c yX6_reform cX6_reform 4 (some .int) rm_X6_reform (wX6 c t0 n0 tA_images r0 m0 h0 o0 sA tA_rooms t_rooms ++ wX5 c n0 nA_numbers nA_syllables nA_days nA_words nA_parents nA_otherParents nA_kinds nA_hopeDays nA_hopeTenths n_numbers n_syllables n_syllableCount n_days n_words n_parents n_otherParents n_kinds n_personCount n_hopeDays n_hopeTenths n_hopeCount n_degreesTold) [.ref t0, .int p1, .int p2] o := by
  refine zIP (by decide) (Nat.le_of_ble_eq_true rfl) ?_
  intro p e s m args below meth c0 Q hQ hx hb hr hlk hml hts hown hP hE hX hS ls hl
  have S : CallFix p m c0 cX6_reform 4 s args zT RX6 := ⟨hx, hb, hml, hown, hts⟩
  have hl : lv_has ls 4 [(0, .ref t0), (1, .int p1), (2, .int p2)] := hl
  unfold f_X6_reform at hf
  refine lv_aload_n hx hb dX6_reform_0 rfl (lv_at hl 0 rfl) ?_
  refine zget S uw_X6 hE hP 0 0 rfl rfl (by decide) tw_2_9 rfl rfl dX6_reform_1 ?_
  refine lv_iload_n hx hb dX6_reform_4 rfl (lv_at hl 1 rfl) ?_
  obtain ⟨r_1, he_1, hf⟩ := zz_b1_use hf
  refine zcVi (As := [.int p1]) (rest := []) S (k_X5_isPerson l D c N n0 nA_numbers nA_syllables nA_days nA_words nA_parents nA_otherParents nA_kinds nA_hopeDays nA_hopeTenths n_numbers n_syllables n_syllableCount n_days n_words n_parents n_otherParents n_kinds n_personCount n_hopeDays n_hopeTenths n_hopeCount n_degreesTold p1 r_1 he_1) mi_X5_isPerson tw_2_238 ⟨(Nat.le_of_ble_eq_true rfl), (Nat.le_of_ble_eq_true rfl)⟩ ⟨rfl, rfl⟩ (zpsub (is := [2, 3, 4, 5, 6, 7, 8, 9, 10, 11]) hP rfl) hE hX hS (ci := 5) rfl rfl (q0 := 0) rfl rfl hl.1 rfl (Nat.le_of_ble_eq_true rfl) dX6_reform_5 ⟨(Nat.le_of_ble_eq_true rfl), (Nat.le_of_ble_eq_true rfl)⟩ ?_
  refine lv_if_ne (tgt := 14) hx hb dX6_reform_8 (by decide) (fun hc_2 => ?_) (fun hc_2 => ?_)
  · have hf := zz_if hf hc_2
    refine lv_iload_n hx hb dX6_reform_14 rfl (lv_at hl 2 rfl) ?_
    refine lv_if_lt (tgt := 23) hx hb dX6_reform_15 (by decide) (fun hc_3 => ?_) (fun hc_3 => ?_)
    · have hf := zz_it hf hc_3
      refine lv_bipush (v := (-3 : Int32)) hx hb dX6_reform_23 (by decide) ?_
      exact zRPi hQ hx hb hr hlk (Option.some.inj hf) dX6_reform_25
    · have hf := zz_if hf hc_3
      refine lv_iload_n hx hb dX6_reform_18 rfl (lv_at hl 2 rfl) ?_
      refine lv_iconst (v := (2 : Int32)) hx hb dX6_reform_19 (by decide) ?_
      refine lv_icmp_le (tgt := 26) hx hb dX6_reform_20 (by decide) (fun hc_4 => ?_) (fun hc_4 => ?_)
      · have hf := zz_it hf hc_4
        refine lv_aload_n hx hb dX6_reform_26 rfl (lv_at hl 0 rfl) ?_
        refine zget S uw_X6 hE hP 0 0 rfl rfl (by decide) tw_2_9 rfl rfl dX6_reform_27 ?_
        refine zget S uw_X5 hE hP 2 4 rfl rfl (by decide) tw_1_45 rfl rfl dX6_reform_30 ?_
        refine lv_iload_n hx hb dX6_reform_33 rfl (lv_at hl 1 rfl) ?_
        obtain ⟨hin_5, hf⟩ := zz_gd_use hf
        refine zlld hx hb hE hP 6 rfl (zz_in_ok hin_5) dX6_reform_34 ?_
        refine lv_lconst (v := (0 : Int64)) hx hb dX6_reform_35 (by decide) ?_
        refine zlc_ne (tgt := 43) hx hb dX6_reform_36 dX6_reform_37 (by decide) (fun hc_6 => ?_) (fun hc_6 => ?_)
        · have hf := zz_if hf hc_6
          refine lv_aload_n hx hb dX6_reform_43 rfl (lv_at hl 0 rfl) ?_
          refine lv_iload_n hx hb dX6_reform_44 rfl (lv_at hl 1 rfl) ?_
          obtain ⟨r_7, he_7, hf⟩ := zz_b1_use hf
          refine zcVi (As := [.int p1]) (rest := []) S (k_X6_bestReformedLetter l D c N t0 n0 tA_images r0 m0 h0 o0 sA tA_rooms t_rooms n0 nA_numbers nA_syllables nA_days nA_words nA_parents nA_otherParents nA_kinds nA_hopeDays nA_hopeTenths n_numbers n_syllables n_syllableCount n_days n_words n_parents n_otherParents n_kinds n_personCount n_hopeDays n_hopeTenths n_hopeCount n_degreesTold p1 r_7 he_7) mi_X6_bestReformedLetter tw_4_51 ⟨(Nat.le_of_ble_eq_true rfl), (Nat.le_of_ble_eq_true rfl)⟩ ⟨rfl, rfl⟩ hP hE hX hS (ci := 6) rfl rfl (q0 := 0) rfl rfl hl.1 rfl (Nat.le_of_ble_eq_true rfl) dX6_reform_45 ⟨(Nat.le_of_ble_eq_true rfl), (Nat.le_of_ble_eq_true rfl)⟩ ?_
          refine lv_istore_n (lv' := [(3, .int r_7), (0, .ref t0), (1, .int p1), (2, .int p2)]) hx hb dX6_reform_48 rfl hl (by decide) rfl (fun ls hl => ?_)
          refine lv_iload_n hx hb dX6_reform_49 rfl (lv_at hl 0 rfl) ?_
          refine lv_iconst (v := (-1 : Int32)) hx hb dX6_reform_50 (by decide) ?_
          refine lv_icmp_eq (tgt := 58) hx hb dX6_reform_51 (by decide) (fun hc_8 => ?_) (fun hc_8 => ?_)
          · have hf := zz_it hf hc_8
            refine lv_iload_n hx hb dX6_reform_58 rfl (lv_at hl 0 rfl) ?_
            exact zRPi hQ hx hb hr hlk (Option.some.inj hf) dX6_reform_59
          · have hf := zz_if hf hc_8
            refine lv_iload_n hx hb dX6_reform_54 rfl (lv_at hl 3 rfl) ?_
            refine lv_if_ne (tgt := 60) hx hb dX6_reform_55 (by decide) (fun hc_9 => ?_) (fun hc_9 => ?_)
            · have hf := zz_if hf hc_9
              refine lv_iload_n hx hb dX6_reform_60 rfl (lv_at hl 3 rfl) ?_
              refine lv_iconst (v := (1 : Int32)) hx hb dX6_reform_61 (by decide) ?_
              refine lv_icmp_ne (tgt := 74) hx hb dX6_reform_62 (by decide) (fun hc_10 => ?_) (fun hc_10 => ?_)
              · have hf := zz_if hf hc_10
                refine lv_aload_n hx hb dX6_reform_74 rfl (lv_at hl 1 rfl) ?_
                refine lv_iload_n hx hb dX6_reform_75 rfl (lv_at hl 2 rfl) ?_
                refine lv_iload_n hx hb dX6_reform_76 rfl (lv_at hl 0 rfl) ?_
                obtain ⟨r_11, he_11, hf⟩ := zz_b1_use hf
                refine zcVi (As := [.int p1, .int r_7]) (rest := []) S (k_X6_calledAnew l D c N t0 n0 tA_images r0 m0 h0 o0 sA tA_rooms t_rooms n0 nA_numbers nA_syllables nA_days nA_words nA_parents nA_otherParents nA_kinds nA_hopeDays nA_hopeTenths n_numbers n_syllables n_syllableCount n_days n_words n_parents n_otherParents n_kinds n_personCount n_hopeDays n_hopeTenths n_hopeCount n_degreesTold p1 r_7 r_11 he_11) mi_X6_calledAnew tw_4_60 ⟨(Nat.le_of_ble_eq_true rfl), (Nat.le_of_ble_eq_true rfl)⟩ ⟨rfl, rfl⟩ hP hE hX hS (ci := 6) rfl rfl (q0 := 0) rfl rfl hl.1 rfl (Nat.le_of_ble_eq_true rfl) dX6_reform_77 ⟨(Nat.le_of_ble_eq_true rfl), (Nat.le_of_ble_eq_true rfl)⟩ ?_
                exact zRPi hQ hx hb hr hlk (Option.some.inj hf) dX6_reform_80
              · have hf := zz_it hf hc_10
                refine lv_aload_n hx hb dX6_reform_65 rfl (lv_at hl 1 rfl) ?_
                refine lv_iload_n hx hb dX6_reform_66 rfl (lv_at hl 2 rfl) ?_
                refine lv_iload_n hx hb dX6_reform_67 rfl (lv_at hl 0 rfl) ?_
                obtain ⟨r_12, he_12, hf⟩ := zz_b1_use hf
                refine zcVi (As := [.int p1, .int r_7]) (rest := []) S (k_X6_reformedNumber l D c N t0 n0 tA_images r0 m0 h0 o0 sA tA_rooms t_rooms n0 nA_numbers nA_syllables nA_days nA_words nA_parents nA_otherParents nA_kinds nA_hopeDays nA_hopeTenths n_numbers n_syllables n_syllableCount n_days n_words n_parents n_otherParents n_kinds n_personCount n_hopeDays n_hopeTenths n_hopeCount n_degreesTold p1 r_7 r_12 he_12) mi_X6_reformedNumber tw_4_55 ⟨(Nat.le_of_ble_eq_true rfl), (Nat.le_of_ble_eq_true rfl)⟩ ⟨rfl, rfl⟩ hP hE hX hS (ci := 6) rfl rfl (q0 := 0) rfl rfl hl.1 rfl (Nat.le_of_ble_eq_true rfl) dX6_reform_68 ⟨(Nat.le_of_ble_eq_true rfl), (Nat.le_of_ble_eq_true rfl)⟩ ?_
                refine lv_goto (tgt := 80) hx hb dX6_reform_71 (by decide) ?_
                exact zRPi hQ hx hb hr hlk (Option.some.inj hf) dX6_reform_80
            · have hf := zz_it hf hc_9
              refine lv_iload_n hx hb dX6_reform_58 rfl (lv_at hl 0 rfl) ?_
              exact zRPi hQ hx hb hr hlk (Option.some.inj hf) dX6_reform_59
        · have hf := zz_it hf hc_6
          refine lv_bipush (v := (-4 : Int32)) hx hb dX6_reform_40 (by decide) ?_
          exact zRPi hQ hx hb hr hlk (Option.some.inj hf) dX6_reform_42
      · have hf := zz_if hf hc_4
        refine lv_bipush (v := (-3 : Int32)) hx hb dX6_reform_23 (by decide) ?_
        exact zRPi hQ hx hb hr hlk (Option.some.inj hf) dX6_reform_25
  · have hf := zz_it hf hc_2
    refine lv_bipush (v := (-2 : Int32)) hx hb dX6_reform_11 (by decide) ?_
    exact zRPi hQ hx hb hr hlk (Option.some.inj hf) dX6_reform_13
def f_X6_nicknames (N : Nat) (n_numbers : Nat → Int32) (n_syllables : Nat → Int64) (n_syllableCount : Int32) (n_days : Nat → Int32) (n_words : Nat → Int64) (n_personCount : Int32) (m_codes : Nat → Int64) (m_size : Int32) (m_partCodes : Nat → Int64) (m_partShifts : Nat → Int64) (m_partSums : Nat → Int32) (m_partCount : Int32) (m_wantedDay : Int32) (m_divisorsWanted : Int32) (p1 : Int32) (p2 : Int32) : Option (Int64 × (Nat → Int64) × (Int32) × (Nat → Int64) × (Nat → Int64) × (Nat → Int32) × (Int32) × (Int32) × (Int32)) := zz_b1 (f_X5_isPerson N n_personCount p1) (fun r_1 => (if r_1 = 0 then (some ((-2 : Int64), m_codes, m_size, m_partCodes, m_partShifts, m_partSums, m_partCount, m_wantedDay, m_divisorsWanted)) else zz_b1 (f_X6_isZeroOrOne N p2) (fun r_3 => (if r_3 = 0 then (some ((-3 : Int64), m_codes, m_size, m_partCodes, m_partShifts, m_partSums, m_partCount, m_wantedDay, m_divisorsWanted)) else zz_gd (zz_in p1 16) ((if (n_words p1.toNatClampNeg) = (0 : Int64) then (some ((-4 : Int64), m_codes, m_size, m_partCodes, m_partShifts, m_partSums, m_partCount, m_wantedDay, m_divisorsWanted)) else zz_b8 (f_X0_gather N m_codes m_partCodes m_partShifts m_partSums n_numbers n_syllables n_syllableCount (n_days p1.toNatClampNeg) (1 : Int32)) (fun m_codes_7 m_size_8 m_partCodes_9 m_partShifts_10 m_partSums_11 m_partCount_12 m_wantedDay_13 m_divisorsWanted_14 => zz_b2 (f_X0_dropNoNicknames N m_codes_7 m_size_8 (n_words p1.toNatClampNeg)) (fun m_codes_15 m_size_16 => (if p2 = 0 then (some (m_size_16.toInt64, m_codes_15, m_size_16, m_partCodes_9, m_partShifts_10, m_partSums_11, m_partCount_12, m_wantedDay_13, m_divisorsWanted_14)) else (if m_size_16 ≤ 0 then (some ((-1 : Int64), m_codes_15, m_size_16, m_partCodes_9, m_partShifts_10, m_partSums_11, m_partCount_12, m_wantedDay_13, m_divisorsWanted_14)) else (some (m_codes_15 (0 : Int32).toNatClampNeg, m_codes_15, m_size_16, m_partCodes_9, m_partShifts_10, m_partSums_11, m_partCount_12, m_wantedDay_13, m_divisorsWanted_14))))))))))))
abbrev rm_X6_nicknames : Room := { frames := 7, cells := 0, slots := 0, locals := 187 }
theorem mi_X6_nicknames : zMI RX6 yX6_nicknames cX6_nicknames 3 (some .long) 2 := ⟨⟨tw_4_66, tw_4_67, tw_1_1, tw_4_68⟩, by decide +kernel, by decide +kernel, by decide +kernel⟩
set_option maxHeartbeats 4000000 in
set_option maxRecDepth 100000 in
theorem k_X6_nicknames (l : Launch) (D : va_G) (c : Nat → ClassId) (N : Nat) (t0 : Nat) (n0 : Nat) (tA_images : Nat) (r0 : Nat) (m0 : Nat) (h0 : Nat) (o0 : Nat) (sA : Nat) (tA_rooms : Nat) (t_rooms : Nat → Int32) (n0_x : Nat) (nA_numbers : Nat) (nA_syllables : Nat) (nA_days : Nat) (nA_words : Nat) (nA_parents : Nat) (nA_otherParents : Nat) (nA_kinds : Nat) (nA_hopeDays : Nat) (nA_hopeTenths : Nat) (n_numbers : Nat → Int32) (n_syllables : Nat → Int64) (n_syllableCount : Int32) (n_days : Nat → Int32) (n_words : Nat → Int64) (n_parents : Nat → Int32) (n_otherParents : Nat → Int32) (n_kinds : Nat → Int32) (n_personCount : Int32) (n_hopeDays : Nat → Int32) (n_hopeTenths : Nat → Int32) (n_hopeCount : Int32) (n_degreesTold : Int32) (m0_x : Nat) (mA_codes : Nat) (mA_partCodes : Nat) (mA_partShifts : Nat) (mA_partSums : Nat) (m_codes : Nat → Int64) (m_size : Int32) (m_partCodes : Nat → Int64) (m_partShifts : Nat → Int64) (m_partSums : Nat → Int32) (m_partCount : Int32) (m_wantedDay : Int32) (m_divisorsWanted : Int32) (p1 : Int32) (p2 : Int32) (o : Int64) (o_m_codes : Nat → Int64) (o_m_size : Int32) (o_m_partCodes : Nat → Int64) (o_m_partShifts : Nat → Int64) (o_m_partSums : Nat → Int32) (o_m_partCount : Int32) (o_m_wantedDay : Int32) (o_m_divisorsWanted : Int32) (hf : f_X6_nicknames N n_numbers n_syllables n_syllableCount n_days n_words n_personCount m_codes m_size m_partCodes m_partShifts m_partSums m_partCount m_wantedDay m_divisorsWanted p1 p2 = some (o, o_m_codes, o_m_size, o_m_partCodes, o_m_partShifts, o_m_partSums, o_m_partCount, o_m_wantedDay, o_m_divisorsWanted)) : zMWl l D c yX6_nicknames cX6_nicknames 3 (some .long) rm_X6_nicknames (wX6 c t0 n0 tA_images r0 m0 h0 o0 sA tA_rooms t_rooms ++ wX5 c n0 nA_numbers nA_syllables nA_days nA_words nA_parents nA_otherParents nA_kinds nA_hopeDays nA_hopeTenths n_numbers n_syllables n_syllableCount n_days n_words n_parents n_otherParents n_kinds n_personCount n_hopeDays n_hopeTenths n_hopeCount n_degreesTold ++ wX0 c m0 mA_codes mA_partCodes mA_partShifts mA_partSums m_codes m_size m_partCodes m_partShifts m_partSums m_partCount m_wantedDay m_divisorsWanted) (wX6 c t0 n0 tA_images r0 m0 h0 o0 sA tA_rooms t_rooms ++ wX5 c n0 nA_numbers nA_syllables nA_days nA_words nA_parents nA_otherParents nA_kinds nA_hopeDays nA_hopeTenths n_numbers n_syllables n_syllableCount n_days n_words n_parents n_otherParents n_kinds n_personCount n_hopeDays n_hopeTenths n_hopeCount n_degreesTold ++ wX0 c m0 mA_codes mA_partCodes mA_partShifts mA_partSums o_m_codes o_m_size o_m_partCodes o_m_partShifts o_m_partSums o_m_partCount o_m_wantedDay o_m_divisorsWanted) [.ref t0, .int p1, .int p2] o := by
  intro sz
  refine zIW (by decide) (Nat.le_of_ble_eq_true rfl) ?_
  intro p e s m args below meth c0 Q A hAe hQ hx hb hr hlk hml hts hown hP hE hD hS hA hsz hmn hX ls hl
  rw [← hAe] at hQ
  have S : CallFix p m c0 cX6_nicknames 3 s args zT RX6 := ⟨hx, hb, hml, hown, hts⟩
  have hl : lv_has ls 3 [(0, .ref t0), (1, .int p1), (2, .int p2)] := hl
  unfold f_X6_nicknames at hf
  refine lv_aload_n hx hb dX6_nicknames_0 rfl (lv_at hl 0 rfl) ?_
  refine zget S uw_X6 hE hP 0 0 rfl rfl (by decide) tw_2_9 rfl rfl dX6_nicknames_1 ?_
  refine lv_iload_n hx hb dX6_nicknames_4 rfl (lv_at hl 1 rfl) ?_
  obtain ⟨r_1, he_1, hf⟩ := zz_b1_use hf
  refine zcVi (As := [.int p1]) (rest := []) S (k_X5_isPerson l D c N n0 nA_numbers nA_syllables nA_days nA_words nA_parents nA_otherParents nA_kinds nA_hopeDays nA_hopeTenths n_numbers n_syllables n_syllableCount n_days n_words n_parents n_otherParents n_kinds n_personCount n_hopeDays n_hopeTenths n_hopeCount n_degreesTold p1 r_1 he_1) mi_X5_isPerson tw_2_238 ⟨(Nat.le_of_ble_eq_true rfl), (Nat.le_of_ble_eq_true rfl)⟩ ⟨rfl, rfl⟩ (zpsub (is := [2, 3, 4, 5, 6, 7, 8, 9, 10, 11]) hP rfl) hE hX hS (ci := 5) rfl rfl (q0 := 0) rfl rfl hl.1 rfl (Nat.le_of_ble_eq_true rfl) dX6_nicknames_5 ⟨(Nat.le_of_ble_eq_true rfl), (Nat.le_of_ble_eq_true rfl)⟩ ?_
  refine lv_if_ne (tgt := 15) hx hb dX6_nicknames_8 (by decide) (fun hc_2 => ?_) (fun hc_2 => ?_)
  · have hf := zz_if hf hc_2
    refine lv_iload_n hx hb dX6_nicknames_15 rfl (lv_at hl 2 rfl) ?_
    obtain ⟨r_3, he_3, hf⟩ := zz_b1_use hf
    refine zcSi (As := [.int p2]) (rest := []) S (k_X6_isZeroOrOne l D c N  p2 r_3 he_3) mi_X6_isZeroOrOne tw_3_152 ⟨(Nat.le_of_ble_eq_true rfl), (Nat.le_of_ble_eq_true rfl)⟩ ⟨rfl, rfl⟩ (zpnil) hE hX hS rfl hl.1 rfl (Nat.le_of_ble_eq_true rfl) dX6_nicknames_16 ⟨(Nat.le_of_ble_eq_true rfl), (Nat.le_of_ble_eq_true rfl)⟩ ?_
    refine lv_if_ne (tgt := 26) hx hb dX6_nicknames_19 (by decide) (fun hc_4 => ?_) (fun hc_4 => ?_)
    · have hf := zz_if hf hc_4
      refine lv_aload_n hx hb dX6_nicknames_26 rfl (lv_at hl 0 rfl) ?_
      refine zget S uw_X6 hE hP 0 0 rfl rfl (by decide) tw_2_9 rfl rfl dX6_nicknames_27 ?_
      refine zget S uw_X5 hE hP 2 4 rfl rfl (by decide) tw_1_45 rfl rfl dX6_nicknames_30 ?_
      refine lv_iload_n hx hb dX6_nicknames_33 rfl (lv_at hl 1 rfl) ?_
      obtain ⟨hin_5, hf⟩ := zz_gd_use hf
      refine zlld hx hb hE hP 6 rfl (zz_in_ok hin_5) dX6_nicknames_34 ?_
      refine lv_lconst (v := (0 : Int64)) hx hb dX6_nicknames_35 (by decide) ?_
      refine zlc_ne (tgt := 44) hx hb dX6_nicknames_36 dX6_nicknames_37 (by decide) (fun hc_6 => ?_) (fun hc_6 => ?_)
      · have hf := zz_if hf hc_6
        refine lv_aload_n hx hb dX6_nicknames_44 rfl (lv_at hl 0 rfl) ?_
        refine zget S uw_X6 hE hP 0 3 rfl rfl (by decide) tw_2_12 rfl rfl dX6_nicknames_45 ?_
        refine lv_aload_n hx hb dX6_nicknames_48 rfl (lv_at hl 0 rfl) ?_
        refine zget S uw_X6 hE hP 0 0 rfl rfl (by decide) tw_2_9 rfl rfl dX6_nicknames_49 ?_
        refine lv_aload_n hx hb dX6_nicknames_52 rfl (lv_at hl 0 rfl) ?_
        refine zget S uw_X6 hE hP 0 0 rfl rfl (by decide) tw_2_9 rfl rfl dX6_nicknames_53 ?_
        refine zget S uw_X5 hE hP 2 3 rfl rfl (by decide) tw_1_42 rfl rfl dX6_nicknames_56 ?_
        refine lv_iload_n hx hb dX6_nicknames_59 rfl (lv_at hl 1 rfl) ?_
        refine zild hx hb hE hP 5 rfl (zz_in_ok hin_5) dX6_nicknames_60 ?_
        refine lv_iconst (v := (1 : Int32)) hx hb dX6_nicknames_61 (by decide) ?_
        obtain ⟨m_codes_7, m_size_8, m_partCodes_9, m_partShifts_10, m_partSums_11, m_partCount_12, m_wantedDay_13, m_divisorsWanted_14, he_14, hf⟩ := zz_b8_use hf
        refine zwVv (As := [.ref n0, .int (n_days p1.toNatClampNeg), .int (1 : Int32)]) (rest := []) (wr := (wX6 c t0 n0 tA_images r0 m0 h0 o0 sA tA_rooms t_rooms)) (wX6 c t0 n0 tA_images r0 m0 h0 o0 sA tA_rooms t_rooms ++ wX5 c n0 nA_numbers nA_syllables nA_days nA_words nA_parents nA_otherParents nA_kinds nA_hopeDays nA_hopeTenths n_numbers n_syllables n_syllableCount n_days n_words n_parents n_otherParents n_kinds n_personCount n_hopeDays n_hopeTenths n_hopeCount n_degreesTold ++ wX0 c m0 mA_codes mA_partCodes mA_partShifts mA_partSums m_codes_7 m_size_8 m_partCodes_9 m_partShifts_10 m_partSums_11 m_partCount_12 m_wantedDay_13 m_divisorsWanted_14) [12, 13, 14, 15, 16, 2, 3, 4, 5, 6, 7, 8, 9, 10, 11] [0, 1] [0, 1, 7, 8, 9, 10, 11, 12, 13, 14, 15, 16, 2, 3, 4, 5, 6] S (k_X0_gather l D c N m0 mA_codes mA_partCodes mA_partShifts mA_partSums m_codes m_size m_partCodes m_partShifts m_partSums m_partCount m_wantedDay m_divisorsWanted n0 nA_numbers nA_syllables nA_days nA_words nA_parents nA_otherParents nA_kinds nA_hopeDays nA_hopeTenths n_numbers n_syllables n_syllableCount n_days n_words n_parents n_otherParents n_kinds n_personCount n_hopeDays n_hopeTenths n_hopeCount n_degreesTold (n_days p1.toNatClampNeg) (1 : Int32) m_codes_7 m_size_8 m_partCodes_9 m_partShifts_10 m_partSums_11 m_partCount_12 m_wantedDay_13 m_divisorsWanted_14 he_14) mi_X0_gather tw_3_102 ⟨(Nat.le_of_ble_eq_true rfl), (Nat.le_of_ble_eq_true rfl)⟩ ⟨rfl, rfl⟩ hP hD hS hA rfl rfl rfl rfl (by decide) rfl rfl hE hX (ci := 0) rfl rfl (q0 := 0) rfl rfl hl.1 rfl (Nat.le_of_ble_eq_true rfl) dX6_nicknames_62 ⟨(Nat.le_of_ble_eq_true rfl), (Nat.le_of_ble_eq_true rfl)⟩ (fun H locs hP hD hS => ?_)
        refine lv_aload_n hx hb dX6_nicknames_65 rfl (lv_at hl 0 rfl) ?_
        refine zget S uw_X6 hE hP 0 3 rfl rfl (by decide) tw_2_12 rfl rfl dX6_nicknames_66 ?_
        refine lv_aload_n hx hb dX6_nicknames_69 rfl (lv_at hl 0 rfl) ?_
        refine zget S uw_X6 hE hP 0 0 rfl rfl (by decide) tw_2_9 rfl rfl dX6_nicknames_70 ?_
        refine zget S uw_X5 hE hP 2 4 rfl rfl (by decide) tw_1_45 rfl rfl dX6_nicknames_73 ?_
        refine lv_iload_n hx hb dX6_nicknames_76 rfl (lv_at hl 1 rfl) ?_
        refine zlld hx hb hE hP 6 rfl (zz_in_ok hin_5) dX6_nicknames_77 ?_
        obtain ⟨m_codes_15, m_size_16, he_16, hf⟩ := zz_b2_use hf
        refine zwVv (As := [.long (n_words p1.toNatClampNeg)]) (rest := []) (wr := (wX6 c t0 n0 tA_images r0 m0 h0 o0 sA tA_rooms t_rooms ++ wX5 c n0 nA_numbers nA_syllables nA_days nA_words nA_parents nA_otherParents nA_kinds nA_hopeDays nA_hopeTenths n_numbers n_syllables n_syllableCount n_days n_words n_parents n_otherParents n_kinds n_personCount n_hopeDays n_hopeTenths n_hopeCount n_degreesTold)) (wX6 c t0 n0 tA_images r0 m0 h0 o0 sA tA_rooms t_rooms ++ wX5 c n0 nA_numbers nA_syllables nA_days nA_words nA_parents nA_otherParents nA_kinds nA_hopeDays nA_hopeTenths n_numbers n_syllables n_syllableCount n_days n_words n_parents n_otherParents n_kinds n_personCount n_hopeDays n_hopeTenths n_hopeCount n_degreesTold ++ wX0 c m0 mA_codes mA_partCodes mA_partShifts mA_partSums m_codes_15 m_size_16 m_partCodes_9 m_partShifts_10 m_partSums_11 m_partCount_12 m_wantedDay_13 m_divisorsWanted_14) [12, 13, 14, 15, 16] [0, 1, 2, 3, 4, 5, 6, 7, 8, 9, 10, 11] [0, 1, 2, 3, 4, 5, 6, 7, 8, 9, 10, 11, 12, 13, 14, 15, 16] S (k_X0_dropNoNicknames l D c N m0 mA_codes mA_partCodes mA_partShifts mA_partSums m_codes_7 m_size_8 m_partCodes_9 m_partShifts_10 m_partSums_11 m_partCount_12 m_wantedDay_13 m_divisorsWanted_14 (n_words p1.toNatClampNeg) m_codes_15 m_size_16 he_16) mi_X0_dropNoNicknames tw_4_69 ⟨(Nat.le_of_ble_eq_true rfl), (Nat.le_of_ble_eq_true rfl)⟩ ⟨rfl, rfl⟩ hP hD hS hA rfl rfl rfl rfl (by decide) rfl rfl hE hX (ci := 0) rfl rfl (q0 := 0) rfl rfl hl.1 rfl (Nat.le_of_ble_eq_true rfl) dX6_nicknames_78 ⟨(Nat.le_of_ble_eq_true rfl), (Nat.le_of_ble_eq_true rfl)⟩ (fun H locs hP hD hS => ?_)
        refine lv_iload_n hx hb dX6_nicknames_81 rfl (lv_at hl 2 rfl) ?_
        refine lv_if_ne (tgt := 94) hx hb dX6_nicknames_82 (by decide) (fun hc_17 => ?_) (fun hc_17 => ?_)
        · have hf := zz_if hf hc_17
          refine lv_aload_n hx hb dX6_nicknames_94 rfl (lv_at hl 0 rfl) ?_
          refine zget S uw_X6 hE hP 0 3 rfl rfl (by decide) tw_2_12 rfl rfl dX6_nicknames_95 ?_
          refine zget S uw_X0 hE hP 12 1 rfl rfl (by decide) tw_1_151 rfl rfl dX6_nicknames_98 ?_
          refine lv_if_le (tgt := 116) hx hb dX6_nicknames_101 (by decide) (fun hc_18 => ?_) (fun hc_18 => ?_)
          · have hf := zz_it hf hc_18
            refine lv_ldc2 (v := (-1 : Int64)) hx hb hown (hts _ tw_3_138) dX6_nicknames_116 ?_
            cases hf
            exact zRWl hQ hx hb hr hlk rfl hP hD hS dX6_nicknames_119
          · have hf := zz_if hf hc_18
            refine lv_aload_n hx hb dX6_nicknames_104 rfl (lv_at hl 0 rfl) ?_
            refine zget S uw_X6 hE hP 0 3 rfl rfl (by decide) tw_2_12 rfl rfl dX6_nicknames_105 ?_
            refine zget S uw_X0 hE hP 12 0 rfl rfl (by decide) tw_1_149 rfl rfl dX6_nicknames_108 ?_
            refine lv_iconst (v := (0 : Int32)) hx hb dX6_nicknames_111 (by decide) ?_
            refine zlld hx hb hE hP 13 rfl (zz_in_ok (by decide)) dX6_nicknames_112 ?_
            refine lv_goto (tgt := 119) hx hb dX6_nicknames_113 (by decide) ?_
            cases hf
            exact zRWl hQ hx hb hr hlk rfl hP hD hS dX6_nicknames_119
        · have hf := zz_it hf hc_17
          refine lv_aload_n hx hb dX6_nicknames_85 rfl (lv_at hl 0 rfl) ?_
          refine zget S uw_X6 hE hP 0 3 rfl rfl (by decide) tw_2_12 rfl rfl dX6_nicknames_86 ?_
          refine zget S uw_X0 hE hP 12 1 rfl rfl (by decide) tw_1_151 rfl rfl dX6_nicknames_89 ?_
          refine lv_i2l (v := m_size_16.toInt64) hx hb dX6_nicknames_92 rfl ?_
          cases hf
          exact zRWl hQ hx hb hr hlk rfl hP hD hS dX6_nicknames_93
      · have hf := zz_it hf hc_6
        refine lv_ldc2 (v := (-4 : Int64)) hx hb hown (hts _ tw_3_217) dX6_nicknames_40 ?_
        cases hf
        exact zRWl hQ hx hb hr hlk rfl hP hD hS dX6_nicknames_43
    · have hf := zz_it hf hc_4
      refine lv_ldc2 (v := (-3 : Int64)) hx hb hown (hts _ tw_3_137) dX6_nicknames_22 ?_
      cases hf
      exact zRWl hQ hx hb hr hlk rfl hP hD hS dX6_nicknames_25
  · have hf := zz_it hf hc_2
    refine lv_ldc2 (v := (-2 : Int64)) hx hb hown (hts _ tw_3_18) dX6_nicknames_11 ?_
    cases hf
    exact zRWl hQ hx hb hr hlk rfl hP hD hS dX6_nicknames_14
def f_X6_page_L69 (N : Nat) (k_10 : (Int32) → Option (Int32)) (n_numbers : Nat → Int32) (n_words : Nat → Int64) (n_personCount : Int32) (p1 : Int32) (p3 : Int32) (v4_9 : Int32) : Nat → (Int32) → (Int32) → Option (Int32)
  | 0, _, _ => none
  | n_10 + 1, v5_11, v6_12 => (if n_personCount ≤ v6_12 then (k_10 v5_11) else zz_let (fun (q_18 : Int32) => zz_let (zz_let (v5_11 + q_18) (fun v5_22 => zz_let (v6_12 + (1 : Int32)) (fun v6_23 => (f_X6_page_L69 N k_10 n_numbers n_words n_personCount p1 p3 v4_9 n_10 v5_22 v6_23)))) (fun k_21 => (if q_18 ≤ 0 then k_21 else (if p3 = (1 : Int32) then (some v6_12) else k_21)))) (fun k_17 => (if ((p1 >>> (v6_12 &&& 31)) &&& (1 : Int32)) = 0 then (k_17 (0 : Int32)) else zz_gd (zz_in v6_12 16) (zz_b1 (f_X5_changesBy N n_numbers (n_words v6_12.toNatClampNeg) v4_9) (fun r_16 => (k_17 r_16))))))
theorem f_X6_page_L69_s (N : Nat) (k_10 : (Int32) → Option (Int32)) (n_numbers : Nat → Int32) (n_words : Nat → Int64) (n_personCount : Int32) (p1 : Int32) (p3 : Int32) (v4_9 : Int32) (n_10 : Nat) (v5_11 : Int32) (v6_12 : Int32) : f_X6_page_L69 N k_10 n_numbers n_words n_personCount p1 p3 v4_9 (n_10 + 1) v5_11 v6_12 = (if n_personCount ≤ v6_12 then (k_10 v5_11) else zz_let (fun (q_18 : Int32) => zz_let (zz_let (v5_11 + q_18) (fun v5_22 => zz_let (v6_12 + (1 : Int32)) (fun v6_23 => (f_X6_page_L69 N k_10 n_numbers n_words n_personCount p1 p3 v4_9 n_10 v5_22 v6_23)))) (fun k_21 => (if q_18 ≤ 0 then k_21 else (if p3 = (1 : Int32) then (some v6_12) else k_21)))) (fun k_17 => (if ((p1 >>> (v6_12 &&& 31)) &&& (1 : Int32)) = 0 then (k_17 (0 : Int32)) else zz_gd (zz_in v6_12 16) (zz_b1 (f_X5_changesBy N n_numbers (n_words v6_12.toNatClampNeg) v4_9) (fun r_16 => (k_17 r_16)))))) := rfl
def f_X6_page (N : Nat) (n_numbers : Nat → Int32) (n_words : Nat → Int64) (n_personCount : Int32) (p1 : Int32) (p2 : Int32) (p3 : Int32) : Option (Int32) := (if (p1 &&& ((-1 : Int32) <<< (n_personCount &&& 31))) = 0 then (if p2 < 0 then (some (-3 : Int32)) else (if (9999 : Int32) < p2 then (some (-3 : Int32)) else zz_b1 (f_X6_isZeroOrOne N p3) (fun r_4 => (if r_4 = 0 then (some (-3 : Int32)) else zz_b1 (f_X5_leastCalled N n_words n_personCount (0 : Int64) p1) (fun r_6 => (if r_6 = (-1 : Int32) then zz_b1 (f_X5_sumOfAll N n_numbers n_words n_personCount p1) (fun r_8 => zz_let (p2 - r_8) (fun v4_9 => zz_let (fun (v5_24 : Int32) => (if p3 = 0 then (some v5_24) else (some (-1 : Int32)))) (fun k_10 => f_X6_page_L69 N k_10 n_numbers n_words n_personCount p1 p3 v4_9 N (0 : Int32) (0 : Int32)))) else (some (-4 : Int32)))))))) else (some (-3 : Int32)))
abbrev rm_X6_page : Room := { frames := 3, cells := 0, slots := 0, locals := 71 }
theorem mi_X6_page : zMI RX6 yX6_page cX6_page 8 (some .int) 3 := ⟨⟨tw_4_77, tw_4_78, tw_1_1, tw_4_79⟩, by decide +kernel, by decide +kernel, by decide +kernel⟩
set_option maxHeartbeats 4000000 in
set_option maxRecDepth 100000 in
theorem k_X6_page (l : Launch) (D : va_G) (c : Nat → ClassId) (N : Nat) (t0 : Nat) (n0 : Nat) (tA_images : Nat) (r0 : Nat) (m0 : Nat) (h0 : Nat) (o0 : Nat) (sA : Nat) (tA_rooms : Nat) (t_rooms : Nat → Int32) (n0_x : Nat) (nA_numbers : Nat) (nA_syllables : Nat) (nA_days : Nat) (nA_words : Nat) (nA_parents : Nat) (nA_otherParents : Nat) (nA_kinds : Nat) (nA_hopeDays : Nat) (nA_hopeTenths : Nat) (n_numbers : Nat → Int32) (n_syllables : Nat → Int64) (n_syllableCount : Int32) (n_days : Nat → Int32) (n_words : Nat → Int64) (n_parents : Nat → Int32) (n_otherParents : Nat → Int32) (n_kinds : Nat → Int32) (n_personCount : Int32) (n_hopeDays : Nat → Int32) (n_hopeTenths : Nat → Int32) (n_hopeCount : Int32) (n_degreesTold : Int32) (p1 : Int32) (p2 : Int32) (p3 : Int32) (o : Int32) (hf : f_X6_page N n_numbers n_words n_personCount p1 p2 p3 = some o) : zMPi l D c yX6_page cX6_page 8 (some .int) rm_X6_page (wX6 c t0 n0 tA_images r0 m0 h0 o0 sA tA_rooms t_rooms ++ wX5 c n0 nA_numbers nA_syllables nA_days nA_words nA_parents nA_otherParents nA_kinds nA_hopeDays nA_hopeTenths n_numbers n_syllables n_syllableCount n_days n_words n_parents n_otherParents n_kinds n_personCount n_hopeDays n_hopeTenths n_hopeCount n_degreesTold) [.ref t0, .int p1, .int p2, .int p3] o := by
  refine zIP (by decide) (Nat.le_of_ble_eq_true rfl) ?_
  intro p e s m args below meth c0 Q hQ hx hb hr hlk hml hts hown hP hE hX hS ls hl
  have S : CallFix p m c0 cX6_page 8 s args zT RX6 := ⟨hx, hb, hml, hown, hts⟩
  have hl : lv_has ls 8 [(0, .ref t0), (1, .int p1), (2, .int p2), (3, .int p3)] := hl
  unfold f_X6_page at hf
  refine lv_iload_n hx hb dX6_page_0 rfl (lv_at hl 1 rfl) ?_
  refine lv_iconst (v := (-1 : Int32)) hx hb dX6_page_1 (by decide) ?_
  refine lv_aload_n hx hb dX6_page_2 rfl (lv_at hl 0 rfl) ?_
  refine zget S uw_X6 hE hP 0 0 rfl rfl (by decide) tw_2_9 rfl rfl dX6_page_3 ?_
  refine zget S uw_X5 hE hP 2 8 rfl rfl (by decide) tw_1_56 rfl rfl dX6_page_6 ?_
  refine lv_ishl hx hb dX6_page_9 ?_
  refine lv_iand hx hb dX6_page_10 ?_
  refine lv_if_ne (tgt := 32) hx hb dX6_page_11 (by decide) (fun hc_1 => ?_) (fun hc_1 => ?_)
  · have hf := zz_if hf hc_1
    refine lv_bipush (v := (-3 : Int32)) hx hb dX6_page_32 (by decide) ?_
    exact zRPi hQ hx hb hr hlk (Option.some.inj hf) dX6_page_34
  · have hf := zz_it hf hc_1
    refine lv_iload_n hx hb dX6_page_14 rfl (lv_at hl 2 rfl) ?_
    refine lv_if_lt (tgt := 32) hx hb dX6_page_15 (by decide) (fun hc_2 => ?_) (fun hc_2 => ?_)
    · have hf := zz_it hf hc_2
      refine lv_bipush (v := (-3 : Int32)) hx hb dX6_page_32 (by decide) ?_
      exact zRPi hQ hx hb hr hlk (Option.some.inj hf) dX6_page_34
    · have hf := zz_if hf hc_2
      refine lv_iload_n hx hb dX6_page_18 rfl (lv_at hl 2 rfl) ?_
      refine lv_sipush (v := (9999 : Int32)) hx hb dX6_page_19 (by decide) ?_
      refine lv_icmp_gt (tgt := 32) hx hb dX6_page_22 (by decide) (fun hc_3 => ?_) (fun hc_3 => ?_)
      · have hf := zz_it hf hc_3
        refine lv_bipush (v := (-3 : Int32)) hx hb dX6_page_32 (by decide) ?_
        exact zRPi hQ hx hb hr hlk (Option.some.inj hf) dX6_page_34
      · have hf := zz_if hf hc_3
        refine lv_iload_n hx hb dX6_page_25 rfl (lv_at hl 3 rfl) ?_
        obtain ⟨r_4, he_4, hf⟩ := zz_b1_use hf
        refine zcSi (As := [.int p3]) (rest := []) S (k_X6_isZeroOrOne l D c N  p3 r_4 he_4) mi_X6_isZeroOrOne tw_3_152 ⟨(Nat.le_of_ble_eq_true rfl), (Nat.le_of_ble_eq_true rfl)⟩ ⟨rfl, rfl⟩ (zpnil) hE hX hS rfl hl.1 rfl (Nat.le_of_ble_eq_true rfl) dX6_page_26 ⟨(Nat.le_of_ble_eq_true rfl), (Nat.le_of_ble_eq_true rfl)⟩ ?_
        refine lv_if_ne (tgt := 35) hx hb dX6_page_29 (by decide) (fun hc_5 => ?_) (fun hc_5 => ?_)
        · have hf := zz_if hf hc_5
          refine lv_aload_n hx hb dX6_page_35 rfl (lv_at hl 0 rfl) ?_
          refine zget S uw_X6 hE hP 0 0 rfl rfl (by decide) tw_2_9 rfl rfl dX6_page_36 ?_
          refine lv_lconst (v := (0 : Int64)) hx hb dX6_page_39 (by decide) ?_
          refine lv_iload_n hx hb dX6_page_40 rfl (lv_at hl 1 rfl) ?_
          obtain ⟨r_6, he_6, hf⟩ := zz_b1_use hf
          refine zcVi (As := [.long (0 : Int64), .int p1]) (rest := []) S (k_X5_leastCalled l D c N n0 nA_numbers nA_syllables nA_days nA_words nA_parents nA_otherParents nA_kinds nA_hopeDays nA_hopeTenths n_numbers n_syllables n_syllableCount n_days n_words n_parents n_otherParents n_kinds n_personCount n_hopeDays n_hopeTenths n_hopeCount n_degreesTold (0 : Int64) p1 r_6 he_6) mi_X5_leastCalled tw_3_94 ⟨(Nat.le_of_ble_eq_true rfl), (Nat.le_of_ble_eq_true rfl)⟩ ⟨rfl, rfl⟩ (zpsub (is := [2, 3, 4, 5, 6, 7, 8, 9, 10, 11]) hP rfl) hE hX hS (ci := 5) rfl rfl (q0 := 0) rfl rfl hl.1 rfl (Nat.le_of_ble_eq_true rfl) dX6_page_41 ⟨(Nat.le_of_ble_eq_true rfl), (Nat.le_of_ble_eq_true rfl)⟩ ?_
          refine lv_iconst (v := (-1 : Int32)) hx hb dX6_page_44 (by decide) ?_
          refine lv_icmp_eq (tgt := 51) hx hb dX6_page_45 (by decide) (fun hc_7 => ?_) (fun hc_7 => ?_)
          · have hf := zz_it hf hc_7
            refine lv_iload_n hx hb dX6_page_51 rfl (lv_at hl 2 rfl) ?_
            refine lv_aload_n hx hb dX6_page_52 rfl (lv_at hl 0 rfl) ?_
            refine zget S uw_X6 hE hP 0 0 rfl rfl (by decide) tw_2_9 rfl rfl dX6_page_53 ?_
            refine lv_iload_n hx hb dX6_page_56 rfl (lv_at hl 1 rfl) ?_
            obtain ⟨r_8, he_8, hf⟩ := zz_b1_use hf
            refine zcVi (As := [.int p1]) (rest := [.int p2]) S (k_X5_sumOfAll l D c N n0 nA_numbers nA_syllables nA_days nA_words nA_parents nA_otherParents nA_kinds nA_hopeDays nA_hopeTenths n_numbers n_syllables n_syllableCount n_days n_words n_parents n_otherParents n_kinds n_personCount n_hopeDays n_hopeTenths n_hopeCount n_degreesTold p1 r_8 he_8) mi_X5_sumOfAll tw_4_80 ⟨(Nat.le_of_ble_eq_true rfl), (Nat.le_of_ble_eq_true rfl)⟩ ⟨rfl, rfl⟩ (zpsub (is := [2, 3, 4, 5, 6, 7, 8, 9, 10, 11]) hP rfl) hE hX hS (ci := 5) rfl rfl (q0 := 0) rfl rfl hl.1 rfl (Nat.le_of_ble_eq_true rfl) dX6_page_57 ⟨(Nat.le_of_ble_eq_true rfl), (Nat.le_of_ble_eq_true rfl)⟩ ?_
            refine lv_isub hx hb dX6_page_60 ?_
            obtain ⟨v4_9, ev4_9, hf⟩ := zz_let_use hf
            refine zti ev4_9 ?_
            refine lv_istore (lv' := [(4, .int v4_9), (0, .ref t0), (1, .int p1), (2, .int p2), (3, .int p3)]) hx hb dX6_page_61 hl (by decide) rfl (fun ls hl => ?_)
            refine lv_iconst (v := (0 : Int32)) hx hb dX6_page_63 (by decide) ?_
            refine lv_istore (lv' := [(5, .int (0 : Int32)), (4, .int v4_9), (0, .ref t0), (1, .int p1), (2, .int p2), (3, .int p3)]) hx hb dX6_page_64 hl (by decide) rfl (fun ls hl => ?_)
            refine lv_iconst (v := (0 : Int32)) hx hb dX6_page_66 (by decide) ?_
            refine lv_istore (lv' := [(6, .int (0 : Int32)), (5, .int (0 : Int32)), (4, .int v4_9), (0, .ref t0), (1, .int p1), (2, .int p2), (3, .int p3)]) hx hb dX6_page_67 hl (by decide) rfl (fun ls hl => ?_)
            obtain ⟨k_10, hk_10, hf⟩ := zz_let_use hf
            have hX_10 : ∀ (v5_24 : Int32) (ls : Array Slot), k_10 v5_24 = some o → lv_has ls 8 [(3, .int p3), (5, .int v5_24)] → W p l e rm_X6_page s m args below meth c0 s.heap [] 0 0 Q (F0 m 141 ls []) := by
              intro v5_24 ls hf hl
              subst hk_10
              refine lv_iload_n hx hb dX6_page_141 rfl (lv_at hl 0 rfl) ?_
              refine lv_if_ne (tgt := 150) hx hb dX6_page_142 (by decide) (fun hc_25 => ?_) (fun hc_25 => ?_)
              · have hf := zz_if hf hc_25
                refine lv_iconst (v := (-1 : Int32)) hx hb dX6_page_150 (by decide) ?_
                exact zRPi hQ hx hb hr hlk (Option.some.inj hf) dX6_page_151
              · have hf := zz_it hf hc_25
                refine lv_iload hx hb dX6_page_145 (lv_at hl 1 rfl) ?_
                refine lv_goto (tgt := 151) hx hb dX6_page_147 (by decide) ?_
                exact zRPi hQ hx hb hr hlk (Option.some.inj hf) dX6_page_151
            have hL_10 : ∀ (n_10 : Nat) (v5_11 : Int32) (v6_12 : Int32) (ls : Array Slot), f_X6_page_L69 N k_10 n_numbers n_words n_personCount p1 p3 v4_9 n_10 v5_11 v6_12 = some o → lv_has ls 8 [(0, .ref t0), (1, .int p1), (3, .int p3), (4, .int v4_9), (5, .int v5_11), (6, .int v6_12)] → W p l e rm_X6_page s m args below meth c0 s.heap [] 0 0 Q (F0 m 69 ls []) := by
              intro n_10
              induction n_10 with
              | zero => intro v5_11 v6_12 ls hf hl; exact zz_none hf
              | succ n_10 ih_10 =>
                intro v5_11 v6_12 ls hf hl
                rw [f_X6_page_L69_s] at hf
                refine lv_iload hx hb dX6_page_69 (lv_at hl 5 rfl) ?_
                refine lv_aload_n hx hb dX6_page_71 rfl (lv_at hl 0 rfl) ?_
                refine zget S uw_X6 hE hP 0 0 rfl rfl (by decide) tw_2_9 rfl rfl dX6_page_72 ?_
                refine zget S uw_X5 hE hP 2 8 rfl rfl (by decide) tw_1_56 rfl rfl dX6_page_75 ?_
                refine lv_icmp_ge (tgt := 141) hx hb dX6_page_78 (by decide) (fun hc_13 => ?_) (fun hc_13 => ?_)
                · have hf := zz_it hf hc_13
                  exact hX_10 v5_11 ls hf (lv_sub hl [2, 4] rfl)
                · have hf := zz_if hf hc_13
                  refine lv_iload_n hx hb dX6_page_81 rfl (lv_at hl 1 rfl) ?_
                  refine lv_iload hx hb dX6_page_82 (lv_at hl 5 rfl) ?_
                  refine lv_ishr hx hb dX6_page_84 ?_
                  refine lv_iconst (v := (1 : Int32)) hx hb dX6_page_85 (by decide) ?_
                  refine lv_iand hx hb dX6_page_86 ?_
                  obtain ⟨k_17, hk_17, hf⟩ := zz_let_use hf
                  have hJ_17 : ∀ (q_18 : Int32) (ls : Array Slot), k_17 q_18 = some o → lv_has ls 8 [(0, .ref t0), (1, .int p1), (3, .int p3), (4, .int v4_9), (5, .int v5_11), (6, .int v6_12)] → W p l e rm_X6_page s m args below meth c0 s.heap [] 0 0 Q (F0 m 113 ls [.int q_18]) := by
                    intro q_18 ls hf hl
                    subst hk_17
                    refine lv_istore (lv' := [(7, .int q_18), (0, .ref t0), (1, .int p1), (3, .int p3), (4, .int v4_9), (5, .int v5_11), (6, .int v6_12)]) hx hb dX6_page_113 hl (by decide) rfl (fun ls hl => ?_)
                    refine lv_iload hx hb dX6_page_115 (lv_at hl 0 rfl) ?_
                    obtain ⟨k_21, hk_21, hf⟩ := zz_let_use hf
                    have hJ_21 : ∀ (ls : Array Slot), k_21 = some o → lv_has ls 8 [(0, .ref t0), (1, .int p1), (3, .int p3), (4, .int v4_9), (5, .int v5_11), (6, .int v6_12), (7, .int q_18)] → W p l e rm_X6_page s m args below meth c0 s.heap [] 0 0 Q (F0 m 128 ls []) := by
                      intro ls hf hl
                      subst hk_21
                      refine lv_iload hx hb dX6_page_128 (lv_at hl 4 rfl) ?_
                      refine lv_iload hx hb dX6_page_130 (lv_at hl 6 rfl) ?_
                      refine lv_iadd hx hb dX6_page_132 ?_
                      obtain ⟨v5_22, ev5_22, hf⟩ := zz_let_use hf
                      refine zti ev5_22 ?_
                      refine lv_istore (lv' := [(5, .int v5_22), (0, .ref t0), (1, .int p1), (3, .int p3), (4, .int v4_9), (6, .int v6_12), (7, .int q_18)]) hx hb dX6_page_133 hl (by decide) rfl (fun ls hl => ?_)
                      obtain ⟨v6_23, ev6_23, hf⟩ := zz_let_use hf
                      refine lv_iinc (v := v6_23) (lv' := [(6, .int v6_23), (5, .int v5_22), (0, .ref t0), (1, .int p1), (3, .int p3), (4, .int v4_9), (7, .int q_18)]) hx hb dX6_page_135 hl (k := 5) rfl (by rw [← ev6_23]; rfl) (by decide) rfl (fun ls hl => ?_)
                      refine lv_goto (tgt := 69) hx hb dX6_page_138 (by decide) ?_
                      exact ih_10 v5_22 v6_23 ls hf (lv_sub hl [2, 3, 4, 5, 1, 0] rfl)
                    refine lv_if_le (tgt := 128) hx hb dX6_page_117 (by decide) (fun hc_19 => ?_) (fun hc_19 => ?_)
                    · have hf := zz_it hf hc_19
                      exact hJ_21 ls hf (lv_sub hl [1, 2, 3, 4, 5, 6, 0] rfl)
                    · have hf := zz_if hf hc_19
                      refine lv_iload_n hx hb dX6_page_120 rfl (lv_at hl 3 rfl) ?_
                      refine lv_iconst (v := (1 : Int32)) hx hb dX6_page_121 (by decide) ?_
                      refine lv_icmp_ne (tgt := 128) hx hb dX6_page_122 (by decide) (fun hc_20 => ?_) (fun hc_20 => ?_)
                      · have hf := zz_if hf hc_20
                        exact hJ_21 ls hf (lv_sub hl [1, 2, 3, 4, 5, 6, 0] rfl)
                      · have hf := zz_it hf hc_20
                        refine lv_iload hx hb dX6_page_125 (lv_at hl 6 rfl) ?_
                        exact zRPi hQ hx hb hr hlk (Option.some.inj hf) dX6_page_127
                  refine lv_if_eq (tgt := 112) hx hb dX6_page_87 (by decide) (fun hc_14 => ?_) (fun hc_14 => ?_)
                  · have hf := zz_it hf hc_14
                    refine lv_iconst (v := (0 : Int32)) hx hb dX6_page_112 (by decide) ?_
                    exact hJ_17 (0 : Int32) ls hf (lv_sub hl [0, 1, 2, 3, 4, 5] rfl)
                  · have hf := zz_if hf hc_14
                    refine lv_aload_n hx hb dX6_page_90 rfl (lv_at hl 0 rfl) ?_
                    refine zget S uw_X6 hE hP 0 0 rfl rfl (by decide) tw_2_9 rfl rfl dX6_page_91 ?_
                    refine lv_aload_n hx hb dX6_page_94 rfl (lv_at hl 0 rfl) ?_
                    refine zget S uw_X6 hE hP 0 0 rfl rfl (by decide) tw_2_9 rfl rfl dX6_page_95 ?_
                    refine zget S uw_X5 hE hP 2 4 rfl rfl (by decide) tw_1_45 rfl rfl dX6_page_98 ?_
                    refine lv_iload hx hb dX6_page_101 (lv_at hl 5 rfl) ?_
                    obtain ⟨hin_15, hf⟩ := zz_gd_use hf
                    refine zlld hx hb hE hP 6 rfl (zz_in_ok hin_15) dX6_page_103 ?_
                    refine lv_iload hx hb dX6_page_104 (lv_at hl 3 rfl) ?_
                    obtain ⟨r_16, he_16, hf⟩ := zz_b1_use hf
                    refine zcVi (As := [.long (n_words v6_12.toNatClampNeg), .int v4_9]) (rest := []) S (k_X5_changesBy l D c N n0 nA_numbers nA_syllables nA_days nA_words nA_parents nA_otherParents nA_kinds nA_hopeDays nA_hopeTenths n_numbers n_syllables n_syllableCount n_days n_words n_parents n_otherParents n_kinds n_personCount n_hopeDays n_hopeTenths n_hopeCount n_degreesTold (n_words v6_12.toNatClampNeg) v4_9 r_16 he_16) mi_X5_changesBy tw_4_84 ⟨(Nat.le_of_ble_eq_true rfl), (Nat.le_of_ble_eq_true rfl)⟩ ⟨rfl, rfl⟩ (zpsub (is := [2, 3, 4, 5, 6, 7, 8, 9, 10, 11]) hP rfl) hE hX hS (ci := 5) rfl rfl (q0 := 0) rfl rfl hl.1 rfl (Nat.le_of_ble_eq_true rfl) dX6_page_106 ⟨(Nat.le_of_ble_eq_true rfl), (Nat.le_of_ble_eq_true rfl)⟩ ?_
                    refine lv_goto (tgt := 113) hx hb dX6_page_109 (by decide) ?_
                    exact hJ_17 r_16 ls hf (lv_sub hl [0, 1, 2, 3, 4, 5] rfl)
            exact hL_10 N (0 : Int32) (0 : Int32) ls hf (lv_sub hl [3, 4, 6, 2, 1, 0] rfl)
          · have hf := zz_if hf hc_7
            refine lv_bipush (v := (-4 : Int32)) hx hb dX6_page_48 (by decide) ?_
            exact zRPi hQ hx hb hr hlk (Option.some.inj hf) dX6_page_50
        · have hf := zz_it hf hc_5
          refine lv_bipush (v := (-3 : Int32)) hx hb dX6_page_32 (by decide) ?_
          exact zRPi hQ hx hb hr hlk (Option.some.inj hf) dX6_page_34
def f_X6_sheet (N : Nat) (s_lane : Nat → Int32) (s_size : Nat → Int32) (s_items : Nat → Nat → Int32) (p1 : Int32) (p2 : Int32) (p3 : Int32) : Option (Int32 × (Nat → Int32) × (Nat → Int32) × (Nat → Nat → Int32)) := zz_b1 (f_X6_isSheet N p1) (fun r_1 => (if r_1 = 0 then (some ((-2 : Int32), s_lane, s_size, s_items)) else zz_b1 (f_X6_isLane N p2) (fun r_3 => (if r_3 = 0 then (some ((-3 : Int32), s_lane, s_size, s_items)) else (if p3 ≤ (20 : Int32) then (if 0 ≤ p3 then zz_gd (zz_in p1 3) (zz_b3 (f_X4_begin N s_lane s_size s_items p1.toNatClampNeg p2 p3) (fun s_lane_8 s_size_9 s_items_10 => (some ((1 : Int32), s_lane_8, s_size_9, s_items_10)))) else (some ((-14 : Int32), s_lane, s_size, s_items))) else (some ((-3 : Int32), s_lane, s_size, s_items)))))))
abbrev rm_X6_sheet : Room := { frames := 1, cells := 0, slots := 0, locals := 23 }
theorem mi_X6_sheet : zMI RX6 yX6_sheet cX6_sheet 4 (some .int) 3 := ⟨⟨tw_4_93, tw_4_94, tw_1_1, tw_4_95⟩, by decide +kernel, by decide +kernel, by decide +kernel⟩
set_option maxHeartbeats 4000000 in
set_option maxRecDepth 100000 in
theorem k_X6_sheet (l : Launch) (D : va_G) (c : Nat → ClassId) (N : Nat) (t0 : Nat) (n0 : Nat) (tA_images : Nat) (r0 : Nat) (m0 : Nat) (h0 : Nat) (o0 : Nat) (sA : Nat) (tA_rooms : Nat) (t_rooms : Nat → Int32) (sA_x : Nat) (so : Nat → Nat) (si : Nat → Nat) (s_lane : Nat → Int32) (s_size : Nat → Int32) (s_items : Nat → Nat → Int32) (p1 : Int32) (p2 : Int32) (p3 : Int32) (o : Int32) (o_s_lane : Nat → Int32) (o_s_size : Nat → Int32) (o_s_items : Nat → Nat → Int32) (hf : f_X6_sheet N s_lane s_size s_items p1 p2 p3 = some (o, o_s_lane, o_s_size, o_s_items)) : zMWi l D c yX6_sheet cX6_sheet 4 (some .int) rm_X6_sheet (wX6 c t0 n0 tA_images r0 m0 h0 o0 sA tA_rooms t_rooms ++ wS c sA so si s_lane s_size s_items) (wX6 c t0 n0 tA_images r0 m0 h0 o0 sA tA_rooms t_rooms ++ wS c sA so si o_s_lane o_s_size o_s_items) [.ref t0, .int p1, .int p2, .int p3] o := by
  intro sz
  refine zIW (by decide) (Nat.le_of_ble_eq_true rfl) ?_
  intro p e s m args below meth c0 Q A hAe hQ hx hb hr hlk hml hts hown hP hE hD hS hA hsz hmn hX ls hl
  rw [← hAe] at hQ
  have S : CallFix p m c0 cX6_sheet 4 s args zT RX6 := ⟨hx, hb, hml, hown, hts⟩
  have hl : lv_has ls 4 [(0, .ref t0), (1, .int p1), (2, .int p2), (3, .int p3)] := hl
  unfold f_X6_sheet at hf
  refine lv_iload_n hx hb dX6_sheet_0 rfl (lv_at hl 1 rfl) ?_
  obtain ⟨r_1, he_1, hf⟩ := zz_b1_use hf
  refine zcSi (As := [.int p1]) (rest := []) S (k_X6_isSheet l D c N  p1 r_1 he_1) mi_X6_isSheet tw_4_96 ⟨(Nat.le_of_ble_eq_true rfl), (Nat.le_of_ble_eq_true rfl)⟩ ⟨rfl, rfl⟩ (zpnil) hE hX hS rfl hl.1 rfl (Nat.le_of_ble_eq_true rfl) dX6_sheet_1 ⟨(Nat.le_of_ble_eq_true rfl), (Nat.le_of_ble_eq_true rfl)⟩ ?_
  refine lv_if_ne (tgt := 10) hx hb dX6_sheet_4 (by decide) (fun hc_2 => ?_) (fun hc_2 => ?_)
  · have hf := zz_if hf hc_2
    refine lv_iload_n hx hb dX6_sheet_10 rfl (lv_at hl 2 rfl) ?_
    obtain ⟨r_3, he_3, hf⟩ := zz_b1_use hf
    refine zcSi (As := [.int p2]) (rest := []) S (k_X6_isLane l D c N  p2 r_3 he_3) mi_X6_isLane tw_4_99 ⟨(Nat.le_of_ble_eq_true rfl), (Nat.le_of_ble_eq_true rfl)⟩ ⟨rfl, rfl⟩ (zpnil) hE hX hS rfl hl.1 rfl (Nat.le_of_ble_eq_true rfl) dX6_sheet_11 ⟨(Nat.le_of_ble_eq_true rfl), (Nat.le_of_ble_eq_true rfl)⟩ ?_
    refine lv_if_eq (tgt := 23) hx hb dX6_sheet_14 (by decide) (fun hc_4 => ?_) (fun hc_4 => ?_)
    · have hf := zz_it hf hc_4
      refine lv_bipush (v := (-3 : Int32)) hx hb dX6_sheet_23 (by decide) ?_
      cases hf
      exact zRWi hQ hx hb hr hlk rfl hP hD hS dX6_sheet_25
    · have hf := zz_if hf hc_4
      refine lv_iload_n hx hb dX6_sheet_17 rfl (lv_at hl 3 rfl) ?_
      refine lv_bipush (v := (20 : Int32)) hx hb dX6_sheet_18 (by decide) ?_
      refine lv_icmp_le (tgt := 26) hx hb dX6_sheet_20 (by decide) (fun hc_5 => ?_) (fun hc_5 => ?_)
      · have hf := zz_it hf hc_5
        refine lv_iload_n hx hb dX6_sheet_26 rfl (lv_at hl 3 rfl) ?_
        refine lv_if_ge (tgt := 33) hx hb dX6_sheet_27 (by decide) (fun hc_6 => ?_) (fun hc_6 => ?_)
        · have hf := zz_it hf hc_6
          refine lv_aload_n hx hb dX6_sheet_33 rfl (lv_at hl 0 rfl) ?_
          refine zget S uw_X6 hE hP 0 6 rfl rfl (by decide) tw_2_15 rfl rfl dX6_sheet_34 ?_
          refine lv_iload_n hx hb dX6_sheet_37 rfl (lv_at hl 1 rfl) ?_
          obtain ⟨hin_7, hf⟩ := zz_gd_use hf
          refine zaS hx hb hE hP 2 rfl (zz_in_ok hin_7) dX6_sheet_38 ?_
          refine lv_iload_n hx hb dX6_sheet_39 rfl (lv_at hl 2 rfl) ?_
          refine lv_iload_n hx hb dX6_sheet_40 rfl (lv_at hl 3 rfl) ?_
          obtain ⟨s_lane_8, s_size_9, s_items_10, he_10, hf⟩ := zz_b3_use hf
          refine zwVv (As := [.int p2, .int p3]) (rest := []) (wr := (wX6 c t0 n0 tA_images r0 m0 h0 o0 sA tA_rooms t_rooms)) (wX6 c t0 n0 tA_images r0 m0 h0 o0 sA tA_rooms t_rooms ++ wS c sA so si s_lane_8 s_size_9 s_items_10) [2, 3, 4, 5, 6, 7, 8] [0, 1] [0, 1, 2, 3, 4, 5, 6, 7, 8] S (k_X4_begin l D c N sA so si s_lane s_size s_items p1.toNatClampNeg (zz_in_lt hin_7) p2 p3 s_lane_8 s_size_9 s_items_10 he_10) mi_X4_begin tw_4_102 ⟨(Nat.le_of_ble_eq_true rfl), (Nat.le_of_ble_eq_true rfl)⟩ ⟨rfl, rfl⟩ hP hD hS hA rfl rfl rfl rfl (by decide) rfl rfl hE hX (ci := 4) rfl rfl (q0 := 1 + p1.toNatClampNeg) (wS_o (zz_in_lt hin_7)) rfl hl.1 rfl (Nat.le_of_ble_eq_true rfl) dX6_sheet_41 ⟨(Nat.le_of_ble_eq_true rfl), (Nat.le_of_ble_eq_true rfl)⟩ (fun H locs hP hD hS => ?_)
          refine lv_iconst (v := (1 : Int32)) hx hb dX6_sheet_44 (by decide) ?_
          cases hf
          exact zRWi hQ hx hb hr hlk rfl hP hD hS dX6_sheet_45
        · have hf := zz_if hf hc_6
          refine lv_bipush (v := (-14 : Int32)) hx hb dX6_sheet_30 (by decide) ?_
          cases hf
          exact zRWi hQ hx hb hr hlk rfl hP hD hS dX6_sheet_32
      · have hf := zz_if hf hc_5
        refine lv_bipush (v := (-3 : Int32)) hx hb dX6_sheet_23 (by decide) ?_
        cases hf
        exact zRWi hQ hx hb hr hlk rfl hP hD hS dX6_sheet_25
  · have hf := zz_it hf hc_2
    refine lv_bipush (v := (-2 : Int32)) hx hb dX6_sheet_7 (by decide) ?_
    cases hf
    exact zRWi hQ hx hb hr hlk rfl hP hD hS dX6_sheet_9
def f_X6_tear (N : Nat) (s_size : Nat → Int32) (p1 : Int32) : Option (Int32 × (Nat → Int32)) := zz_b1 (f_X6_isSheet N p1) (fun r_1 => (if r_1 = 0 then (some ((-2 : Int32), s_size)) else zz_gd (zz_in p1 3) (zz_let (zz_up2 s_size p1.toNatClampNeg (-1 : Int32)) (fun s_size_4 => (some ((1 : Int32), s_size_4))))))
abbrev rm_X6_tear : Room := { frames := 1, cells := 0, slots := 0, locals := 20 }
theorem mi_X6_tear : zMI RX6 yX6_tear cX6_tear 2 (some .int) 1 := ⟨⟨tw_4_107, tw_4_108, tw_1_1, tw_4_109⟩, by decide +kernel, by decide +kernel, by decide +kernel⟩
set_option maxHeartbeats 4000000 in
set_option maxRecDepth 100000 in
theorem k_X6_tear (l : Launch) (D : va_G) (c : Nat → ClassId) (N : Nat) (t0 : Nat) (n0 : Nat) (tA_images : Nat) (r0 : Nat) (m0 : Nat) (h0 : Nat) (o0 : Nat) (sA : Nat) (tA_rooms : Nat) (t_rooms : Nat → Int32) (sA_x : Nat) (so : Nat → Nat) (si : Nat → Nat) (s_lane : Nat → Int32) (s_size : Nat → Int32) (s_items : Nat → Nat → Int32) (p1 : Int32) (o : Int32) (o_s_size : Nat → Int32) (hf : f_X6_tear N s_size p1 = some (o, o_s_size)) : zMWi l D c yX6_tear cX6_tear 2 (some .int) rm_X6_tear (wX6 c t0 n0 tA_images r0 m0 h0 o0 sA tA_rooms t_rooms ++ wS c sA so si s_lane s_size s_items) (wX6 c t0 n0 tA_images r0 m0 h0 o0 sA tA_rooms t_rooms ++ wS c sA so si s_lane o_s_size s_items) [.ref t0, .int p1] o := by
  intro sz
  refine zIW (by decide) (Nat.le_of_ble_eq_true rfl) ?_
  intro p e s m args below meth c0 Q A hAe hQ hx hb hr hlk hml hts hown hP hE hD hS hA hsz hmn hX ls hl
  rw [← hAe] at hQ
  have S : CallFix p m c0 cX6_tear 2 s args zT RX6 := ⟨hx, hb, hml, hown, hts⟩
  have hl : lv_has ls 2 [(0, .ref t0), (1, .int p1)] := hl
  unfold f_X6_tear at hf
  refine lv_iload_n hx hb dX6_tear_0 rfl (lv_at hl 1 rfl) ?_
  obtain ⟨r_1, he_1, hf⟩ := zz_b1_use hf
  refine zcSi (As := [.int p1]) (rest := []) S (k_X6_isSheet l D c N  p1 r_1 he_1) mi_X6_isSheet tw_4_96 ⟨(Nat.le_of_ble_eq_true rfl), (Nat.le_of_ble_eq_true rfl)⟩ ⟨rfl, rfl⟩ (zpnil) hE hX hS rfl hl.1 rfl (Nat.le_of_ble_eq_true rfl) dX6_tear_1 ⟨(Nat.le_of_ble_eq_true rfl), (Nat.le_of_ble_eq_true rfl)⟩ ?_
  refine lv_if_ne (tgt := 10) hx hb dX6_tear_4 (by decide) (fun hc_2 => ?_) (fun hc_2 => ?_)
  · have hf := zz_if hf hc_2
    refine lv_aload_n hx hb dX6_tear_10 rfl (lv_at hl 0 rfl) ?_
    refine zget S uw_X6 hE hP 0 6 rfl rfl (by decide) tw_2_15 rfl rfl dX6_tear_11 ?_
    refine lv_iload_n hx hb dX6_tear_14 rfl (lv_at hl 1 rfl) ?_
    obtain ⟨hin_3, hf⟩ := zz_gd_use hf
    refine zaS hx hb hE hP 2 rfl (zz_in_ok hin_3) dX6_tear_15 ?_
    refine lv_iconst (v := (-1 : Int32)) hx hb dX6_tear_16 (by decide) ?_
    obtain ⟨s_size_4, es_size_4, hf⟩ := zz_let_use hf
    have hjb := (zz_in_lt hin_3)
    refine zput S uw_X4 tyX4_ok nmX4 hE hP hD hS (2 + (1 + p1.toNatClampNeg)) 2 (ty := .int) (wX6 c t0 n0 tA_images r0 m0 h0 o0 sA tA_rooms t_rooms ++ wS c sA so si s_lane s_size_4 s_items) (zapp rfl (wS_o (zz_in_lt hin_3))) rfl (by decide) tw_2_1 rfl rfl (by decide +kernel) rfl rfl (Nat.le_of_ble_eq_true rfl) (zsr rfl (wS_size (zz_in_lt hin_3) es_size_4)) dX6_tear_17 (fun H locs hP hD hS => ?_)
    refine lv_iconst (v := (1 : Int32)) hx hb dX6_tear_20 (by decide) ?_
    cases hf
    exact zRWi hQ hx hb hr hlk rfl hP hD hS dX6_tear_21
  · have hf := zz_it hf hc_2
    refine lv_bipush (v := (-2 : Int32)) hx hb dX6_tear_7 (by decide) ?_
    cases hf
    exact zRWi hQ hx hb hr hlk rfl hP hD hS dX6_tear_9
def f_X6_lay (N : Nat) (s_lane : Nat → Int32) (s_size : Nat → Int32) (s_items : Nat → Nat → Int32) (p1 : Int32) (p2 : Int32) (p3 : Int32) : Option (Int32 × (Nat → Nat → Int32)) := zz_b1 (f_X6_isSheet N p1) (fun r_1 => (if r_1 = 0 then (some ((-2 : Int32), s_items)) else zz_gd (zz_in p1 3) (zz_b1 (f_X4_isMissing N s_size p1.toNatClampNeg) (fun r_4 => (if r_4 = 0 then zz_b1 (f_X4_hasPlaces N s_size p1.toNatClampNeg p2 (1 : Int32)) (fun r_6 => (if r_6 = 0 then (some ((-13 : Int32), s_items)) else zz_b1 (f_X4_put N s_lane s_items p1.toNatClampNeg p2 p3) (fun s_items_8 => (some ((1 : Int32), s_items_8))))) else (some ((-11 : Int32), s_items)))))))
abbrev rm_X6_lay : Room := { frames := 1, cells := 0, slots := 0, locals := 22 }
theorem mi_X6_lay : zMI RX6 yX6_lay cX6_lay 4 (some .int) 3 := ⟨⟨tw_4_111, tw_4_112, tw_1_1, tw_4_113⟩, by decide +kernel, by decide +kernel, by decide +kernel⟩
set_option maxHeartbeats 4000000 in
set_option maxRecDepth 100000 in
theorem k_X6_lay (l : Launch) (D : va_G) (c : Nat → ClassId) (N : Nat) (t0 : Nat) (n0 : Nat) (tA_images : Nat) (r0 : Nat) (m0 : Nat) (h0 : Nat) (o0 : Nat) (sA : Nat) (tA_rooms : Nat) (t_rooms : Nat → Int32) (sA_x : Nat) (so : Nat → Nat) (si : Nat → Nat) (s_lane : Nat → Int32) (s_size : Nat → Int32) (s_items : Nat → Nat → Int32) (p1 : Int32) (p2 : Int32) (p3 : Int32) (o : Int32) (o_s_items : Nat → Nat → Int32) (hf : f_X6_lay N s_lane s_size s_items p1 p2 p3 = some (o, o_s_items)) : zMWi l D c yX6_lay cX6_lay 4 (some .int) rm_X6_lay (wX6 c t0 n0 tA_images r0 m0 h0 o0 sA tA_rooms t_rooms ++ wS c sA so si s_lane s_size s_items) (wX6 c t0 n0 tA_images r0 m0 h0 o0 sA tA_rooms t_rooms ++ wS c sA so si s_lane s_size o_s_items) [.ref t0, .int p1, .int p2, .int p3] o := by
  intro sz
  refine zIW (by decide) (Nat.le_of_ble_eq_true rfl) ?_
  intro p e s m args below meth c0 Q A hAe hQ hx hb hr hlk hml hts hown hP hE hD hS hA hsz hmn hX ls hl
  rw [← hAe] at hQ
  have S : CallFix p m c0 cX6_lay 4 s args zT RX6 := ⟨hx, hb, hml, hown, hts⟩
  have hl : lv_has ls 4 [(0, .ref t0), (1, .int p1), (2, .int p2), (3, .int p3)] := hl
  unfold f_X6_lay at hf
  refine lv_iload_n hx hb dX6_lay_0 rfl (lv_at hl 1 rfl) ?_
  obtain ⟨r_1, he_1, hf⟩ := zz_b1_use hf
  refine zcSi (As := [.int p1]) (rest := []) S (k_X6_isSheet l D c N  p1 r_1 he_1) mi_X6_isSheet tw_4_96 ⟨(Nat.le_of_ble_eq_true rfl), (Nat.le_of_ble_eq_true rfl)⟩ ⟨rfl, rfl⟩ (zpnil) hE hX hS rfl hl.1 rfl (Nat.le_of_ble_eq_true rfl) dX6_lay_1 ⟨(Nat.le_of_ble_eq_true rfl), (Nat.le_of_ble_eq_true rfl)⟩ ?_
  refine lv_if_ne (tgt := 10) hx hb dX6_lay_4 (by decide) (fun hc_2 => ?_) (fun hc_2 => ?_)
  · have hf := zz_if hf hc_2
    refine lv_aload_n hx hb dX6_lay_10 rfl (lv_at hl 0 rfl) ?_
    refine zget S uw_X6 hE hP 0 6 rfl rfl (by decide) tw_2_15 rfl rfl dX6_lay_11 ?_
    refine lv_iload_n hx hb dX6_lay_14 rfl (lv_at hl 1 rfl) ?_
    obtain ⟨hin_3, hf⟩ := zz_gd_use hf
    refine zaS hx hb hE hP 2 rfl (zz_in_ok hin_3) dX6_lay_15 ?_
    obtain ⟨r_4, he_4, hf⟩ := zz_b1_use hf
    refine zcVi (As := []) (rest := []) S (k_X4_isMissing l D c N sA so si s_lane s_size s_items p1.toNatClampNeg (zz_in_lt hin_3)  r_4 he_4) mi_X4_isMissing tw_4_114 ⟨(Nat.le_of_ble_eq_true rfl), (Nat.le_of_ble_eq_true rfl)⟩ ⟨rfl, rfl⟩ (zpsub (is := [2, 3, 4, 5, 6, 7, 8]) hP rfl) hE hX hS (ci := 4) rfl rfl (q0 := 1 + p1.toNatClampNeg) (wS_o (zz_in_lt hin_3)) rfl hl.1 rfl (Nat.le_of_ble_eq_true rfl) dX6_lay_16 ⟨(Nat.le_of_ble_eq_true rfl), (Nat.le_of_ble_eq_true rfl)⟩ ?_
    refine lv_if_eq (tgt := 25) hx hb dX6_lay_19 (by decide) (fun hc_5 => ?_) (fun hc_5 => ?_)
    · have hf := zz_it hf hc_5
      refine lv_aload_n hx hb dX6_lay_25 rfl (lv_at hl 0 rfl) ?_
      refine zget S uw_X6 hE hP 0 6 rfl rfl (by decide) tw_2_15 rfl rfl dX6_lay_26 ?_
      refine lv_iload_n hx hb dX6_lay_29 rfl (lv_at hl 1 rfl) ?_
      refine zaS hx hb hE hP 2 rfl (zz_in_ok hin_3) dX6_lay_30 ?_
      refine lv_iload_n hx hb dX6_lay_31 rfl (lv_at hl 2 rfl) ?_
      refine lv_iconst (v := (1 : Int32)) hx hb dX6_lay_32 (by decide) ?_
      obtain ⟨r_6, he_6, hf⟩ := zz_b1_use hf
      refine zcVi (As := [.int p2, .int (1 : Int32)]) (rest := []) S (k_X4_hasPlaces l D c N sA so si s_lane s_size s_items p1.toNatClampNeg (zz_in_lt hin_3) p2 (1 : Int32) r_6 he_6) mi_X4_hasPlaces tw_4_118 ⟨(Nat.le_of_ble_eq_true rfl), (Nat.le_of_ble_eq_true rfl)⟩ ⟨rfl, rfl⟩ (zpsub (is := [2, 3, 4, 5, 6, 7, 8]) hP rfl) hE hX hS (ci := 4) rfl rfl (q0 := 1 + p1.toNatClampNeg) (wS_o (zz_in_lt hin_3)) rfl hl.1 rfl (Nat.le_of_ble_eq_true rfl) dX6_lay_33 ⟨(Nat.le_of_ble_eq_true rfl), (Nat.le_of_ble_eq_true rfl)⟩ ?_
      refine lv_if_ne (tgt := 42) hx hb dX6_lay_36 (by decide) (fun hc_7 => ?_) (fun hc_7 => ?_)
      · have hf := zz_if hf hc_7
        refine lv_aload_n hx hb dX6_lay_42 rfl (lv_at hl 0 rfl) ?_
        refine zget S uw_X6 hE hP 0 6 rfl rfl (by decide) tw_2_15 rfl rfl dX6_lay_43 ?_
        refine lv_iload_n hx hb dX6_lay_46 rfl (lv_at hl 1 rfl) ?_
        refine zaS hx hb hE hP 2 rfl (zz_in_ok hin_3) dX6_lay_47 ?_
        refine lv_iload_n hx hb dX6_lay_48 rfl (lv_at hl 2 rfl) ?_
        refine lv_iload_n hx hb dX6_lay_49 rfl (lv_at hl 3 rfl) ?_
        obtain ⟨s_items_8, he_8, hf⟩ := zz_b1_use hf
        refine zwVv (As := [.int p2, .int p3]) (rest := []) (wr := (wX6 c t0 n0 tA_images r0 m0 h0 o0 sA tA_rooms t_rooms)) (wX6 c t0 n0 tA_images r0 m0 h0 o0 sA tA_rooms t_rooms ++ wS c sA so si s_lane s_size s_items_8) [2, 3, 4, 5, 6, 7, 8] [0, 1] [0, 1, 2, 3, 4, 5, 6, 7, 8] S (k_X4_put l D c N sA so si s_lane s_size s_items p1.toNatClampNeg (zz_in_lt hin_3) p2 p3 s_items_8 he_8) mi_X4_put tw_4_122 ⟨(Nat.le_of_ble_eq_true rfl), (Nat.le_of_ble_eq_true rfl)⟩ ⟨rfl, rfl⟩ hP hD hS hA rfl rfl rfl rfl (by decide) rfl rfl hE hX (ci := 4) rfl rfl (q0 := 1 + p1.toNatClampNeg) (wS_o (zz_in_lt hin_3)) rfl hl.1 rfl (Nat.le_of_ble_eq_true rfl) dX6_lay_50 ⟨(Nat.le_of_ble_eq_true rfl), (Nat.le_of_ble_eq_true rfl)⟩ (fun H locs hP hD hS => ?_)
        refine lv_iconst (v := (1 : Int32)) hx hb dX6_lay_53 (by decide) ?_
        cases hf
        exact zRWi hQ hx hb hr hlk rfl hP hD hS dX6_lay_54
      · have hf := zz_it hf hc_7
        refine lv_bipush (v := (-13 : Int32)) hx hb dX6_lay_39 (by decide) ?_
        cases hf
        exact zRWi hQ hx hb hr hlk rfl hP hD hS dX6_lay_41
    · have hf := zz_if hf hc_5
      refine lv_bipush (v := (-11 : Int32)) hx hb dX6_lay_22 (by decide) ?_
      cases hf
      exact zRWi hQ hx hb hr hlk rfl hP hD hS dX6_lay_24
  · have hf := zz_it hf hc_2
    refine lv_bipush (v := (-2 : Int32)) hx hb dX6_lay_7 (by decide) ?_
    cases hf
    exact zRWi hQ hx hb hr hlk rfl hP hD hS dX6_lay_9
def f_X6_copy (N : Nat) (s_lane : Nat → Int32) (s_size : Nat → Int32) (s_items : Nat → Nat → Int32) (p1 : Int32) (p2 : Int32) (p3 : Int32) (p4 : Int32) (p5 : Int32) : Option (Int32 × (Nat → Nat → Int32)) := zz_b1 (f_X6_isSheet N p1) (fun r_1 => (if r_1 = 0 then (some ((-2 : Int32), s_items)) else zz_b1 (f_X6_isSheet N p3) (fun r_3 => (if r_3 = 0 then (some ((-2 : Int32), s_items)) else zz_gd (zz_in p1 3) (zz_gd (zz_in p3 3) (zz_b1 (f_X4_isMissing N s_size p1.toNatClampNeg) (fun r_7 => (if r_7 = 0 then zz_b1 (f_X4_isMissing N s_size p3.toNatClampNeg) (fun r_9 => (if r_9 = 0 then (if (s_lane p1.toNatClampNeg) = (s_lane p3.toNatClampNeg) then zz_b1 (f_X4_hasPlaces N s_size p1.toNatClampNeg p2 p5) (fun r_12 => (if r_12 = 0 then (some ((-13 : Int32), s_items)) else zz_b1 (f_X4_hasPlaces N s_size p3.toNatClampNeg p4 p5) (fun r_14 => (if r_14 = 0 then (some ((-13 : Int32), s_items)) else zz_gd (zz_cp p2 p4 p5 20 20) (zz_let (va_cpy (s_items p1.toNatClampNeg) (s_items p3.toNatClampNeg) p2.toNatClampNeg p4.toNatClampNeg p5.toNatClampNeg) (fun row_17 => zz_let (zz_up2 s_items p3.toNatClampNeg row_17) (fun s_items_18 => (some ((1 : Int32), s_items_18))))))))) else (some ((-12 : Int32), s_items))) else (some ((-11 : Int32), s_items)))) else (some ((-11 : Int32), s_items))))))))))
abbrev rm_X6_copy : Room := { frames := 1, cells := 0, slots := 0, locals := 40 }
theorem mi_X6_copy : zMI RX6 yX6_copy cX6_copy 8 (some .int) 5 := ⟨⟨tw_4_127, tw_4_128, tw_1_1, tw_4_129⟩, by decide +kernel, by decide +kernel, by decide +kernel⟩
set_option maxHeartbeats 4000000 in
set_option maxRecDepth 100000 in
theorem k_X6_copy (l : Launch) (D : va_G) (c : Nat → ClassId) (N : Nat) (t0 : Nat) (n0 : Nat) (tA_images : Nat) (r0 : Nat) (m0 : Nat) (h0 : Nat) (o0 : Nat) (sA : Nat) (tA_rooms : Nat) (t_rooms : Nat → Int32) (sA_x : Nat) (so : Nat → Nat) (si : Nat → Nat) (s_lane : Nat → Int32) (s_size : Nat → Int32) (s_items : Nat → Nat → Int32) (p1 : Int32) (p2 : Int32) (p3 : Int32) (p4 : Int32) (p5 : Int32) (o : Int32) (o_s_items : Nat → Nat → Int32) (hf : f_X6_copy N s_lane s_size s_items p1 p2 p3 p4 p5 = some (o, o_s_items)) : zMWi l D c yX6_copy cX6_copy 8 (some .int) rm_X6_copy (wX6 c t0 n0 tA_images r0 m0 h0 o0 sA tA_rooms t_rooms ++ wS c sA so si s_lane s_size s_items) (wX6 c t0 n0 tA_images r0 m0 h0 o0 sA tA_rooms t_rooms ++ wS c sA so si s_lane s_size o_s_items) [.ref t0, .int p1, .int p2, .int p3, .int p4, .int p5] o := by
  intro sz
  refine zIW (by decide) (Nat.le_of_ble_eq_true rfl) ?_
  intro p e s m args below meth c0 Q A hAe hQ hx hb hr hlk hml hts hown hP hE hD hS hA hsz hmn hX ls hl
  rw [← hAe] at hQ
  have S : CallFix p m c0 cX6_copy 8 s args zT RX6 := ⟨hx, hb, hml, hown, hts⟩
  have hl : lv_has ls 8 [(0, .ref t0), (1, .int p1), (2, .int p2), (3, .int p3), (4, .int p4), (5, .int p5)] := hl
  unfold f_X6_copy at hf
  refine lv_iload_n hx hb dX6_copy_0 rfl (lv_at hl 1 rfl) ?_
  obtain ⟨r_1, he_1, hf⟩ := zz_b1_use hf
  refine zcSi (As := [.int p1]) (rest := []) S (k_X6_isSheet l D c N  p1 r_1 he_1) mi_X6_isSheet tw_4_96 ⟨(Nat.le_of_ble_eq_true rfl), (Nat.le_of_ble_eq_true rfl)⟩ ⟨rfl, rfl⟩ (zpnil) hE hX hS rfl hl.1 rfl (Nat.le_of_ble_eq_true rfl) dX6_copy_1 ⟨(Nat.le_of_ble_eq_true rfl), (Nat.le_of_ble_eq_true rfl)⟩ ?_
  refine lv_if_eq (tgt := 14) hx hb dX6_copy_4 (by decide) (fun hc_2 => ?_) (fun hc_2 => ?_)
  · have hf := zz_it hf hc_2
    refine lv_bipush (v := (-2 : Int32)) hx hb dX6_copy_14 (by decide) ?_
    cases hf
    exact zRWi hQ hx hb hr hlk rfl hP hD hS dX6_copy_16
  · have hf := zz_if hf hc_2
    refine lv_iload_n hx hb dX6_copy_7 rfl (lv_at hl 3 rfl) ?_
    obtain ⟨r_3, he_3, hf⟩ := zz_b1_use hf
    refine zcSi (As := [.int p3]) (rest := []) S (k_X6_isSheet l D c N  p3 r_3 he_3) mi_X6_isSheet tw_4_96 ⟨(Nat.le_of_ble_eq_true rfl), (Nat.le_of_ble_eq_true rfl)⟩ ⟨rfl, rfl⟩ (zpnil) hE hX hS rfl hl.1 rfl (Nat.le_of_ble_eq_true rfl) dX6_copy_8 ⟨(Nat.le_of_ble_eq_true rfl), (Nat.le_of_ble_eq_true rfl)⟩ ?_
    refine lv_if_ne (tgt := 17) hx hb dX6_copy_11 (by decide) (fun hc_4 => ?_) (fun hc_4 => ?_)
    · have hf := zz_if hf hc_4
      refine lv_aload_n hx hb dX6_copy_17 rfl (lv_at hl 0 rfl) ?_
      refine zget S uw_X6 hE hP 0 6 rfl rfl (by decide) tw_2_15 rfl rfl dX6_copy_18 ?_
      refine lv_iload_n hx hb dX6_copy_21 rfl (lv_at hl 1 rfl) ?_
      obtain ⟨hin_5, hf⟩ := zz_gd_use hf
      refine zaS hx hb hE hP 2 rfl (zz_in_ok hin_5) dX6_copy_22 ?_
      refine lv_astore (lv' := [(6, .ref (so p1.toNatClampNeg)), (0, .ref t0), (1, .int p1), (2, .int p2), (3, .int p3), (4, .int p4), (5, .int p5)]) hx hb dX6_copy_23 hl (by decide) rfl (fun ls hl => ?_)
      refine lv_aload_n hx hb dX6_copy_25 rfl (lv_at hl 1 rfl) ?_
      refine zget S uw_X6 hE hP 0 6 rfl rfl (by decide) tw_2_15 rfl rfl dX6_copy_26 ?_
      refine lv_iload_n hx hb dX6_copy_29 rfl (lv_at hl 4 rfl) ?_
      obtain ⟨hin_6, hf⟩ := zz_gd_use hf
      refine zaS hx hb hE hP 2 rfl (zz_in_ok hin_6) dX6_copy_30 ?_
      refine lv_astore (lv' := [(7, .ref (so p3.toNatClampNeg)), (6, .ref (so p1.toNatClampNeg)), (0, .ref t0), (1, .int p1), (2, .int p2), (3, .int p3), (4, .int p4), (5, .int p5)]) hx hb dX6_copy_31 hl (by decide) rfl (fun ls hl => ?_)
      refine lv_aload hx hb dX6_copy_33 (lv_at hl 1 rfl) ?_
      obtain ⟨r_7, he_7, hf⟩ := zz_b1_use hf
      refine zcVi (As := []) (rest := []) S (k_X4_isMissing l D c N sA so si s_lane s_size s_items p1.toNatClampNeg (zz_in_lt hin_5)  r_7 he_7) mi_X4_isMissing tw_4_114 ⟨(Nat.le_of_ble_eq_true rfl), (Nat.le_of_ble_eq_true rfl)⟩ ⟨rfl, rfl⟩ (zpsub (is := [2, 3, 4, 5, 6, 7, 8]) hP rfl) hE hX hS (ci := 4) rfl rfl (q0 := 1 + p1.toNatClampNeg) (wS_o (zz_in_lt hin_5)) rfl hl.1 rfl (Nat.le_of_ble_eq_true rfl) dX6_copy_35 ⟨(Nat.le_of_ble_eq_true rfl), (Nat.le_of_ble_eq_true rfl)⟩ ?_
      refine lv_if_ne (tgt := 49) hx hb dX6_copy_38 (by decide) (fun hc_8 => ?_) (fun hc_8 => ?_)
      · have hf := zz_if hf hc_8
        refine lv_bipush (v := (-11 : Int32)) hx hb dX6_copy_49 (by decide) ?_
        cases hf
        exact zRWi hQ hx hb hr hlk rfl hP hD hS dX6_copy_51
      · have hf := zz_it hf hc_8
        refine lv_aload hx hb dX6_copy_41 (lv_at hl 0 rfl) ?_
        obtain ⟨r_9, he_9, hf⟩ := zz_b1_use hf
        refine zcVi (As := []) (rest := []) S (k_X4_isMissing l D c N sA so si s_lane s_size s_items p3.toNatClampNeg (zz_in_lt hin_6)  r_9 he_9) mi_X4_isMissing tw_4_114 ⟨(Nat.le_of_ble_eq_true rfl), (Nat.le_of_ble_eq_true rfl)⟩ ⟨rfl, rfl⟩ (zpsub (is := [2, 3, 4, 5, 6, 7, 8]) hP rfl) hE hX hS (ci := 4) rfl rfl (q0 := 1 + p3.toNatClampNeg) (wS_o (zz_in_lt hin_6)) rfl hl.1 rfl (Nat.le_of_ble_eq_true rfl) dX6_copy_43 ⟨(Nat.le_of_ble_eq_true rfl), (Nat.le_of_ble_eq_true rfl)⟩ ?_
        refine lv_if_eq (tgt := 52) hx hb dX6_copy_46 (by decide) (fun hc_10 => ?_) (fun hc_10 => ?_)
        · have hf := zz_it hf hc_10
          refine lv_aload hx hb dX6_copy_52 (lv_at hl 1 rfl) ?_
          refine zget S uw_X4 hE hP (2 + (1 + p1.toNatClampNeg)) 1 (zapp rfl (wS_o (zz_in_lt hin_5))) rfl (by decide) tw_1_239 rfl rfl dX6_copy_54 ?_
          refine lv_aload hx hb dX6_copy_57 (lv_at hl 0 rfl) ?_
          refine zget S uw_X4 hE hP (2 + (1 + p3.toNatClampNeg)) 1 (zapp rfl (wS_o (zz_in_lt hin_6))) rfl (by decide) tw_1_239 rfl rfl dX6_copy_59 ?_
          refine lv_icmp_eq (tgt := 68) hx hb dX6_copy_62 (by decide) (fun hc_11 => ?_) (fun hc_11 => ?_)
          · have hf := zz_it hf hc_11
            refine lv_aload hx hb dX6_copy_68 (lv_at hl 1 rfl) ?_
            refine lv_iload_n hx hb dX6_copy_70 rfl (lv_at hl 4 rfl) ?_
            refine lv_iload hx hb dX6_copy_71 (lv_at hl 7 rfl) ?_
            obtain ⟨r_12, he_12, hf⟩ := zz_b1_use hf
            refine zcVi (As := [.int p2, .int p5]) (rest := []) S (k_X4_hasPlaces l D c N sA so si s_lane s_size s_items p1.toNatClampNeg (zz_in_lt hin_5) p2 p5 r_12 he_12) mi_X4_hasPlaces tw_4_118 ⟨(Nat.le_of_ble_eq_true rfl), (Nat.le_of_ble_eq_true rfl)⟩ ⟨rfl, rfl⟩ (zpsub (is := [2, 3, 4, 5, 6, 7, 8]) hP rfl) hE hX hS (ci := 4) rfl rfl (q0 := 1 + p1.toNatClampNeg) (wS_o (zz_in_lt hin_5)) rfl hl.1 rfl (Nat.le_of_ble_eq_true rfl) dX6_copy_73 ⟨(Nat.le_of_ble_eq_true rfl), (Nat.le_of_ble_eq_true rfl)⟩ ?_
            refine lv_if_eq (tgt := 91) hx hb dX6_copy_76 (by decide) (fun hc_13 => ?_) (fun hc_13 => ?_)
            · have hf := zz_it hf hc_13
              refine lv_bipush (v := (-13 : Int32)) hx hb dX6_copy_91 (by decide) ?_
              cases hf
              exact zRWi hQ hx hb hr hlk rfl hP hD hS dX6_copy_93
            · have hf := zz_if hf hc_13
              refine lv_aload hx hb dX6_copy_79 (lv_at hl 0 rfl) ?_
              refine lv_iload hx hb dX6_copy_81 (lv_at hl 6 rfl) ?_
              refine lv_iload hx hb dX6_copy_83 (lv_at hl 7 rfl) ?_
              obtain ⟨r_14, he_14, hf⟩ := zz_b1_use hf
              refine zcVi (As := [.int p4, .int p5]) (rest := []) S (k_X4_hasPlaces l D c N sA so si s_lane s_size s_items p3.toNatClampNeg (zz_in_lt hin_6) p4 p5 r_14 he_14) mi_X4_hasPlaces tw_4_118 ⟨(Nat.le_of_ble_eq_true rfl), (Nat.le_of_ble_eq_true rfl)⟩ ⟨rfl, rfl⟩ (zpsub (is := [2, 3, 4, 5, 6, 7, 8]) hP rfl) hE hX hS (ci := 4) rfl rfl (q0 := 1 + p3.toNatClampNeg) (wS_o (zz_in_lt hin_6)) rfl hl.1 rfl (Nat.le_of_ble_eq_true rfl) dX6_copy_85 ⟨(Nat.le_of_ble_eq_true rfl), (Nat.le_of_ble_eq_true rfl)⟩ ?_
              refine lv_if_ne (tgt := 94) hx hb dX6_copy_88 (by decide) (fun hc_15 => ?_) (fun hc_15 => ?_)
              · have hf := zz_if hf hc_15
                refine lv_aload hx hb dX6_copy_94 (lv_at hl 1 rfl) ?_
                refine zget S uw_X4 hE hP (2 + (1 + p1.toNatClampNeg)) 0 (zapp rfl (wS_o (zz_in_lt hin_5))) rfl (by decide) tw_1_237 rfl rfl dX6_copy_96 ?_
                refine lv_iload_n hx hb dX6_copy_99 rfl (lv_at hl 4 rfl) ?_
                refine lv_aload hx hb dX6_copy_100 (lv_at hl 0 rfl) ?_
                refine zget S uw_X4 hE hP (2 + (1 + p3.toNatClampNeg)) 0 (zapp rfl (wS_o (zz_in_lt hin_6))) rfl (by decide) tw_1_237 rfl rfl dX6_copy_102 ?_
                refine lv_iload hx hb dX6_copy_105 (lv_at hl 6 rfl) ?_
                refine lv_iload hx hb dX6_copy_107 (lv_at hl 7 rfl) ?_
                obtain ⟨hcp_16, hf⟩ := zz_gd_use hf
                obtain ⟨row_17, erow_17, hf⟩ := zz_let_use hf
                obtain ⟨s_items_18, es_items_18, hf⟩ := zz_let_use hf
                have hjb := (zz_in_lt hin_6)
                refine zcpi hx hb (hml.trans hl.1.symm) hown (hts _ tw_4_130) (hts _ tw_2_61) (hts _ tw_2_60) (hts _ tw_1_9) hE hP hD hS (2 + (4 + p1.toNatClampNeg)) (2 + (4 + p3.toNatClampNeg)) (wX6 c t0 n0 tA_images r0 m0 h0 o0 sA tA_rooms t_rooms ++ wS c sA so si s_lane s_size s_items_18) (zapp rfl (wS_i (zz_in_lt hin_5))) (zapp rfl (wS_i (zz_in_lt hin_6))) (zsr rfl (wS_items (zz_in_lt hin_6) es_items_18)) erow_17 (zz_cp_1 hcp_16) (zz_cp_2 hcp_16) (zz_cp_3 hcp_16) (zz_cp_4 hcp_16) (zz_cp_5 hcp_16) (Nat.le_of_ble_eq_true rfl) (Nat.le_of_ble_eq_true rfl) dX6_copy_109 (fun H locs hP hD hS => ?_)
                refine lv_iconst (v := (1 : Int32)) hx hb dX6_copy_112 (by decide) ?_
                cases hf
                exact zRWi hQ hx hb hr hlk rfl hP hD hS dX6_copy_113
              · have hf := zz_it hf hc_15
                refine lv_bipush (v := (-13 : Int32)) hx hb dX6_copy_91 (by decide) ?_
                cases hf
                exact zRWi hQ hx hb hr hlk rfl hP hD hS dX6_copy_93
          · have hf := zz_if hf hc_11
            refine lv_bipush (v := (-12 : Int32)) hx hb dX6_copy_65 (by decide) ?_
            cases hf
            exact zRWi hQ hx hb hr hlk rfl hP hD hS dX6_copy_67
        · have hf := zz_if hf hc_10
          refine lv_bipush (v := (-11 : Int32)) hx hb dX6_copy_49 (by decide) ?_
          cases hf
          exact zRWi hQ hx hb hr hlk rfl hP hD hS dX6_copy_51
    · have hf := zz_it hf hc_4
      refine lv_bipush (v := (-2 : Int32)) hx hb dX6_copy_14 (by decide) ?_
      cases hf
      exact zRWi hQ hx hb hr hlk rfl hP hD hS dX6_copy_16
def f_X6_hope_L125 (N : Nat) (k_18 : (Nat → Int32) → (Nat → Int32) → (Int32) → Option (Int32 × (Nat → Int32) × (Nat → Int32) × (Int32))) (s_items : Nat → Nat → Int32) (p1 : Int32) (p3 : Int32) (p4 : Int32) (p5 : Int32) : Nat → (Int32) → (Nat → Int32) → (Nat → Int32) → (Int32) → Option (Int32 × (Nat → Int32) × (Nat → Int32) × (Int32))
  | 0, _, _, _, _ => none
  | n_18 + 1, v7_19, n_hopeDays_20, n_hopeTenths_21, n_hopeCount_22 => (if p4 ≤ v7_19 then (k_18 n_hopeDays_20 n_hopeTenths_21 n_hopeCount_22) else zz_gd (zz_in (p3 + v7_19) 20) (zz_b3 (f_X5_addHope N n_hopeDays_20 n_hopeTenths_21 n_hopeCount_22 (s_items p1.toNatClampNeg (p3 + v7_19).toNatClampNeg) p5) (fun n_hopeDays_25 n_hopeTenths_26 n_hopeCount_27 => zz_let (v7_19 + (1 : Int32)) (fun v7_28 => (f_X6_hope_L125 N k_18 s_items p1 p3 p4 p5 n_18 v7_28 n_hopeDays_25 n_hopeTenths_26 n_hopeCount_27)))))
theorem f_X6_hope_L125_s (N : Nat) (k_18 : (Nat → Int32) → (Nat → Int32) → (Int32) → Option (Int32 × (Nat → Int32) × (Nat → Int32) × (Int32))) (s_items : Nat → Nat → Int32) (p1 : Int32) (p3 : Int32) (p4 : Int32) (p5 : Int32) (n_18 : Nat) (v7_19 : Int32) (n_hopeDays_20 : Nat → Int32) (n_hopeTenths_21 : Nat → Int32) (n_hopeCount_22 : Int32) : f_X6_hope_L125 N k_18 s_items p1 p3 p4 p5 (n_18 + 1) v7_19 n_hopeDays_20 n_hopeTenths_21 n_hopeCount_22 = (if p4 ≤ v7_19 then (k_18 n_hopeDays_20 n_hopeTenths_21 n_hopeCount_22) else zz_gd (zz_in (p3 + v7_19) 20) (zz_b3 (f_X5_addHope N n_hopeDays_20 n_hopeTenths_21 n_hopeCount_22 (s_items p1.toNatClampNeg (p3 + v7_19).toNatClampNeg) p5) (fun n_hopeDays_25 n_hopeTenths_26 n_hopeCount_27 => zz_let (v7_19 + (1 : Int32)) (fun v7_28 => (f_X6_hope_L125 N k_18 s_items p1 p3 p4 p5 n_18 v7_28 n_hopeDays_25 n_hopeTenths_26 n_hopeCount_27))))) := rfl
def f_X6_hope (N : Nat) (n_hopeDays : Nat → Int32) (n_hopeTenths : Nat → Int32) (n_hopeCount : Int32) (s_lane : Nat → Int32) (s_size : Nat → Int32) (s_items : Nat → Nat → Int32) (p1 : Int32) (p2 : Int32) (p3 : Int32) (p4 : Int32) (p5 : Int32) : Option (Int32 × (Nat → Int32) × (Nat → Int32) × (Int32)) := zz_b1 (f_X6_isSheet N p1) (fun r_1 => (if r_1 = 0 then (some ((-2 : Int32), n_hopeDays, n_hopeTenths, n_hopeCount)) else zz_b1 (f_X6_isLane N p2) (fun r_3 => (if r_3 = 0 then (some ((-3 : Int32), n_hopeDays, n_hopeTenths, n_hopeCount)) else (if p4 < (1 : Int32) then (some ((-3 : Int32), n_hopeDays, n_hopeTenths, n_hopeCount)) else (if (6 : Int32) < p4 then (some ((-3 : Int32), n_hopeDays, n_hopeTenths, n_hopeCount)) else (if p5 < 0 then (some ((-3 : Int32), n_hopeDays, n_hopeTenths, n_hopeCount)) else (if p5 ≤ (10 : Int32) then zz_gd (zz_in p1 3) (zz_b1 (f_X4_isMissing N s_size p1.toNatClampNeg) (fun r_10 => (if r_10 = 0 then (if (s_lane p1.toNatClampNeg) = p2 then zz_b1 (f_X4_hasPlaces N s_size p1.toNatClampNeg p3 p4) (fun r_13 => (if r_13 = 0 then (some ((-13 : Int32), n_hopeDays, n_hopeTenths, n_hopeCount)) else zz_b1 (f_X4_hasOnlyDays N s_items p1.toNatClampNeg p3 p4) (fun r_15 => (if r_15 = 0 then (some ((-4 : Int32), n_hopeDays, n_hopeTenths, n_hopeCount)) else (if p4 ≤ ((6 : Int32) - n_hopeCount) then zz_let (fun (n_hopeDays_29 : Nat → Int32) (n_hopeTenths_30 : Nat → Int32) (n_hopeCount_31 : Int32) => (some (n_hopeCount_31, n_hopeDays_29, n_hopeTenths_30, n_hopeCount_31))) (fun k_18 => f_X6_hope_L125 N k_18 s_items p1 p3 p4 p5 N (0 : Int32) n_hopeDays n_hopeTenths n_hopeCount) else (some ((-5 : Int32), n_hopeDays, n_hopeTenths, n_hopeCount))))))) else (some ((-12 : Int32), n_hopeDays, n_hopeTenths, n_hopeCount))) else (some ((-11 : Int32), n_hopeDays, n_hopeTenths, n_hopeCount))))) else (some ((-3 : Int32), n_hopeDays, n_hopeTenths, n_hopeCount))))))))))
abbrev rm_X6_hope : Room := { frames := 2, cells := 0, slots := 0, locals := 43 }
theorem mi_X6_hope : zMI RX6 yX6_hope cX6_hope 8 (some .int) 5 := ⟨⟨tw_4_132, tw_4_133, tw_1_1, tw_4_134⟩, by decide +kernel, by decide +kernel, by decide +kernel⟩
set_option maxHeartbeats 4000000 in
set_option maxRecDepth 100000 in
theorem k_X6_hope (l : Launch) (D : va_G) (c : Nat → ClassId) (N : Nat) (t0 : Nat) (n0 : Nat) (tA_images : Nat) (r0 : Nat) (m0 : Nat) (h0 : Nat) (o0 : Nat) (sA : Nat) (tA_rooms : Nat) (t_rooms : Nat → Int32) (n0_x : Nat) (nA_numbers : Nat) (nA_syllables : Nat) (nA_days : Nat) (nA_words : Nat) (nA_parents : Nat) (nA_otherParents : Nat) (nA_kinds : Nat) (nA_hopeDays : Nat) (nA_hopeTenths : Nat) (n_numbers : Nat → Int32) (n_syllables : Nat → Int64) (n_syllableCount : Int32) (n_days : Nat → Int32) (n_words : Nat → Int64) (n_parents : Nat → Int32) (n_otherParents : Nat → Int32) (n_kinds : Nat → Int32) (n_personCount : Int32) (n_hopeDays : Nat → Int32) (n_hopeTenths : Nat → Int32) (n_hopeCount : Int32) (n_degreesTold : Int32) (sA_x : Nat) (so : Nat → Nat) (si : Nat → Nat) (s_lane : Nat → Int32) (s_size : Nat → Int32) (s_items : Nat → Nat → Int32) (p1 : Int32) (p2 : Int32) (p3 : Int32) (p4 : Int32) (p5 : Int32) (o : Int32) (o_n_hopeDays : Nat → Int32) (o_n_hopeTenths : Nat → Int32) (o_n_hopeCount : Int32) (hf : f_X6_hope N n_hopeDays n_hopeTenths n_hopeCount s_lane s_size s_items p1 p2 p3 p4 p5 = some (o, o_n_hopeDays, o_n_hopeTenths, o_n_hopeCount)) : zMWi l D c yX6_hope cX6_hope 8 (some .int) rm_X6_hope (wX6 c t0 n0 tA_images r0 m0 h0 o0 sA tA_rooms t_rooms ++ wX5 c n0 nA_numbers nA_syllables nA_days nA_words nA_parents nA_otherParents nA_kinds nA_hopeDays nA_hopeTenths n_numbers n_syllables n_syllableCount n_days n_words n_parents n_otherParents n_kinds n_personCount n_hopeDays n_hopeTenths n_hopeCount n_degreesTold ++ wS c sA so si s_lane s_size s_items) (wX6 c t0 n0 tA_images r0 m0 h0 o0 sA tA_rooms t_rooms ++ wX5 c n0 nA_numbers nA_syllables nA_days nA_words nA_parents nA_otherParents nA_kinds nA_hopeDays nA_hopeTenths n_numbers n_syllables n_syllableCount n_days n_words n_parents n_otherParents n_kinds n_personCount o_n_hopeDays o_n_hopeTenths o_n_hopeCount n_degreesTold ++ wS c sA so si s_lane s_size s_items) [.ref t0, .int p1, .int p2, .int p3, .int p4, .int p5] o := by
  intro sz
  refine zIW (by decide) (Nat.le_of_ble_eq_true rfl) ?_
  intro p e s m args below meth c0 Q A hAe hQ hx hb hr hlk hml hts hown hP hE hD hS hA hsz hmn hX ls hl
  rw [← hAe] at hQ
  have S : CallFix p m c0 cX6_hope 8 s args zT RX6 := ⟨hx, hb, hml, hown, hts⟩
  have hl : lv_has ls 8 [(0, .ref t0), (1, .int p1), (2, .int p2), (3, .int p3), (4, .int p4), (5, .int p5)] := hl
  unfold f_X6_hope at hf
  refine lv_iload_n hx hb dX6_hope_0 rfl (lv_at hl 1 rfl) ?_
  obtain ⟨r_1, he_1, hf⟩ := zz_b1_use hf
  refine zcSi (As := [.int p1]) (rest := []) S (k_X6_isSheet l D c N  p1 r_1 he_1) mi_X6_isSheet tw_4_96 ⟨(Nat.le_of_ble_eq_true rfl), (Nat.le_of_ble_eq_true rfl)⟩ ⟨rfl, rfl⟩ (zpnil) hE hX hS rfl hl.1 rfl (Nat.le_of_ble_eq_true rfl) dX6_hope_1 ⟨(Nat.le_of_ble_eq_true rfl), (Nat.le_of_ble_eq_true rfl)⟩ ?_
  refine lv_if_ne (tgt := 10) hx hb dX6_hope_4 (by decide) (fun hc_2 => ?_) (fun hc_2 => ?_)
  · have hf := zz_if hf hc_2
    refine lv_iload_n hx hb dX6_hope_10 rfl (lv_at hl 2 rfl) ?_
    obtain ⟨r_3, he_3, hf⟩ := zz_b1_use hf
    refine zcSi (As := [.int p2]) (rest := []) S (k_X6_isLane l D c N  p2 r_3 he_3) mi_X6_isLane tw_4_99 ⟨(Nat.le_of_ble_eq_true rfl), (Nat.le_of_ble_eq_true rfl)⟩ ⟨rfl, rfl⟩ (zpnil) hE hX hS rfl hl.1 rfl (Nat.le_of_ble_eq_true rfl) dX6_hope_11 ⟨(Nat.le_of_ble_eq_true rfl), (Nat.le_of_ble_eq_true rfl)⟩ ?_
    refine lv_if_eq (tgt := 42) hx hb dX6_hope_14 (by decide) (fun hc_4 => ?_) (fun hc_4 => ?_)
    · have hf := zz_it hf hc_4
      refine lv_bipush (v := (-3 : Int32)) hx hb dX6_hope_42 (by decide) ?_
      cases hf
      exact zRWi hQ hx hb hr hlk rfl hP hD hS dX6_hope_44
    · have hf := zz_if hf hc_4
      refine lv_iload hx hb dX6_hope_17 (lv_at hl 4 rfl) ?_
      refine lv_iconst (v := (1 : Int32)) hx hb dX6_hope_19 (by decide) ?_
      refine lv_icmp_lt (tgt := 42) hx hb dX6_hope_20 (by decide) (fun hc_5 => ?_) (fun hc_5 => ?_)
      · have hf := zz_it hf hc_5
        refine lv_bipush (v := (-3 : Int32)) hx hb dX6_hope_42 (by decide) ?_
        cases hf
        exact zRWi hQ hx hb hr hlk rfl hP hD hS dX6_hope_44
      · have hf := zz_if hf hc_5
        refine lv_iload hx hb dX6_hope_23 (lv_at hl 4 rfl) ?_
        refine lv_bipush (v := (6 : Int32)) hx hb dX6_hope_25 (by decide) ?_
        refine lv_icmp_gt (tgt := 42) hx hb dX6_hope_27 (by decide) (fun hc_6 => ?_) (fun hc_6 => ?_)
        · have hf := zz_it hf hc_6
          refine lv_bipush (v := (-3 : Int32)) hx hb dX6_hope_42 (by decide) ?_
          cases hf
          exact zRWi hQ hx hb hr hlk rfl hP hD hS dX6_hope_44
        · have hf := zz_if hf hc_6
          refine lv_iload hx hb dX6_hope_30 (lv_at hl 5 rfl) ?_
          refine lv_if_lt (tgt := 42) hx hb dX6_hope_32 (by decide) (fun hc_7 => ?_) (fun hc_7 => ?_)
          · have hf := zz_it hf hc_7
            refine lv_bipush (v := (-3 : Int32)) hx hb dX6_hope_42 (by decide) ?_
            cases hf
            exact zRWi hQ hx hb hr hlk rfl hP hD hS dX6_hope_44
          · have hf := zz_if hf hc_7
            refine lv_iload hx hb dX6_hope_35 (lv_at hl 5 rfl) ?_
            refine lv_bipush (v := (10 : Int32)) hx hb dX6_hope_37 (by decide) ?_
            refine lv_icmp_le (tgt := 45) hx hb dX6_hope_39 (by decide) (fun hc_8 => ?_) (fun hc_8 => ?_)
            · have hf := zz_it hf hc_8
              refine lv_aload_n hx hb dX6_hope_45 rfl (lv_at hl 0 rfl) ?_
              refine zget S uw_X6 hE hP 0 6 rfl rfl (by decide) tw_2_15 rfl rfl dX6_hope_46 ?_
              refine lv_iload_n hx hb dX6_hope_49 rfl (lv_at hl 1 rfl) ?_
              obtain ⟨hin_9, hf⟩ := zz_gd_use hf
              refine zaS hx hb hE hP 12 rfl (zz_in_ok hin_9) dX6_hope_50 ?_
              refine lv_astore (lv' := [(6, .ref (so p1.toNatClampNeg)), (0, .ref t0), (1, .int p1), (2, .int p2), (3, .int p3), (4, .int p4), (5, .int p5)]) hx hb dX6_hope_51 hl (by decide) rfl (fun ls hl => ?_)
              refine lv_aload hx hb dX6_hope_53 (lv_at hl 0 rfl) ?_
              obtain ⟨r_10, he_10, hf⟩ := zz_b1_use hf
              refine zcVi (As := []) (rest := []) S (k_X4_isMissing l D c N sA so si s_lane s_size s_items p1.toNatClampNeg (zz_in_lt hin_9)  r_10 he_10) mi_X4_isMissing tw_4_114 ⟨(Nat.le_of_ble_eq_true rfl), (Nat.le_of_ble_eq_true rfl)⟩ ⟨rfl, rfl⟩ (zpsub (is := [12, 13, 14, 15, 16, 17, 18]) hP rfl) hE hX hS (ci := 4) rfl rfl (q0 := 1 + p1.toNatClampNeg) (wS_o (zz_in_lt hin_9)) rfl hl.1 rfl (Nat.le_of_ble_eq_true rfl) dX6_hope_55 ⟨(Nat.le_of_ble_eq_true rfl), (Nat.le_of_ble_eq_true rfl)⟩ ?_
              refine lv_if_eq (tgt := 64) hx hb dX6_hope_58 (by decide) (fun hc_11 => ?_) (fun hc_11 => ?_)
              · have hf := zz_it hf hc_11
                refine lv_aload hx hb dX6_hope_64 (lv_at hl 0 rfl) ?_
                refine zget S uw_X4 hE hP (12 + (1 + p1.toNatClampNeg)) 1 (zapp rfl (wS_o (zz_in_lt hin_9))) rfl (by decide) tw_1_239 rfl rfl dX6_hope_66 ?_
                refine lv_iload_n hx hb dX6_hope_69 rfl (lv_at hl 3 rfl) ?_
                refine lv_icmp_eq (tgt := 76) hx hb dX6_hope_70 (by decide) (fun hc_12 => ?_) (fun hc_12 => ?_)
                · have hf := zz_it hf hc_12
                  refine lv_aload hx hb dX6_hope_76 (lv_at hl 0 rfl) ?_
                  refine lv_iload_n hx hb dX6_hope_78 rfl (lv_at hl 4 rfl) ?_
                  refine lv_iload hx hb dX6_hope_79 (lv_at hl 5 rfl) ?_
                  obtain ⟨r_13, he_13, hf⟩ := zz_b1_use hf
                  refine zcVi (As := [.int p3, .int p4]) (rest := []) S (k_X4_hasPlaces l D c N sA so si s_lane s_size s_items p1.toNatClampNeg (zz_in_lt hin_9) p3 p4 r_13 he_13) mi_X4_hasPlaces tw_4_118 ⟨(Nat.le_of_ble_eq_true rfl), (Nat.le_of_ble_eq_true rfl)⟩ ⟨rfl, rfl⟩ (zpsub (is := [12, 13, 14, 15, 16, 17, 18]) hP rfl) hE hX hS (ci := 4) rfl rfl (q0 := 1 + p1.toNatClampNeg) (wS_o (zz_in_lt hin_9)) rfl hl.1 rfl (Nat.le_of_ble_eq_true rfl) dX6_hope_81 ⟨(Nat.le_of_ble_eq_true rfl), (Nat.le_of_ble_eq_true rfl)⟩ ?_
                  refine lv_if_ne (tgt := 90) hx hb dX6_hope_84 (by decide) (fun hc_14 => ?_) (fun hc_14 => ?_)
                  · have hf := zz_if hf hc_14
                    refine lv_aload hx hb dX6_hope_90 (lv_at hl 0 rfl) ?_
                    refine lv_iload_n hx hb dX6_hope_92 rfl (lv_at hl 4 rfl) ?_
                    refine lv_iload hx hb dX6_hope_93 (lv_at hl 5 rfl) ?_
                    obtain ⟨r_15, he_15, hf⟩ := zz_b1_use hf
                    refine zcVi (As := [.int p3, .int p4]) (rest := []) S (k_X4_hasOnlyDays l D c N sA so si s_lane s_size s_items p1.toNatClampNeg (zz_in_lt hin_9) p3 p4 r_15 he_15) mi_X4_hasOnlyDays tw_4_135 ⟨(Nat.le_of_ble_eq_true rfl), (Nat.le_of_ble_eq_true rfl)⟩ ⟨rfl, rfl⟩ (zpsub (is := [12, 13, 14, 15, 16, 17, 18]) hP rfl) hE hX hS (ci := 4) rfl rfl (q0 := 1 + p1.toNatClampNeg) (wS_o (zz_in_lt hin_9)) rfl hl.1 rfl (Nat.le_of_ble_eq_true rfl) dX6_hope_95 ⟨(Nat.le_of_ble_eq_true rfl), (Nat.le_of_ble_eq_true rfl)⟩ ?_
                    refine lv_if_ne (tgt := 104) hx hb dX6_hope_98 (by decide) (fun hc_16 => ?_) (fun hc_16 => ?_)
                    · have hf := zz_if hf hc_16
                      refine lv_iload hx hb dX6_hope_104 (lv_at hl 5 rfl) ?_
                      refine lv_bipush (v := (6 : Int32)) hx hb dX6_hope_106 (by decide) ?_
                      refine lv_aload_n hx hb dX6_hope_108 rfl (lv_at hl 1 rfl) ?_
                      refine zget S uw_X6 hE hP 0 0 rfl rfl (by decide) tw_2_9 rfl rfl dX6_hope_109 ?_
                      refine zget S uw_X5 hE hP 2 11 rfl rfl (by decide) tw_1_63 rfl rfl dX6_hope_112 ?_
                      refine lv_isub hx hb dX6_hope_115 ?_
                      refine lv_icmp_le (tgt := 122) hx hb dX6_hope_116 (by decide) (fun hc_17 => ?_) (fun hc_17 => ?_)
                      · have hf := zz_it hf hc_17
                        refine lv_iconst (v := (0 : Int32)) hx hb dX6_hope_122 (by decide) ?_
                        refine lv_istore (lv' := [(7, .int (0 : Int32)), (6, .ref (so p1.toNatClampNeg)), (0, .ref t0), (1, .int p1), (2, .int p2), (3, .int p3), (4, .int p4), (5, .int p5)]) hx hb dX6_hope_123 hl (by decide) rfl (fun ls hl => ?_)
                        obtain ⟨k_18, hk_18, hf⟩ := zz_let_use hf
                        have hX_18 : ∀ (n_hopeDays_29 : Nat → Int32) (n_hopeTenths_30 : Nat → Int32) (n_hopeCount_31 : Int32) (H : Heap) (locs : List Loc) (ls : Array Slot), k_18 n_hopeDays_29 n_hopeTenths_30 n_hopeCount_31 = some (o, o_n_hopeDays, o_n_hopeTenths, o_n_hopeCount) → va_P D vwCl (wX6 c t0 n0 tA_images r0 m0 h0 o0 sA tA_rooms t_rooms ++ wX5 c n0 nA_numbers nA_syllables nA_days nA_words nA_parents nA_otherParents nA_kinds nA_hopeDays nA_hopeTenths n_numbers n_syllables n_syllableCount n_days n_words n_parents n_otherParents n_kinds n_personCount n_hopeDays_29 n_hopeTenths_30 n_hopeCount_31 n_degreesTold ++ wS c sA so si s_lane s_size s_items) H → va_D A (wX6 c t0 n0 tA_images r0 m0 h0 o0 sA tA_rooms t_rooms ++ wX5 c n0 nA_numbers nA_syllables nA_days nA_words nA_parents nA_otherParents nA_kinds nA_hopeDays nA_hopeTenths n_numbers n_syllables n_syllableCount n_days n_words n_parents n_otherParents n_kinds n_personCount n_hopeDays_29 n_hopeTenths_30 n_hopeCount_31 n_degreesTold ++ wS c sA so si s_lane s_size s_items) → va_S A s.heap H locs → lv_has ls 8 [(0, .ref t0)] → W p l e rm_X6_hope s m args below meth c0 H locs 0 0 Q (F0 m 157 ls []) := by
                          intro n_hopeDays_29 n_hopeTenths_30 n_hopeCount_31 H locs ls hf hP hD hS hl
                          subst hk_18
                          refine lv_aload_n hx hb dX6_hope_157 rfl (lv_at hl 0 rfl) ?_
                          refine zget S uw_X6 hE hP 0 0 rfl rfl (by decide) tw_2_9 rfl rfl dX6_hope_158 ?_
                          refine zget S uw_X5 hE hP 2 11 rfl rfl (by decide) tw_1_63 rfl rfl dX6_hope_161 ?_
                          cases hf
                          exact zRWi hQ hx hb hr hlk rfl hP hD hS dX6_hope_164
                        have hL_18 : ∀ (n_18 : Nat) (v7_19 : Int32) (n_hopeDays_20 : Nat → Int32) (n_hopeTenths_21 : Nat → Int32) (n_hopeCount_22 : Int32) (H : Heap) (locs : List Loc) (ls : Array Slot), f_X6_hope_L125 N k_18 s_items p1 p3 p4 p5 n_18 v7_19 n_hopeDays_20 n_hopeTenths_21 n_hopeCount_22 = some (o, o_n_hopeDays, o_n_hopeTenths, o_n_hopeCount) → va_P D vwCl (wX6 c t0 n0 tA_images r0 m0 h0 o0 sA tA_rooms t_rooms ++ wX5 c n0 nA_numbers nA_syllables nA_days nA_words nA_parents nA_otherParents nA_kinds nA_hopeDays nA_hopeTenths n_numbers n_syllables n_syllableCount n_days n_words n_parents n_otherParents n_kinds n_personCount n_hopeDays_20 n_hopeTenths_21 n_hopeCount_22 n_degreesTold ++ wS c sA so si s_lane s_size s_items) H → va_D A (wX6 c t0 n0 tA_images r0 m0 h0 o0 sA tA_rooms t_rooms ++ wX5 c n0 nA_numbers nA_syllables nA_days nA_words nA_parents nA_otherParents nA_kinds nA_hopeDays nA_hopeTenths n_numbers n_syllables n_syllableCount n_days n_words n_parents n_otherParents n_kinds n_personCount n_hopeDays_20 n_hopeTenths_21 n_hopeCount_22 n_degreesTold ++ wS c sA so si s_lane s_size s_items) → va_S A s.heap H locs → lv_has ls 8 [(0, .ref t0), (3, .int p3), (4, .int p4), (5, .int p5), (6, .ref (so p1.toNatClampNeg)), (7, .int v7_19)] → W p l e rm_X6_hope s m args below meth c0 H locs 0 0 Q (F0 m 125 ls []) := by
                          intro n_18
                          induction n_18 with
                          | zero => intro v7_19 n_hopeDays_20 n_hopeTenths_21 n_hopeCount_22 H locs ls hf hP hD hS hl; exact zz_none hf
                          | succ n_18 ih_18 =>
                            intro v7_19 n_hopeDays_20 n_hopeTenths_21 n_hopeCount_22 H locs ls hf hP hD hS hl
                            rw [f_X6_hope_L125_s] at hf
                            refine lv_iload hx hb dX6_hope_125 (lv_at hl 5 rfl) ?_
                            refine lv_iload hx hb dX6_hope_127 (lv_at hl 2 rfl) ?_
                            refine lv_icmp_ge (tgt := 157) hx hb dX6_hope_129 (by decide) (fun hc_23 => ?_) (fun hc_23 => ?_)
                            · have hf := zz_it hf hc_23
                              exact hX_18 n_hopeDays_20 n_hopeTenths_21 n_hopeCount_22 H locs ls hf hP hD hS (lv_sub hl [0] rfl)
                            · have hf := zz_if hf hc_23
                              refine lv_aload_n hx hb dX6_hope_132 rfl (lv_at hl 0 rfl) ?_
                              refine zget S uw_X6 hE hP 0 0 rfl rfl (by decide) tw_2_9 rfl rfl dX6_hope_133 ?_
                              refine lv_aload hx hb dX6_hope_136 (lv_at hl 4 rfl) ?_
                              refine zget S uw_X4 hE hP (12 + (1 + p1.toNatClampNeg)) 0 (zapp rfl (wS_o (zz_in_lt hin_9))) rfl (by decide) tw_1_237 rfl rfl dX6_hope_138 ?_
                              refine lv_iload_n hx hb dX6_hope_141 rfl (lv_at hl 1 rfl) ?_
                              refine lv_iload hx hb dX6_hope_142 (lv_at hl 5 rfl) ?_
                              refine lv_iadd hx hb dX6_hope_144 ?_
                              obtain ⟨hin_24, hf⟩ := zz_gd_use hf
                              refine zild hx hb hE hP (12 + (4 + p1.toNatClampNeg)) (zapp rfl (wS_i (zz_in_lt hin_9))) (zz_in_ok hin_24) dX6_hope_145 ?_
                              refine lv_iload hx hb dX6_hope_146 (lv_at hl 3 rfl) ?_
                              obtain ⟨n_hopeDays_25, n_hopeTenths_26, n_hopeCount_27, he_27, hf⟩ := zz_b3_use hf
                              refine zwVv (As := [.int (s_items p1.toNatClampNeg (p3 + v7_19).toNatClampNeg), .int p5]) (rest := []) (wr := (wX6 c t0 n0 tA_images r0 m0 h0 o0 sA tA_rooms t_rooms ++ wS c sA so si s_lane s_size s_items)) (wX6 c t0 n0 tA_images r0 m0 h0 o0 sA tA_rooms t_rooms ++ wX5 c n0 nA_numbers nA_syllables nA_days nA_words nA_parents nA_otherParents nA_kinds nA_hopeDays nA_hopeTenths n_numbers n_syllables n_syllableCount n_days n_words n_parents n_otherParents n_kinds n_personCount n_hopeDays_25 n_hopeTenths_26 n_hopeCount_27 n_degreesTold ++ wS c sA so si s_lane s_size s_items) [2, 3, 4, 5, 6, 7, 8, 9, 10, 11] [0, 1, 12, 13, 14, 15, 16, 17, 18] [0, 1, 9, 10, 11, 12, 13, 14, 15, 16, 17, 18, 2, 3, 4, 5, 6, 7, 8] S (k_X5_addHope l D c N n0 nA_numbers nA_syllables nA_days nA_words nA_parents nA_otherParents nA_kinds nA_hopeDays nA_hopeTenths n_numbers n_syllables n_syllableCount n_days n_words n_parents n_otherParents n_kinds n_personCount n_hopeDays_20 n_hopeTenths_21 n_hopeCount_22 n_degreesTold (s_items p1.toNatClampNeg (p3 + v7_19).toNatClampNeg) p5 n_hopeDays_25 n_hopeTenths_26 n_hopeCount_27 he_27) mi_X5_addHope tw_4_140 ⟨(Nat.le_of_ble_eq_true rfl), (Nat.le_of_ble_eq_true rfl)⟩ ⟨rfl, rfl⟩ hP hD hS hA rfl rfl rfl rfl (by decide) rfl rfl hE hX (ci := 5) rfl rfl (q0 := 0) rfl rfl hl.1 rfl (Nat.le_of_ble_eq_true rfl) dX6_hope_148 ⟨(Nat.le_of_ble_eq_true rfl), (Nat.le_of_ble_eq_true rfl)⟩ (fun H locs hP hD hS => ?_)
                              obtain ⟨v7_28, ev7_28, hf⟩ := zz_let_use hf
                              refine lv_iinc (v := v7_28) (lv' := [(7, .int v7_28), (0, .ref t0), (3, .int p3), (4, .int p4), (5, .int p5), (6, .ref (so p1.toNatClampNeg))]) hx hb dX6_hope_151 hl (k := 5) rfl (by rw [← ev7_28]; rfl) (by decide) rfl (fun ls hl => ?_)
                              refine lv_goto (tgt := 125) hx hb dX6_hope_154 (by decide) ?_
                              exact ih_18 v7_28 n_hopeDays_25 n_hopeTenths_26 n_hopeCount_27 H locs ls hf hP hD hS (lv_sub hl [1, 2, 3, 4, 5, 0] rfl)
                        exact hL_18 N (0 : Int32) n_hopeDays n_hopeTenths n_hopeCount s.heap [] ls hf hP hD hS (lv_sub hl [2, 5, 6, 7, 1, 0] rfl)
                      · have hf := zz_if hf hc_17
                        refine lv_bipush (v := (-5 : Int32)) hx hb dX6_hope_119 (by decide) ?_
                        cases hf
                        exact zRWi hQ hx hb hr hlk rfl hP hD hS dX6_hope_121
                    · have hf := zz_it hf hc_16
                      refine lv_bipush (v := (-4 : Int32)) hx hb dX6_hope_101 (by decide) ?_
                      cases hf
                      exact zRWi hQ hx hb hr hlk rfl hP hD hS dX6_hope_103
                  · have hf := zz_it hf hc_14
                    refine lv_bipush (v := (-13 : Int32)) hx hb dX6_hope_87 (by decide) ?_
                    cases hf
                    exact zRWi hQ hx hb hr hlk rfl hP hD hS dX6_hope_89
                · have hf := zz_if hf hc_12
                  refine lv_bipush (v := (-12 : Int32)) hx hb dX6_hope_73 (by decide) ?_
                  cases hf
                  exact zRWi hQ hx hb hr hlk rfl hP hD hS dX6_hope_75
              · have hf := zz_if hf hc_11
                refine lv_bipush (v := (-11 : Int32)) hx hb dX6_hope_61 (by decide) ?_
                cases hf
                exact zRWi hQ hx hb hr hlk rfl hP hD hS dX6_hope_63
            · have hf := zz_if hf hc_8
              refine lv_bipush (v := (-3 : Int32)) hx hb dX6_hope_42 (by decide) ?_
              cases hf
              exact zRWi hQ hx hb hr hlk rfl hP hD hS dX6_hope_44
  · have hf := zz_it hf hc_2
    refine lv_bipush (v := (-2 : Int32)) hx hb dX6_hope_7 (by decide) ?_
    cases hf
    exact zRWi hQ hx hb hr hlk rfl hP hD hS dX6_hope_9
def f_X6_count (N : Nat) (n_syllableCount : Int32) (n_personCount : Int32) (n_hopeCount : Int32) (n_degreesTold : Int32) (r_length : Int32) (s_size : Nat → Int32) (p1 : Int32) : Option (Int32) := (if p1 = 0 then (some n_personCount) else (if p1 = 1 then (some n_syllableCount) else (if p1 = 2 then (some n_hopeCount) else (if p1 = 3 then (some n_degreesTold) else (if p1 = 4 then (some r_length) else (if p1 = 5 then zz_gd (zz_in (p1 - (5 : Int32)) 3) ((some (s_size ((p1 - (5 : Int32)).toNatClampNeg)))) else (if p1 = 6 then zz_gd (zz_in (p1 - (5 : Int32)) 3) ((some (s_size ((p1 - (5 : Int32)).toNatClampNeg)))) else (if p1 = 7 then zz_gd (zz_in (p1 - (5 : Int32)) 3) ((some (s_size ((p1 - (5 : Int32)).toNatClampNeg)))) else (some (-3 : Int32))))))))))
abbrev rm_X6_count : Room := { frames := 0, cells := 0, slots := 0, locals := 0 }
theorem mi_X6_count : zMI RX6 yX6_count cX6_count 2 (some .int) 1 := ⟨⟨tw_4_153, tw_4_154, tw_1_1, tw_4_155⟩, by decide +kernel, by decide +kernel, by decide +kernel⟩
set_option maxHeartbeats 4000000 in
set_option maxRecDepth 100000 in
theorem k_X6_count (l : Launch) (D : va_G) (c : Nat → ClassId) (N : Nat) (t0 : Nat) (n0 : Nat) (tA_images : Nat) (r0 : Nat) (m0 : Nat) (h0 : Nat) (o0 : Nat) (sA : Nat) (tA_rooms : Nat) (t_rooms : Nat → Int32) (n0_x : Nat) (nA_numbers : Nat) (nA_syllables : Nat) (nA_days : Nat) (nA_words : Nat) (nA_parents : Nat) (nA_otherParents : Nat) (nA_kinds : Nat) (nA_hopeDays : Nat) (nA_hopeTenths : Nat) (n_numbers : Nat → Int32) (n_syllables : Nat → Int64) (n_syllableCount : Int32) (n_days : Nat → Int32) (n_words : Nat → Int64) (n_parents : Nat → Int32) (n_otherParents : Nat → Int32) (n_kinds : Nat → Int32) (n_personCount : Int32) (n_hopeDays : Nat → Int32) (n_hopeTenths : Nat → Int32) (n_hopeCount : Int32) (n_degreesTold : Int32) (r0_x : Nat) (rA_text : Nat) (d0 : Nat) (r_text : Nat → Int32) (r_length : Int32) (r_lines : Int32) (r_place : Int32) (r_token : Int32) (r_begin : Int32) (r_bytes : Int32) (r_value : Int64) (r_parent : Int32) (r_otherParent : Int32) (d0_x : Nat) (dA_numbers : Nat) (dA_syllables : Nat) (dA_days : Nat) (dA_words : Nat) (dA_parents : Nat) (dA_otherParents : Nat) (dA_kinds : Nat) (dA_hopeDays : Nat) (dA_hopeTenths : Nat) (d_numbers : Nat → Int32) (d_syllables : Nat → Int64) (d_syllableCount : Int32) (d_days : Nat → Int32) (d_words : Nat → Int64) (d_parents : Nat → Int32) (d_otherParents : Nat → Int32) (d_kinds : Nat → Int32) (d_personCount : Int32) (d_hopeDays : Nat → Int32) (d_hopeTenths : Nat → Int32) (d_hopeCount : Int32) (d_degreesTold : Int32) (sA_x : Nat) (so : Nat → Nat) (si : Nat → Nat) (s_lane : Nat → Int32) (s_size : Nat → Int32) (s_items : Nat → Nat → Int32) (p1 : Int32) (o : Int32) (hf : f_X6_count N n_syllableCount n_personCount n_hopeCount n_degreesTold r_length s_size p1 = some o) : zMPi l D c yX6_count cX6_count 2 (some .int) rm_X6_count (wX6 c t0 n0 tA_images r0 m0 h0 o0 sA tA_rooms t_rooms ++ wX5 c n0 nA_numbers nA_syllables nA_days nA_words nA_parents nA_otherParents nA_kinds nA_hopeDays nA_hopeTenths n_numbers n_syllables n_syllableCount n_days n_words n_parents n_otherParents n_kinds n_personCount n_hopeDays n_hopeTenths n_hopeCount n_degreesTold ++ wX3 c r0 rA_text d0 r_text r_length r_lines r_place r_token r_begin r_bytes r_value r_parent r_otherParent ++ wX5 c d0 dA_numbers dA_syllables dA_days dA_words dA_parents dA_otherParents dA_kinds dA_hopeDays dA_hopeTenths d_numbers d_syllables d_syllableCount d_days d_words d_parents d_otherParents d_kinds d_personCount d_hopeDays d_hopeTenths d_hopeCount d_degreesTold ++ wS c sA so si s_lane s_size s_items) [.ref t0, .int p1] o := by
  refine zIP (by decide) (Nat.le_of_ble_eq_true rfl) ?_
  intro p e s m args below meth c0 Q hQ hx hb hr hlk hml hts hown hP hE hX hS ls hl
  have S : CallFix p m c0 cX6_count 2 s args zT RX6 := ⟨hx, hb, hml, hown, hts⟩
  have hl : lv_has ls 2 [(0, .ref t0), (1, .int p1)] := hl
  unfold f_X6_count at hf
  refine lv_iload_n hx hb dX6_count_0 rfl (lv_at hl 1 rfl) ?_
  by_cases hs_1_0 : p1 = 0
  · have hf := zz_it hf hs_1_0
    refine lv_tableIn (tgt := 48) hx hb dX6_count_1 (by rw [hs_1_0]; decide) (by rw [hs_1_0]; decide) (by rw [hs_1_0]; rfl) (by decide) ?_
    refine lv_aload_n hx hb dX6_count_48 rfl (lv_at hl 0 rfl) ?_
    refine zget S uw_X6 hE hP 0 0 rfl rfl (by decide) tw_2_9 rfl rfl dX6_count_49 ?_
    refine zget S uw_X5 hE hP 2 8 rfl rfl (by decide) tw_1_56 rfl rfl dX6_count_52 ?_
    exact zRPi hQ hx hb hr hlk (Option.some.inj hf) dX6_count_55
  · have hf := zz_if hf hs_1_0
    by_cases hs_1_1 : p1 = 1
    · have hf := zz_it hf hs_1_1
      refine lv_tableIn (tgt := 56) hx hb dX6_count_1 (by rw [hs_1_1]; decide) (by rw [hs_1_1]; decide) (by rw [hs_1_1]; rfl) (by decide) ?_
      refine lv_aload_n hx hb dX6_count_56 rfl (lv_at hl 0 rfl) ?_
      refine zget S uw_X6 hE hP 0 0 rfl rfl (by decide) tw_2_9 rfl rfl dX6_count_57 ?_
      refine zget S uw_X5 hE hP 2 2 rfl rfl (by decide) tw_1_39 rfl rfl dX6_count_60 ?_
      exact zRPi hQ hx hb hr hlk (Option.some.inj hf) dX6_count_63
    · have hf := zz_if hf hs_1_1
      by_cases hs_1_2 : p1 = 2
      · have hf := zz_it hf hs_1_2
        refine lv_tableIn (tgt := 64) hx hb dX6_count_1 (by rw [hs_1_2]; decide) (by rw [hs_1_2]; decide) (by rw [hs_1_2]; rfl) (by decide) ?_
        refine lv_aload_n hx hb dX6_count_64 rfl (lv_at hl 0 rfl) ?_
        refine zget S uw_X6 hE hP 0 0 rfl rfl (by decide) tw_2_9 rfl rfl dX6_count_65 ?_
        refine zget S uw_X5 hE hP 2 11 rfl rfl (by decide) tw_1_63 rfl rfl dX6_count_68 ?_
        exact zRPi hQ hx hb hr hlk (Option.some.inj hf) dX6_count_71
      · have hf := zz_if hf hs_1_2
        by_cases hs_1_3 : p1 = 3
        · have hf := zz_it hf hs_1_3
          refine lv_tableIn (tgt := 72) hx hb dX6_count_1 (by rw [hs_1_3]; decide) (by rw [hs_1_3]; decide) (by rw [hs_1_3]; rfl) (by decide) ?_
          refine lv_aload_n hx hb dX6_count_72 rfl (lv_at hl 0 rfl) ?_
          refine zget S uw_X6 hE hP 0 0 rfl rfl (by decide) tw_2_9 rfl rfl dX6_count_73 ?_
          refine zget S uw_X5 hE hP 2 12 rfl rfl (by decide) tw_1_66 rfl rfl dX6_count_76 ?_
          exact zRPi hQ hx hb hr hlk (Option.some.inj hf) dX6_count_79
        · have hf := zz_if hf hs_1_3
          by_cases hs_1_4 : p1 = 4
          · have hf := zz_it hf hs_1_4
            refine lv_tableIn (tgt := 80) hx hb dX6_count_1 (by rw [hs_1_4]; decide) (by rw [hs_1_4]; decide) (by rw [hs_1_4]; rfl) (by decide) ?_
            refine lv_aload_n hx hb dX6_count_80 rfl (lv_at hl 0 rfl) ?_
            refine zget S uw_X6 hE hP 0 2 rfl rfl (by decide) tw_2_11 rfl rfl dX6_count_81 ?_
            refine zget S uw_X3 hE hP 12 1 rfl rfl (by decide) tw_1_107 rfl rfl dX6_count_84 ?_
            exact zRPi hQ hx hb hr hlk (Option.some.inj hf) dX6_count_87
          · have hf := zz_if hf hs_1_4
            by_cases hs_1_5 : p1 = 5
            · have hf := zz_it hf hs_1_5
              refine lv_tableIn (tgt := 88) hx hb dX6_count_1 (by rw [hs_1_5]; decide) (by rw [hs_1_5]; decide) (by rw [hs_1_5]; rfl) (by decide) ?_
              refine lv_aload_n hx hb dX6_count_88 rfl (lv_at hl 0 rfl) ?_
              refine zget S uw_X6 hE hP 0 6 rfl rfl (by decide) tw_2_15 rfl rfl dX6_count_89 ?_
              refine lv_iload_n hx hb dX6_count_92 rfl (lv_at hl 1 rfl) ?_
              refine lv_iconst (v := (5 : Int32)) hx hb dX6_count_93 (by decide) ?_
              refine lv_isub hx hb dX6_count_94 ?_
              obtain ⟨hin_2, hf⟩ := zz_gd_use hf
              refine zaS hx hb hE hP 24 rfl (zz_in_ok hin_2) dX6_count_95 ?_
              refine zget S uw_X4 hE hP (24 + (1 + ((p1 - (5 : Int32)).toNatClampNeg))) 2 (zapp rfl (wS_o (zz_in_lt hin_2))) rfl (by decide) tw_2_1 rfl rfl dX6_count_96 ?_
              exact zRPi hQ hx hb hr hlk (Option.some.inj hf) dX6_count_99
            · have hf := zz_if hf hs_1_5
              by_cases hs_1_6 : p1 = 6
              · have hf := zz_it hf hs_1_6
                refine lv_tableIn (tgt := 88) hx hb dX6_count_1 (by rw [hs_1_6]; decide) (by rw [hs_1_6]; decide) (by rw [hs_1_6]; rfl) (by decide) ?_
                refine lv_aload_n hx hb dX6_count_88 rfl (lv_at hl 0 rfl) ?_
                refine zget S uw_X6 hE hP 0 6 rfl rfl (by decide) tw_2_15 rfl rfl dX6_count_89 ?_
                refine lv_iload_n hx hb dX6_count_92 rfl (lv_at hl 1 rfl) ?_
                refine lv_iconst (v := (5 : Int32)) hx hb dX6_count_93 (by decide) ?_
                refine lv_isub hx hb dX6_count_94 ?_
                obtain ⟨hin_3, hf⟩ := zz_gd_use hf
                refine zaS hx hb hE hP 24 rfl (zz_in_ok hin_3) dX6_count_95 ?_
                refine zget S uw_X4 hE hP (24 + (1 + ((p1 - (5 : Int32)).toNatClampNeg))) 2 (zapp rfl (wS_o (zz_in_lt hin_3))) rfl (by decide) tw_2_1 rfl rfl dX6_count_96 ?_
                exact zRPi hQ hx hb hr hlk (Option.some.inj hf) dX6_count_99
              · have hf := zz_if hf hs_1_6
                by_cases hs_1_7 : p1 = 7
                · have hf := zz_it hf hs_1_7
                  refine lv_tableIn (tgt := 88) hx hb dX6_count_1 (by rw [hs_1_7]; decide) (by rw [hs_1_7]; decide) (by rw [hs_1_7]; rfl) (by decide) ?_
                  refine lv_aload_n hx hb dX6_count_88 rfl (lv_at hl 0 rfl) ?_
                  refine zget S uw_X6 hE hP 0 6 rfl rfl (by decide) tw_2_15 rfl rfl dX6_count_89 ?_
                  refine lv_iload_n hx hb dX6_count_92 rfl (lv_at hl 1 rfl) ?_
                  refine lv_iconst (v := (5 : Int32)) hx hb dX6_count_93 (by decide) ?_
                  refine lv_isub hx hb dX6_count_94 ?_
                  obtain ⟨hin_4, hf⟩ := zz_gd_use hf
                  refine zaS hx hb hE hP 24 rfl (zz_in_ok hin_4) dX6_count_95 ?_
                  refine zget S uw_X4 hE hP (24 + (1 + ((p1 - (5 : Int32)).toNatClampNeg))) 2 (zapp rfl (wS_o (zz_in_lt hin_4))) rfl (by decide) tw_2_1 rfl rfl dX6_count_96 ?_
                  exact zRPi hQ hx hb hr hlk (Option.some.inj hf) dX6_count_99
                · have hf := zz_if hf hs_1_7
                  refine lv_tableOut (tgt := 100) hx hb dX6_count_1 (zz_out_0_7 hs_1_0 hs_1_1 hs_1_2 hs_1_3 hs_1_4 hs_1_5 hs_1_6 hs_1_7) (by decide) ?_
                  refine lv_bipush (v := (-3 : Int32)) hx hb dX6_count_100 (by decide) ?_
                  exact zRPi hQ hx hb hr hlk (Option.some.inj hf) dX6_count_102
