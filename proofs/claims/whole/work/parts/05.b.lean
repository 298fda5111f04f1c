def f_X3_append_L17 (N : Nat) (k_2 : (Nat → Int32) → (Int32) → Option (Int32 × (Nat → Int32) × (Int32))) (p1 : Int64) (p3 : Int32) : Nat → (Int32) → (Nat → Int32) → (Int32) → Option (Int32 × (Nat → Int32) × (Int32))
  | 0, _, _, _ => none
  | n_2 + 1, v4_3, t_text_4, t_length_5 => (if p3 ≤ v4_3 then (k_2 t_text_4 t_length_5) else zz_gd (zz_in t_length_5 200) (zz_let (upd t_text_4 t_length_5.toNatClampNeg (((p1 >>> (((8 : Int32) * v4_3).toInt64 &&& 63)) &&& (255 : Int64)).toInt32)) (fun t_text_8 => zz_let (t_length_5 + (1 : Int32)) (fun t_length_9 => zz_let (v4_3 + (1 : Int32)) (fun v4_10 => (f_X3_append_L17 N k_2 p1 p3 n_2 v4_10 t_text_8 t_length_9))))))
theorem f_X3_append_L17_s (N : Nat) (k_2 : (Nat → Int32) → (Int32) → Option (Int32 × (Nat → Int32) × (Int32))) (p1 : Int64) (p3 : Int32) (n_2 : Nat) (v4_3 : Int32) (t_text_4 : Nat → Int32) (t_length_5 : Int32) : f_X3_append_L17 N k_2 p1 p3 (n_2 + 1) v4_3 t_text_4 t_length_5 = (if p3 ≤ v4_3 then (k_2 t_text_4 t_length_5) else zz_gd (zz_in t_length_5 200) (zz_let (upd t_text_4 t_length_5.toNatClampNeg (((p1 >>> (((8 : Int32) * v4_3).toInt64 &&& 63)) &&& (255 : Int64)).toInt32)) (fun t_text_8 => zz_let (t_length_5 + (1 : Int32)) (fun t_length_9 => zz_let (v4_3 + (1 : Int32)) (fun v4_10 => (f_X3_append_L17 N k_2 p1 p3 n_2 v4_10 t_text_8 t_length_9)))))) := rfl
def f_X3_append (N : Nat) (t_text : Nat → Int32) (t_length : Int32) (p1 : Int64) (p3 : Int32) : Option (Int32 × (Nat → Int32) × (Int32)) := (if p3 ≤ ((200 : Int32) - t_length) then zz_let (fun (t_text_11 : Nat → Int32) (t_length_12 : Int32) => (some ((1 : Int32), t_text_11, t_length_12))) (fun k_2 => f_X3_append_L17 N k_2 p1 p3 N (0 : Int32) t_text t_length) else (some ((0 : Int32), t_text, t_length)))
abbrev rm_X3_append : Room := { frames := 0, cells := 0, slots := 0, locals := 0 }
theorem mi_X3_append : zMI RX3 yX3_append cX3_append 5 (some .boolean) 2 := ⟨⟨tw_2_39, tw_2_40, tw_1_3, tw_2_41⟩, by decide +kernel, by decide +kernel, by decide +kernel⟩
set_option maxHeartbeats 4000000 in
set_option maxRecDepth 100000 in
theorem k_X3_append (l : Launch) (D : va_G) (c : Nat → ClassId) (N : Nat) (t0 : Nat) (tA_text : Nat) (d0 : Nat) (t_text : Nat → Int32) (t_length : Int32) (t_lines : Int32) (t_place : Int32) (t_token : Int32) (t_begin : Int32) (t_bytes : Int32) (t_value : Int64) (t_parent : Int32) (t_otherParent : Int32) (d0_x : Nat) (dA_numbers : Nat) (dA_syllables : Nat) (dA_days : Nat) (dA_words : Nat) (dA_parents : Nat) (dA_otherParents : Nat) (dA_kinds : Nat) (dA_hopeDays : Nat) (dA_hopeTenths : Nat) (d_numbers : Nat → Int32) (d_syllables : Nat → Int64) (d_syllableCount : Int32) (d_days : Nat → Int32) (d_words : Nat → Int64) (d_parents : Nat → Int32) (d_otherParents : Nat → Int32) (d_kinds : Nat → Int32) (d_personCount : Int32) (d_hopeDays : Nat → Int32) (d_hopeTenths : Nat → Int32) (d_hopeCount : Int32) (d_degreesTold : Int32) (p1 : Int64) (p3 : Int32) (o : Int32) (o_t_text : Nat → Int32) (o_t_length : Int32) (hf : f_X3_append N t_text t_length p1 p3 = some (o, o_t_text, o_t_length)) : zMWi l D c yX3_append cX3_append 5 (some .boolean) rm_X3_append (wX3 c t0 tA_text d0 t_text t_length t_lines t_place t_token t_begin t_bytes t_value t_parent t_otherParent ++ wX5 c d0 dA_numbers dA_syllables dA_days dA_words dA_parents dA_otherParents dA_kinds dA_hopeDays dA_hopeTenths d_numbers d_syllables d_syllableCount d_days d_words d_parents d_otherParents d_kinds d_personCount d_hopeDays d_hopeTenths d_hopeCount d_degreesTold) (wX3 c t0 tA_text d0 o_t_text o_t_length t_lines t_place t_token t_begin t_bytes t_value t_parent t_otherParent ++ wX5 c d0 dA_numbers dA_syllables dA_days dA_words dA_parents dA_otherParents dA_kinds dA_hopeDays dA_hopeTenths d_numbers d_syllables d_syllableCount d_days d_words d_parents d_otherParents d_kinds d_personCount d_hopeDays d_hopeTenths d_hopeCount d_degreesTold) [.ref t0, .long p1, .int p3] o := by
  intro sz
  refine zIW (by decide) (Nat.le_of_ble_eq_true rfl) ?_
  intro p e s m args below meth c0 Q A hAe hQ hx hb hr hlk hml hts hown hP hE hD hS hA hsz hmn hX ls hl
  rw [← hAe] at hQ
  have S : CallFix p m c0 cX3_append 5 s args zT RX3 := ⟨hx, hb, hml, hown, hts⟩
  have hl : lv_has ls 5 [(0, .ref t0), (1, .long p1), (3, .int p3)] := hl
  unfold f_X3_append at hf
  refine lv_iload_n hx hb dX3_append_0 rfl (lv_at hl 2 rfl) ?_
  refine lv_sipush (v := (200 : Int32)) hx hb dX3_append_1 (by decide) ?_
  refine lv_aload_n hx hb dX3_append_4 rfl (lv_at hl 0 rfl) ?_
  refine zget S uw_X3 hE hP 0 1 rfl rfl (by decide) tw_1_106 rfl rfl dX3_append_5 ?_
  refine lv_isub hx hb dX3_append_8 ?_
  refine lv_icmp_le (tgt := 14) hx hb dX3_append_9 (by decide) (fun hc_1 => ?_) (fun hc_1 => ?_)
  · have hf := zz_it hf hc_1
    refine lv_iconst (v := (0 : Int32)) hx hb dX3_append_14 (by decide) ?_
    refine lv_istore (lv' := [(4, .int (0 : Int32)), (0, .ref t0), (1, .long p1), (3, .int p3)]) hx hb dX3_append_15 hl (by decide) rfl (fun ls hl => ?_)
    obtain ⟨k_2, hk_2, hf⟩ := zz_let_use hf
    have hX_2 : ∀ (t_text_11 : Nat → Int32) (t_length_12 : Int32) (H : Heap) (locs : List Loc) (ls : Array Slot), k_2 t_text_11 t_length_12 = some (o, o_t_text, o_t_length) → va_P D vwCl (wX3 c t0 tA_text d0 t_text_11 t_length_12 t_lines t_place t_token t_begin t_bytes t_value t_parent t_otherParent ++ wX5 c d0 dA_numbers dA_syllables dA_days dA_words dA_parents dA_otherParents dA_kinds dA_hopeDays dA_hopeTenths d_numbers d_syllables d_syllableCount d_days d_words d_parents d_otherParents d_kinds d_personCount d_hopeDays d_hopeTenths d_hopeCount d_degreesTold) H → va_D A (wX3 c t0 tA_text d0 t_text_11 t_length_12 t_lines t_place t_token t_begin t_bytes t_value t_parent t_otherParent ++ wX5 c d0 dA_numbers dA_syllables dA_days dA_words dA_parents dA_otherParents dA_kinds dA_hopeDays dA_hopeTenths d_numbers d_syllables d_syllableCount d_days d_words d_parents d_otherParents d_kinds d_personCount d_hopeDays d_hopeTenths d_hopeCount d_degreesTold) → va_S A s.heap H locs → lv_has ls 5 [] → W p l e rm_X3_append s m args below meth c0 H locs 0 0 Q (F0 m 60 ls []) := by
      intro t_text_11 t_length_12 H locs ls hf hP hD hS hl
      subst hk_2
      refine lv_iconst (v := (1 : Int32)) hx hb dX3_append_60 (by decide) ?_
      cases hf
      exact zRWz hQ hx hb hr hlk rfl rfl hP hD hS dX3_append_61
    have hL_2 : ∀ (n_2 : Nat) (v4_3 : Int32) (t_text_4 : Nat → Int32) (t_length_5 : Int32) (H : Heap) (locs : List Loc) (ls : Array Slot), f_X3_append_L17 N k_2 p1 p3 n_2 v4_3 t_text_4 t_length_5 = some (o, o_t_text, o_t_length) → va_P D vwCl (wX3 c t0 tA_text d0 t_text_4 t_length_5 t_lines t_place t_token t_begin t_bytes t_value t_parent t_otherParent ++ wX5 c d0 dA_numbers dA_syllables dA_days dA_words dA_parents dA_otherParents dA_kinds dA_hopeDays dA_hopeTenths d_numbers d_syllables d_syllableCount d_days d_words d_parents d_otherParents d_kinds d_personCount d_hopeDays d_hopeTenths d_hopeCount d_degreesTold) H → va_D A (wX3 c t0 tA_text d0 t_text_4 t_length_5 t_lines t_place t_token t_begin t_bytes t_value t_parent t_otherParent ++ wX5 c d0 dA_numbers dA_syllables dA_days dA_words dA_parents dA_otherParents dA_kinds dA_hopeDays dA_hopeTenths d_numbers d_syllables d_syllableCount d_days d_words d_parents d_otherParents d_kinds d_personCount d_hopeDays d_hopeTenths d_hopeCount d_degreesTold) → va_S A s.heap H locs → lv_has ls 5 [(0, .ref t0), (1, .long p1), (3, .int p3), (4, .int v4_3)] → W p l e rm_X3_append s m args below meth c0 H locs 0 0 Q (F0 m 17 ls []) := by
      intro n_2
      induction n_2 with
      | zero => intro v4_3 t_text_4 t_length_5 H locs ls hf hP hD hS hl; exact zz_none hf
      | succ n_2 ih_2 =>
        intro v4_3 t_text_4 t_length_5 H locs ls hf hP hD hS hl
        rw [f_X3_append_L17_s] at hf
        refine lv_iload hx hb dX3_append_17 (lv_at hl 3 rfl) ?_
        refine lv_iload_n hx hb dX3_append_19 rfl (lv_at hl 2 rfl) ?_
        refine lv_icmp_ge (tgt := 60) hx hb dX3_append_20 (by decide) (fun hc_6 => ?_) (fun hc_6 => ?_)
        · have hf := zz_it hf hc_6
          exact hX_2 t_text_4 t_length_5 H locs ls hf hP hD hS (lv_sub hl [] rfl)
        · have hf := zz_if hf hc_6
          refine lv_aload_n hx hb dX3_append_23 rfl (lv_at hl 0 rfl) ?_
          refine zget S uw_X3 hE hP 0 0 rfl rfl (by decide) tw_1_105 rfl rfl dX3_append_24 ?_
          refine lv_aload_n hx hb dX3_append_27 rfl (lv_at hl 0 rfl) ?_
          refine zget S uw_X3 hE hP 0 1 rfl rfl (by decide) tw_1_106 rfl rfl dX3_append_28 ?_
          refine lv_lload_n hx hb dX3_append_31 rfl (lv_at hl 1 rfl) ?_
          refine lv_bipush (v := (8 : Int32)) hx hb dX3_append_32 (by decide) ?_
          refine lv_iload hx hb dX3_append_34 (lv_at hl 3 rfl) ?_
          refine lv_imul hx hb dX3_append_36 ?_
          refine lv_lshr (v := p1 >>> (((8 : Int32) * v4_3).toInt64 &&& 63)) hx hb dX3_append_37 rfl ?_
          refine lv_ldc2 (v := (255 : Int64)) hx hb hown (hts _ tw_2_42) dX3_append_38 ?_
          refine lv_land hx hb dX3_append_41 ?_
          refine lv_l2i (v := ((p1 >>> (((8 : Int32) * v4_3).toInt64 &&& 63)) &&& (255 : Int64)).toInt32) hx hb dX3_append_42 rfl ?_
          obtain ⟨hin_7, hf⟩ := zz_gd_use hf
          obtain ⟨t_text_8, et_text_8, hf⟩ := zz_let_use hf
          refine zist hx hb hE hP hD hS 1 (wX3 c t0 tA_text d0 t_text_8 t_length_5 t_lines t_place t_token t_begin t_bytes t_value t_parent t_otherParent ++ wX5 c d0 dA_numbers dA_syllables dA_days dA_words dA_parents dA_otherParents dA_kinds dA_hopeDays dA_hopeTenths d_numbers d_syllables d_syllableCount d_days d_words d_parents d_otherParents d_kinds d_personCount d_hopeDays d_hopeTenths d_hopeCount d_degreesTold) rfl rfl et_text_8 (zz_in_ok hin_7) dX3_append_43 (fun H locs hP hD hS => ?_)
          refine lv_aload_n hx hb dX3_append_44 rfl (lv_at hl 0 rfl) ?_
          refine lv_dup hx hb dX3_append_45 rfl ?_
          refine zget S uw_X3 hE hP 0 1 rfl rfl (by decide) tw_1_106 rfl rfl dX3_append_46 ?_
          refine lv_iconst (v := (1 : Int32)) hx hb dX3_append_49 (by decide) ?_
          refine lv_iadd hx hb dX3_append_50 ?_
          obtain ⟨t_length_9, et_length_9, hf⟩ := zz_let_use hf
          refine zti et_length_9 ?_
          refine zput S uw_X3 tyX3_ok nmX3 hE hP hD hS 0 1 (ty := .int) (wX3 c t0 tA_text d0 t_text_8 t_length_9 t_lines t_place t_token t_begin t_bytes t_value t_parent t_otherParent ++ wX5 c d0 dA_numbers dA_syllables dA_days dA_words dA_parents dA_otherParents dA_kinds dA_hopeDays dA_hopeTenths d_numbers d_syllables d_syllableCount d_days d_words d_parents d_otherParents d_kinds d_personCount d_hopeDays d_hopeTenths d_hopeCount d_degreesTold) rfl rfl (by decide) tw_1_106 rfl rfl (by decide +kernel) rfl rfl (Nat.le_of_ble_eq_true rfl) rfl dX3_append_51 (fun H locs hP hD hS => ?_)
          obtain ⟨v4_10, ev4_10, hf⟩ := zz_let_use hf
          refine lv_iinc (v := v4_10) (lv' := [(4, .int v4_10), (0, .ref t0), (1, .long p1), (3, .int p3)]) hx hb dX3_append_54 hl (k := 3) rfl (by rw [← ev4_10]; rfl) (by decide) rfl (fun ls hl => ?_)
          refine lv_goto (tgt := 17) hx hb dX3_append_57 (by decide) ?_
          exact ih_2 v4_10 t_text_8 t_length_9 H locs ls hf hP hD hS (lv_sub hl [1, 2, 3, 0] rfl)
    exact hL_2 N (0 : Int32) t_text t_length s.heap [] ls hf hP hD hS (lv_sub hl [1, 2, 3, 0] rfl)
  · have hf := zz_if hf hc_1
    refine lv_iconst (v := (0 : Int32)) hx hb dX3_append_12 (by decide) ?_
    cases hf
    exact zRWz hQ hx hb hr hlk rfl rfl hP hD hS dX3_append_13
def f_X3_kindAt (N : Nat) (t_text : Nat → Int32) (t_length : Int32) (p1 : Int32) : Option (Int32) := (if p1 < t_length then zz_gd (zz_in p1 200) (zz_let ((if (t_text p1.toNatClampNeg) < (48 : Int32) then (some (3 : Int32)) else (if (57 : Int32) < (t_text p1.toNatClampNeg) then (some (3 : Int32)) else (some (2 : Int32))))) (fun k_5 => (if (t_text p1.toNatClampNeg) < (97 : Int32) then k_5 else (if (122 : Int32) < (t_text p1.toNatClampNeg) then k_5 else (some (1 : Int32)))))) else (some (0 : Int32)))
abbrev rm_X3_kindAt : Room := { frames := 0, cells := 0, slots := 0, locals := 0 }
theorem mi_X3_kindAt : zMI RX3 yX3_kindAt cX3_kindAt 2 (some .int) 1 := ⟨⟨tw_2_72, ts_X3_kindAt, tw_1_3, tw_2_73⟩, by decide +kernel, by decide +kernel, by decide +kernel⟩
set_option maxHeartbeats 4000000 in
set_option maxRecDepth 100000 in
theorem k_X3_kindAt (l : Launch) (D : va_G) (c : Nat → ClassId) (N : Nat) (t0 : Nat) (tA_text : Nat) (d0 : Nat) (t_text : Nat → Int32) (t_length : Int32) (t_lines : Int32) (t_place : Int32) (t_token : Int32) (t_begin : Int32) (t_bytes : Int32) (t_value : Int64) (t_parent : Int32) (t_otherParent : Int32) (d0_x : Nat) (dA_numbers : Nat) (dA_syllables : Nat) (dA_days : Nat) (dA_words : Nat) (dA_parents : Nat) (dA_otherParents : Nat) (dA_kinds : Nat) (dA_hopeDays : Nat) (dA_hopeTenths : Nat) (d_numbers : Nat → Int32) (d_syllables : Nat → Int64) (d_syllableCount : Int32) (d_days : Nat → Int32) (d_words : Nat → Int64) (d_parents : Nat → Int32) (d_otherParents : Nat → Int32) (d_kinds : Nat → Int32) (d_personCount : Int32) (d_hopeDays : Nat → Int32) (d_hopeTenths : Nat → Int32) (d_hopeCount : Int32) (d_degreesTold : Int32) (p1 : Int32) (o : Int32) (hf : f_X3_kindAt N t_text t_length p1 = some o) : zMPi l D c yX3_kindAt cX3_kindAt 2 (some .int) rm_X3_kindAt (wX3 c t0 tA_text d0 t_text t_length t_lines t_place t_token t_begin t_bytes t_value t_parent t_otherParent ++ wX5 c d0 dA_numbers dA_syllables dA_days dA_words dA_parents dA_otherParents dA_kinds dA_hopeDays dA_hopeTenths d_numbers d_syllables d_syllableCount d_days d_words d_parents d_otherParents d_kinds d_personCount d_hopeDays d_hopeTenths d_hopeCount d_degreesTold) [.ref t0, .int p1] o := by
  refine zIP (by decide) (Nat.le_of_ble_eq_true rfl) ?_
  intro p e s m args below meth c0 Q hQ hx hb hr hlk hml hts hown hP hE hX hS ls hl
  have S : CallFix p m c0 cX3_kindAt 2 s args zT RX3 := ⟨hx, hb, hml, hown, hts⟩
  have hl : lv_has ls 2 [(0, .ref t0), (1, .int p1)] := hl
  unfold f_X3_kindAt at hf
  refine lv_iload_n hx hb dX3_kindAt_0 rfl (lv_at hl 1 rfl) ?_
  refine lv_aload_n hx hb dX3_kindAt_1 rfl (lv_at hl 0 rfl) ?_
  refine zget S uw_X3 hE hP 0 1 rfl rfl (by decide) tw_1_106 rfl rfl dX3_kindAt_2 ?_
  refine lv_icmp_lt (tgt := 10) hx hb dX3_kindAt_5 (by decide) (fun hc_1 => ?_) (fun hc_1 => ?_)
  · have hf := zz_it hf hc_1
    refine lv_aload_n hx hb dX3_kindAt_10 rfl (lv_at hl 0 rfl) ?_
    refine zget S uw_X3 hE hP 0 0 rfl rfl (by decide) tw_1_105 rfl rfl dX3_kindAt_11 ?_
    refine lv_iload_n hx hb dX3_kindAt_14 rfl (lv_at hl 1 rfl) ?_
    obtain ⟨hin_2, hf⟩ := zz_gd_use hf
    refine zild hx hb hE hP 1 rfl (zz_in_ok hin_2) dX3_kindAt_15 ?_
    refine lv_bipush (v := (97 : Int32)) hx hb dX3_kindAt_16 (by decide) ?_
    obtain ⟨k_5, hk_5, hf⟩ := zz_let_use hf
    have hJ_5 : ∀ (ls : Array Slot), k_5 = some o → lv_has ls 2 [(0, .ref t0), (1, .int p1)] → W p l e rm_X3_kindAt s m args below meth c0 s.heap [] 0 0 Q (F0 m 34 ls []) := by
      intro ls hf hl
      subst hk_5
      refine lv_aload_n hx hb dX3_kindAt_34 rfl (lv_at hl 0 rfl) ?_
      refine zget S uw_X3 hE hP 0 0 rfl rfl (by decide) tw_1_105 rfl rfl dX3_kindAt_35 ?_
      refine lv_iload_n hx hb dX3_kindAt_38 rfl (lv_at hl 1 rfl) ?_
      refine zild hx hb hE hP 1 rfl (zz_in_ok hin_2) dX3_kindAt_39 ?_
      refine lv_bipush (v := (48 : Int32)) hx hb dX3_kindAt_40 (by decide) ?_
      refine lv_icmp_lt (tgt := 60) hx hb dX3_kindAt_42 (by decide) (fun hc_6 => ?_) (fun hc_6 => ?_)
      · have hf := zz_it hf hc_6
        refine lv_iconst (v := (3 : Int32)) hx hb dX3_kindAt_60 (by decide) ?_
        exact zRPi hQ hx hb hr hlk (Option.some.inj hf) dX3_kindAt_61
      · have hf := zz_if hf hc_6
        refine lv_aload_n hx hb dX3_kindAt_45 rfl (lv_at hl 0 rfl) ?_
        refine zget S uw_X3 hE hP 0 0 rfl rfl (by decide) tw_1_105 rfl rfl dX3_kindAt_46 ?_
        refine lv_iload_n hx hb dX3_kindAt_49 rfl (lv_at hl 1 rfl) ?_
        refine zild hx hb hE hP 1 rfl (zz_in_ok hin_2) dX3_kindAt_50 ?_
        refine lv_bipush (v := (57 : Int32)) hx hb dX3_kindAt_51 (by decide) ?_
        refine lv_icmp_gt (tgt := 60) hx hb dX3_kindAt_53 (by decide) (fun hc_7 => ?_) (fun hc_7 => ?_)
        · have hf := zz_it hf hc_7
          refine lv_iconst (v := (3 : Int32)) hx hb dX3_kindAt_60 (by decide) ?_
          exact zRPi hQ hx hb hr hlk (Option.some.inj hf) dX3_kindAt_61
        · have hf := zz_if hf hc_7
          refine lv_iconst (v := (2 : Int32)) hx hb dX3_kindAt_56 (by decide) ?_
          refine lv_goto (tgt := 61) hx hb dX3_kindAt_57 (by decide) ?_
          exact zRPi hQ hx hb hr hlk (Option.some.inj hf) dX3_kindAt_61
    refine lv_icmp_lt (tgt := 34) hx hb dX3_kindAt_18 (by decide) (fun hc_3 => ?_) (fun hc_3 => ?_)
    · have hf := zz_it hf hc_3
      exact hJ_5 ls hf (lv_sub hl [0, 1] rfl)
    · have hf := zz_if hf hc_3
      refine lv_aload_n hx hb dX3_kindAt_21 rfl (lv_at hl 0 rfl) ?_
      refine zget S uw_X3 hE hP 0 0 rfl rfl (by decide) tw_1_105 rfl rfl dX3_kindAt_22 ?_
      refine lv_iload_n hx hb dX3_kindAt_25 rfl (lv_at hl 1 rfl) ?_
      refine zild hx hb hE hP 1 rfl (zz_in_ok hin_2) dX3_kindAt_26 ?_
      refine lv_bipush (v := (122 : Int32)) hx hb dX3_kindAt_27 (by decide) ?_
      refine lv_icmp_gt (tgt := 34) hx hb dX3_kindAt_29 (by decide) (fun hc_4 => ?_) (fun hc_4 => ?_)
      · have hf := zz_it hf hc_4
        exact hJ_5 ls hf (lv_sub hl [0, 1] rfl)
      · have hf := zz_if hf hc_4
        refine lv_iconst (v := (1 : Int32)) hx hb dX3_kindAt_32 (by decide) ?_
        exact zRPi hQ hx hb hr hlk (Option.some.inj hf) dX3_kindAt_33
  · have hf := zz_if hf hc_1
    refine lv_iconst (v := (0 : Int32)) hx hb dX3_kindAt_8 (by decide) ?_
    exact zRPi hQ hx hb hr hlk (Option.some.inj hf) dX3_kindAt_9
def f_X3_valueWith (N : Nat) (t_token : Int32) (t_value : Int64) (p1 : Int32) : Option (Int64) := (if t_token = (1 : Int32) then (some ((((t_value * (27 : Int64)) + p1.toInt64) - (97 : Int64)) + (1 : Int64))) else (if t_token = (2 : Int32) then (some (((t_value * (10 : Int64)) + p1.toInt64) - (48 : Int64))) else (some p1.toInt64)))
abbrev rm_X3_valueWith : Room := { frames := 0, cells := 0, slots := 0, locals := 0 }
theorem mi_X3_valueWith : zMI RX3 yX3_valueWith cX3_valueWith 2 (some .long) 1 := ⟨⟨tw_2_76, ts_X3_valueWith, tw_1_3, tw_2_77⟩, by decide +kernel, by decide +kernel, by decide +kernel⟩
set_option maxHeartbeats 4000000 in
set_option maxRecDepth 100000 in
theorem k_X3_valueWith (l : Launch) (D : va_G) (c : Nat → ClassId) (N : Nat) (t0 : Nat) (tA_text : Nat) (d0 : Nat) (t_text : Nat → Int32) (t_length : Int32) (t_lines : Int32) (t_place : Int32) (t_token : Int32) (t_begin : Int32) (t_bytes : Int32) (t_value : Int64) (t_parent : Int32) (t_otherParent : Int32) (d0_x : Nat) (dA_numbers : Nat) (dA_syllables : Nat) (dA_days : Nat) (dA_words : Nat) (dA_parents : Nat) (dA_otherParents : Nat) (dA_kinds : Nat) (dA_hopeDays : Nat) (dA_hopeTenths : Nat) (d_numbers : Nat → Int32) (d_syllables : Nat → Int64) (d_syllableCount : Int32) (d_days : Nat → Int32) (d_words : Nat → Int64) (d_parents : Nat → Int32) (d_otherParents : Nat → Int32) (d_kinds : Nat → Int32) (d_personCount : Int32) (d_hopeDays : Nat → Int32) (d_hopeTenths : Nat → Int32) (d_hopeCount : Int32) (d_degreesTold : Int32) (p1 : Int32) (o : Int64) (hf : f_X3_valueWith N t_token t_value p1 = some o) : zMPl l D c yX3_valueWith cX3_valueWith 2 (some .long) rm_X3_valueWith (wX3 c t0 tA_text d0 t_text t_length t_lines t_place t_token t_begin t_bytes t_value t_parent t_otherParent ++ wX5 c d0 dA_numbers dA_syllables dA_days dA_words dA_parents dA_otherParents dA_kinds dA_hopeDays dA_hopeTenths d_numbers d_syllables d_syllableCount d_days d_words d_parents d_otherParents d_kinds d_personCount d_hopeDays d_hopeTenths d_hopeCount d_degreesTold) [.ref t0, .int p1] o := by
  refine zIP (by decide) (Nat.le_of_ble_eq_true rfl) ?_
  intro p e s m args below meth c0 Q hQ hx hb hr hlk hml hts hown hP hE hX hS ls hl
  have S : CallFix p m c0 cX3_valueWith 2 s args zT RX3 := ⟨hx, hb, hml, hown, hts⟩
  have hl : lv_has ls 2 [(0, .ref t0), (1, .int p1)] := hl
  unfold f_X3_valueWith at hf
  refine lv_aload_n hx hb dX3_valueWith_0 rfl (lv_at hl 0 rfl) ?_
  refine zget S uw_X3 hE hP 0 5 rfl rfl (by decide) tw_1_113 rfl rfl dX3_valueWith_1 ?_
  refine lv_iconst (v := (1 : Int32)) hx hb dX3_valueWith_4 (by decide) ?_
  refine lv_icmp_ne (tgt := 26) hx hb dX3_valueWith_5 (by decide) (fun hc_1 => ?_) (fun hc_1 => ?_)
  · have hf := zz_if hf hc_1
    refine lv_aload_n hx hb dX3_valueWith_26 rfl (lv_at hl 0 rfl) ?_
    refine zget S uw_X3 hE hP 0 5 rfl rfl (by decide) tw_1_113 rfl rfl dX3_valueWith_27 ?_
    refine lv_iconst (v := (2 : Int32)) hx hb dX3_valueWith_30 (by decide) ?_
    refine lv_icmp_ne (tgt := 52) hx hb dX3_valueWith_31 (by decide) (fun hc_2 => ?_) (fun hc_2 => ?_)
    · have hf := zz_if hf hc_2
      refine lv_iload_n hx hb dX3_valueWith_52 rfl (lv_at hl 1 rfl) ?_
      refine lv_i2l (v := p1.toInt64) hx hb dX3_valueWith_53 rfl ?_
      exact zRPl hQ hx hb hr hlk (Option.some.inj hf) dX3_valueWith_54
    · have hf := zz_it hf hc_2
      refine lv_aload_n hx hb dX3_valueWith_34 rfl (lv_at hl 0 rfl) ?_
      refine zget S uw_X3 hE hP 0 8 rfl rfl (by decide) tw_1_116 rfl rfl dX3_valueWith_35 ?_
      refine lv_ldc2 (v := (10 : Int64)) hx hb hown (hts _ tw_2_80) dX3_valueWith_38 ?_
      refine lv_lmul hx hb dX3_valueWith_41 ?_
      refine lv_iload_n hx hb dX3_valueWith_42 rfl (lv_at hl 1 rfl) ?_
      refine lv_i2l (v := p1.toInt64) hx hb dX3_valueWith_43 rfl ?_
      refine lv_ladd hx hb dX3_valueWith_44 ?_
      refine lv_ldc2 (v := (48 : Int64)) hx hb hown (hts _ tw_2_81) dX3_valueWith_45 ?_
      refine lv_lsub hx hb dX3_valueWith_48 ?_
      refine lv_goto (tgt := 54) hx hb dX3_valueWith_49 (by decide) ?_
      exact zRPl hQ hx hb hr hlk (Option.some.inj hf) dX3_valueWith_54
  · have hf := zz_it hf hc_1
    refine lv_aload_n hx hb dX3_valueWith_8 rfl (lv_at hl 0 rfl) ?_
    refine zget S uw_X3 hE hP 0 8 rfl rfl (by decide) tw_1_116 rfl rfl dX3_valueWith_9 ?_
    refine lv_ldc2 (v := (27 : Int64)) hx hb hown (hts _ tw_2_78) dX3_valueWith_12 ?_
    refine lv_lmul hx hb dX3_valueWith_15 ?_
    refine lv_iload_n hx hb dX3_valueWith_16 rfl (lv_at hl 1 rfl) ?_
    refine lv_i2l (v := p1.toInt64) hx hb dX3_valueWith_17 rfl ?_
    refine lv_ladd hx hb dX3_valueWith_18 ?_
    refine lv_ldc2 (v := (97 : Int64)) hx hb hown (hts _ tw_2_79) dX3_valueWith_19 ?_
    refine lv_lsub hx hb dX3_valueWith_22 ?_
    refine lv_lconst (v := (1 : Int64)) hx hb dX3_valueWith_23 (by decide) ?_
    refine lv_ladd hx hb dX3_valueWith_24 ?_
    exact zRPl hQ hx hb hr hlk (Option.some.inj hf) dX3_valueWith_25
def f_X3_readToken_L80 (N : Nat) (k_12 : (Int32) → (Int64) → Option ((Int32) × (Int32) × (Int32) × (Int32) × (Int64))) (t_text : Nat → Int32) (t_length : Int32) (r_8 : Int32) : Nat → (Int32) → (Int32) → (Int64) → Option ((Int32) × (Int32) × (Int32) × (Int32) × (Int64))
  | 0, _, _, _ => none
  | n_12 + 1, v1_13, t_place_14, t_value_15 => (if v1_13 = 0 then (k_12 t_place_14 t_value_15) else (if t_length ≤ t_place_14 then (k_12 t_place_14 t_value_15) else zz_gd (zz_in t_place_14 200) (zz_b1 (f_X3_valueWith N r_8 t_value_15 (t_text t_place_14.toNatClampNeg)) (fun r_19 => zz_let (t_place_14 + (1 : Int32)) (fun t_place_20 => zz_let (fun (q_25 : Int32) => (f_X3_readToken_L80 N k_12 t_text t_length r_8 n_12 q_25 t_place_20 r_19)) (fun k_24 => (if r_8 = (3 : Int32) then (k_24 (0 : Int32)) else zz_b1 (f_X3_kindAt N t_text t_length t_place_20) (fun r_22 => (if r_22 = r_8 then (k_24 (1 : Int32)) else (k_24 (0 : Int32)))))))))))
theorem f_X3_readToken_L80_s (N : Nat) (k_12 : (Int32) → (Int64) → Option ((Int32) × (Int32) × (Int32) × (Int32) × (Int64))) (t_text : Nat → Int32) (t_length : Int32) (r_8 : Int32) (n_12 : Nat) (v1_13 : Int32) (t_place_14 : Int32) (t_value_15 : Int64) : f_X3_readToken_L80 N k_12 t_text t_length r_8 (n_12 + 1) v1_13 t_place_14 t_value_15 = (if v1_13 = 0 then (k_12 t_place_14 t_value_15) else (if t_length ≤ t_place_14 then (k_12 t_place_14 t_value_15) else zz_gd (zz_in t_place_14 200) (zz_b1 (f_X3_valueWith N r_8 t_value_15 (t_text t_place_14.toNatClampNeg)) (fun r_19 => zz_let (t_place_14 + (1 : Int32)) (fun t_place_20 => zz_let (fun (q_25 : Int32) => (f_X3_readToken_L80 N k_12 t_text t_length r_8 n_12 q_25 t_place_20 r_19)) (fun k_24 => (if r_8 = (3 : Int32) then (k_24 (0 : Int32)) else zz_b1 (f_X3_kindAt N t_text t_length t_place_20) (fun r_22 => (if r_22 = r_8 then (k_24 (1 : Int32)) else (k_24 (0 : Int32))))))))))) := rfl
def f_X3_readToken_L0 (N : Nat) (k_1 : (Int32) → Option ((Int32) × (Int32) × (Int32) × (Int32) × (Int64))) (t_text : Nat → Int32) (t_length : Int32) : Nat → (Int32) → Option ((Int32) × (Int32) × (Int32) × (Int32) × (Int64))
  | 0, _ => none
  | n_1 + 1, t_place_2 => (if t_length ≤ t_place_2 then (k_1 t_place_2) else zz_gd (zz_in t_place_2 200) ((if (t_text t_place_2.toNatClampNeg) = (32 : Int32) then zz_let (t_place_2 + (1 : Int32)) (fun t_place_6 => (f_X3_readToken_L0 N k_1 t_text t_length n_1 t_place_6)) else (k_1 t_place_2))))
theorem f_X3_readToken_L0_s (N : Nat) (k_1 : (Int32) → Option ((Int32) × (Int32) × (Int32) × (Int32) × (Int64))) (t_text : Nat → Int32) (t_length : Int32) (n_1 : Nat) (t_place_2 : Int32) : f_X3_readToken_L0 N k_1 t_text t_length (n_1 + 1) t_place_2 = (if t_length ≤ t_place_2 then (k_1 t_place_2) else zz_gd (zz_in t_place_2 200) ((if (t_text t_place_2.toNatClampNeg) = (32 : Int32) then zz_let (t_place_2 + (1 : Int32)) (fun t_place_6 => (f_X3_readToken_L0 N k_1 t_text t_length n_1 t_place_6)) else (k_1 t_place_2)))) := rfl
def f_X3_readToken (N : Nat) (t_text : Nat → Int32) (t_length : Int32) (t_place : Int32) : Option ((Int32) × (Int32) × (Int32) × (Int32) × (Int64)) := zz_let (fun (t_place_7 : Int32) => zz_b1 (f_X3_kindAt N t_text t_length t_place_7) (fun r_8 => zz_let (fun (q_11 : Int32) => zz_let (fun (t_place_26 : Int32) (t_value_27 : Int64) => zz_let (t_place_26 - t_place_7) (fun t_bytes_28 => (some (t_place_26, r_8, t_place_7, t_bytes_28, t_value_27)))) (fun k_12 => f_X3_readToken_L80 N k_12 t_text t_length r_8 N q_11 t_place_7 (0 : Int64))) (fun k_10 => (if t_length ≤ t_place_7 then (k_10 (0 : Int32)) else (k_10 (1 : Int32)))))) (fun k_1 => f_X3_readToken_L0 N k_1 t_text t_length N t_place)
abbrev rm_X3_readToken : Room := { frames := 1, cells := 0, slots := 0, locals := 21 }
theorem mi_X3_readToken : zMI RX3 yX3_readToken cX3_readToken 2 none 0 := ⟨⟨tw_2_68, ts_X3_readToken, tw_1_3, tw_2_69⟩, by decide +kernel, by decide +kernel, by decide +kernel⟩
set_option maxHeartbeats 4000000 in
set_option maxRecDepth 100000 in
theorem k_X3_readToken (l : Launch) (D : va_G) (c : Nat → ClassId) (N : Nat) (t0 : Nat) (tA_text : Nat) (d0 : Nat) (t_text : Nat → Int32) (t_length : Int32) (t_lines : Int32) (t_place : Int32) (t_token : Int32) (t_begin : Int32) (t_bytes : Int32) (t_value : Int64) (t_parent : Int32) (t_otherParent : Int32) (d0_x : Nat) (dA_numbers : Nat) (dA_syllables : Nat) (dA_days : Nat) (dA_words : Nat) (dA_parents : Nat) (dA_otherParents : Nat) (dA_kinds : Nat) (dA_hopeDays : Nat) (dA_hopeTenths : Nat) (d_numbers : Nat → Int32) (d_syllables : Nat → Int64) (d_syllableCount : Int32) (d_days : Nat → Int32) (d_words : Nat → Int64) (d_parents : Nat → Int32) (d_otherParents : Nat → Int32) (d_kinds : Nat → Int32) (d_personCount : Int32) (d_hopeDays : Nat → Int32) (d_hopeTenths : Nat → Int32) (d_hopeCount : Int32) (d_degreesTold : Int32)  (o_t_place : Int32) (o_t_token : Int32) (o_t_begin : Int32) (o_t_bytes : Int32) (o_t_value : Int64) (hf : f_X3_readToken N t_text t_length t_place = some (o_t_place, o_t_token, o_t_begin, o_t_bytes, o_t_value)) : zMWv l D c yX3_readToken cX3_readToken 2 none rm_X3_readToken (wX3 c t0 tA_text d0 t_text t_length t_lines t_place t_token t_begin t_bytes t_value t_parent t_otherParent ++ wX5 c d0 dA_numbers dA_syllables dA_days dA_words dA_parents dA_otherParents dA_kinds dA_hopeDays dA_hopeTenths d_numbers d_syllables d_syllableCount d_days d_words d_parents d_otherParents d_kinds d_personCount d_hopeDays d_hopeTenths d_hopeCount d_degreesTold) (wX3 c t0 tA_text d0 t_text t_length t_lines o_t_place o_t_token o_t_begin o_t_bytes o_t_value t_parent t_otherParent ++ wX5 c d0 dA_numbers dA_syllables dA_days dA_words dA_parents dA_otherParents dA_kinds dA_hopeDays dA_hopeTenths d_numbers d_syllables d_syllableCount d_days d_words d_parents d_otherParents d_kinds d_personCount d_hopeDays d_hopeTenths d_hopeCount d_degreesTold) [.ref t0] := by
  intro sz
  refine zIW (by decide) (Nat.le_of_ble_eq_true rfl) ?_
  intro p e s m args below meth c0 Q A hAe hQ hx hb hr hlk hml hts hown hP hE hD hS hA hsz hmn hX ls hl
  rw [← hAe] at hQ
  have S : CallFix p m c0 cX3_readToken 2 s args zT RX3 := ⟨hx, hb, hml, hown, hts⟩
  have hl : lv_has ls 2 [(0, .ref t0)] := hl
  unfold f_X3_readToken at hf
  obtain ⟨k_1, hk_1, hf⟩ := zz_let_use hf
  have hX_1 : ∀ (t_place_7 : Int32) (H : Heap) (locs : List Loc) (ls : Array Slot), k_1 t_place_7 = some (o_t_place, o_t_token, o_t_begin, o_t_bytes, o_t_value) → va_P D vwCl (wX3 c t0 tA_text d0 t_text t_length t_lines t_place_7 t_token t_begin t_bytes t_value t_parent t_otherParent ++ wX5 c d0 dA_numbers dA_syllables dA_days dA_words dA_parents dA_otherParents dA_kinds dA_hopeDays dA_hopeTenths d_numbers d_syllables d_syllableCount d_days d_words d_parents d_otherParents d_kinds d_personCount d_hopeDays d_hopeTenths d_hopeCount d_degreesTold) H → va_D A (wX3 c t0 tA_text d0 t_text t_length t_lines t_place_7 t_token t_begin t_bytes t_value t_parent t_otherParent ++ wX5 c d0 dA_numbers dA_syllables dA_days dA_words dA_parents dA_otherParents dA_kinds dA_hopeDays dA_hopeTenths d_numbers d_syllables d_syllableCount d_days d_words d_parents d_otherParents d_kinds d_personCount d_hopeDays d_hopeTenths d_hopeCount d_degreesTold) → va_S A s.heap H locs → lv_has ls 2 [(0, .ref t0)] → W p l e rm_X3_readToken s m args below meth c0 H locs 0 0 Q (F0 m 38 ls []) := by
    intro t_place_7 H locs ls hf hP hD hS hl
    subst hk_1
    refine lv_aload_n hx hb dX3_readToken_38 rfl (lv_at hl 0 rfl) ?_
    refine lv_aload_n hx hb dX3_readToken_39 rfl (lv_at hl 0 rfl) ?_
    refine zget S uw_X3 hE hP 0 4 rfl rfl (by decide) tw_1_112 rfl rfl dX3_readToken_40 ?_
    refine zput S uw_X3 tyX3_ok nmX3 hE hP hD hS 0 6 (ty := .int) (wX3 c t0 tA_text d0 t_text t_length t_lines t_place_7 t_token t_place_7 t_bytes t_value t_parent t_otherParent ++ wX5 c d0 dA_numbers dA_syllables dA_days dA_words dA_parents dA_otherParents dA_kinds dA_hopeDays dA_hopeTenths d_numbers d_syllables d_syllableCount d_days d_words d_parents d_otherParents d_kinds d_personCount d_hopeDays d_hopeTenths d_hopeCount d_degreesTold) rfl rfl (by decide) tw_1_114 rfl rfl (by decide +kernel) rfl rfl (Nat.le_of_ble_eq_true rfl) rfl dX3_readToken_43 (fun H locs hP hD hS => ?_)
    refine lv_aload_n hx hb dX3_readToken_46 rfl (lv_at hl 0 rfl) ?_
    refine lv_lconst (v := (0 : Int64)) hx hb dX3_readToken_47 (by decide) ?_
    refine zput S uw_X3 tyX3_ok nmX3 hE hP hD hS 0 8 (ty := .long) (wX3 c t0 tA_text d0 t_text t_length t_lines t_place_7 t_token t_place_7 t_bytes (0 : Int64) t_parent t_otherParent ++ wX5 c d0 dA_numbers dA_syllables dA_days dA_words dA_parents dA_otherParents dA_kinds dA_hopeDays dA_hopeTenths d_numbers d_syllables d_syllableCount d_days d_words d_parents d_otherParents d_kinds d_personCount d_hopeDays d_hopeTenths d_hopeCount d_degreesTold) rfl rfl (by decide) tw_1_116 rfl rfl (by decide +kernel) rfl rfl (Nat.le_of_ble_eq_true rfl) rfl dX3_readToken_48 (fun H locs hP hD hS => ?_)
    refine lv_aload_n hx hb dX3_readToken_51 rfl (lv_at hl 0 rfl) ?_
    refine lv_aload_n hx hb dX3_readToken_52 rfl (lv_at hl 0 rfl) ?_
    refine lv_aload_n hx hb dX3_readToken_53 rfl (lv_at hl 0 rfl) ?_
    refine zget S uw_X3 hE hP 0 4 rfl rfl (by decide) tw_1_112 rfl rfl dX3_readToken_54 ?_
    obtain ⟨r_8, he_8, hf⟩ := zz_b1_use hf
    refine zcVi (As := [.int t_place_7]) (rest := [.ref t0]) S (k_X3_kindAt l D c N t0 tA_text d0 t_text t_length t_lines t_place_7 t_token t_place_7 t_bytes (0 : Int64) t_parent t_otherParent d0 dA_numbers dA_syllables dA_days dA_words dA_parents dA_otherParents dA_kinds dA_hopeDays dA_hopeTenths d_numbers d_syllables d_syllableCount d_days d_words d_parents d_otherParents d_kinds d_personCount d_hopeDays d_hopeTenths d_hopeCount d_degreesTold t_place_7 r_8 he_8) mi_X3_kindAt tw_2_70 ⟨(Nat.le_of_ble_eq_true rfl), (Nat.le_of_ble_eq_true rfl)⟩ ⟨rfl, rfl⟩ hP hE hX hS (ci := 3) rfl rfl (q0 := 0) rfl rfl hl.1 rfl (Nat.le_of_ble_eq_true rfl) dX3_readToken_57 ⟨(Nat.le_of_ble_eq_true rfl), (Nat.le_of_ble_eq_true rfl)⟩ ?_
    refine zput S uw_X3 tyX3_ok nmX3 hE hP hD hS 0 5 (ty := .int) (wX3 c t0 tA_text d0 t_text t_length t_lines t_place_7 r_8 t_place_7 t_bytes (0 : Int64) t_parent t_otherParent ++ wX5 c d0 dA_numbers dA_syllables dA_days dA_words dA_parents dA_otherParents dA_kinds dA_hopeDays dA_hopeTenths d_numbers d_syllables d_syllableCount d_days d_words d_parents d_otherParents d_kinds d_personCount d_hopeDays d_hopeTenths d_hopeCount d_degreesTold) rfl rfl (by decide) tw_1_113 rfl rfl (by decide +kernel) rfl rfl (Nat.le_of_ble_eq_true rfl) rfl dX3_readToken_60 (fun H locs hP hD hS => ?_)
    refine lv_aload_n hx hb dX3_readToken_63 rfl (lv_at hl 0 rfl) ?_
    refine zget S uw_X3 hE hP 0 4 rfl rfl (by decide) tw_1_112 rfl rfl dX3_readToken_64 ?_
    refine lv_aload_n hx hb dX3_readToken_67 rfl (lv_at hl 0 rfl) ?_
    refine zget S uw_X3 hE hP 0 1 rfl rfl (by decide) tw_1_106 rfl rfl dX3_readToken_68 ?_
    obtain ⟨k_10, hk_10, hf⟩ := zz_let_use hf
    have hJ_10 : ∀ (q_11 : Int32) (H : Heap) (locs : List Loc) (ls : Array Slot), k_10 q_11 = some (o_t_place, o_t_token, o_t_begin, o_t_bytes, o_t_value) → va_P D vwCl (wX3 c t0 tA_text d0 t_text t_length t_lines t_place_7 r_8 t_place_7 t_bytes (0 : Int64) t_parent t_otherParent ++ wX5 c d0 dA_numbers dA_syllables dA_days dA_words dA_parents dA_otherParents dA_kinds dA_hopeDays dA_hopeTenths d_numbers d_syllables d_syllableCount d_days d_words d_parents d_otherParents d_kinds d_personCount d_hopeDays d_hopeTenths d_hopeCount d_degreesTold) H → va_D A (wX3 c t0 tA_text d0 t_text t_length t_lines t_place_7 r_8 t_place_7 t_bytes (0 : Int64) t_parent t_otherParent ++ wX5 c d0 dA_numbers dA_syllables dA_days dA_words dA_parents dA_otherParents dA_kinds dA_hopeDays dA_hopeTenths d_numbers d_syllables d_syllableCount d_days d_words d_parents d_otherParents d_kinds d_personCount d_hopeDays d_hopeTenths d_hopeCount d_degreesTold) → va_S A s.heap H locs → lv_has ls 2 [(0, .ref t0)] → W p l e rm_X3_readToken s m args below meth c0 H locs 0 0 Q (F0 m 79 ls [.int q_11]) := by
      intro q_11 H locs ls hf hP hD hS hl
      subst hk_10
      refine lv_istore_n (lv' := [(1, .int q_11), (0, .ref t0)]) hx hb dX3_readToken_79 rfl hl (by decide) rfl (fun ls hl => ?_)
      obtain ⟨k_12, hk_12, hf⟩ := zz_let_use hf
      have hX_12 : ∀ (t_place_26 : Int32) (t_value_27 : Int64) (H : Heap) (locs : List Loc) (ls : Array Slot), k_12 t_place_26 t_value_27 = some (o_t_place, o_t_token, o_t_begin, o_t_bytes, o_t_value) → va_P D vwCl (wX3 c t0 tA_text d0 t_text t_length t_lines t_place_26 r_8 t_place_7 t_bytes t_value_27 t_parent t_otherParent ++ wX5 c d0 dA_numbers dA_syllables dA_days dA_words dA_parents dA_otherParents dA_kinds dA_hopeDays dA_hopeTenths d_numbers d_syllables d_syllableCount d_days d_words d_parents d_otherParents d_kinds d_personCount d_hopeDays d_hopeTenths d_hopeCount d_degreesTold) H → va_D A (wX3 c t0 tA_text d0 t_text t_length t_lines t_place_26 r_8 t_place_7 t_bytes t_value_27 t_parent t_otherParent ++ wX5 c d0 dA_numbers dA_syllables dA_days dA_words dA_parents dA_otherParents dA_kinds dA_hopeDays dA_hopeTenths d_numbers d_syllables d_syllableCount d_days d_words d_parents d_otherParents d_kinds d_personCount d_hopeDays d_hopeTenths d_hopeCount d_degreesTold) → va_S A s.heap H locs → lv_has ls 2 [(0, .ref t0)] → W p l e rm_X3_readToken s m args below meth c0 H locs 0 0 Q (F0 m 154 ls []) := by
        intro t_place_26 t_value_27 H locs ls hf hP hD hS hl
        subst hk_12
        refine lv_aload_n hx hb dX3_readToken_154 rfl (lv_at hl 0 rfl) ?_
        refine lv_aload_n hx hb dX3_readToken_155 rfl (lv_at hl 0 rfl) ?_
        refine zget S uw_X3 hE hP 0 4 rfl rfl (by decide) tw_1_112 rfl rfl dX3_readToken_156 ?_
        refine lv_aload_n hx hb dX3_readToken_159 rfl (lv_at hl 0 rfl) ?_
        refine zget S uw_X3 hE hP 0 6 rfl rfl (by decide) tw_1_114 rfl rfl dX3_readToken_160 ?_
        refine lv_isub hx hb dX3_readToken_163 ?_
        obtain ⟨t_bytes_28, et_bytes_28, hf⟩ := zz_let_use hf
        refine zti et_bytes_28 ?_
        refine zput S uw_X3 tyX3_ok nmX3 hE hP hD hS 0 7 (ty := .int) (wX3 c t0 tA_text d0 t_text t_length t_lines t_place_26 r_8 t_place_7 t_bytes_28 t_value_27 t_parent t_otherParent ++ wX5 c d0 dA_numbers dA_syllables dA_days dA_words dA_parents dA_otherParents dA_kinds dA_hopeDays dA_hopeTenths d_numbers d_syllables d_syllableCount d_days d_words d_parents d_otherParents d_kinds d_personCount d_hopeDays d_hopeTenths d_hopeCount d_degreesTold) rfl rfl (by decide) tw_1_115 rfl rfl (by decide +kernel) rfl rfl (Nat.le_of_ble_eq_true rfl) rfl dX3_readToken_164 (fun H locs hP hD hS => ?_)
        cases hf
        exact zRWv hQ hx hb hr hlk hP hD hS dX3_readToken_167
      have hL_12 : ∀ (n_12 : Nat) (v1_13 : Int32) (t_place_14 : Int32) (t_value_15 : Int64) (H : Heap) (locs : List Loc) (ls : Array Slot), f_X3_readToken_L80 N k_12 t_text t_length r_8 n_12 v1_13 t_place_14 t_value_15 = some (o_t_place, o_t_token, o_t_begin, o_t_bytes, o_t_value) → va_P D vwCl (wX3 c t0 tA_text d0 t_text t_length t_lines t_place_14 r_8 t_place_7 t_bytes t_value_15 t_parent t_otherParent ++ wX5 c d0 dA_numbers dA_syllables dA_days dA_words dA_parents dA_otherParents dA_kinds dA_hopeDays dA_hopeTenths d_numbers d_syllables d_syllableCount d_days d_words d_parents d_otherParents d_kinds d_personCount d_hopeDays d_hopeTenths d_hopeCount d_degreesTold) H → va_D A (wX3 c t0 tA_text d0 t_text t_length t_lines t_place_14 r_8 t_place_7 t_bytes t_value_15 t_parent t_otherParent ++ wX5 c d0 dA_numbers dA_syllables dA_days dA_words dA_parents dA_otherParents dA_kinds dA_hopeDays dA_hopeTenths d_numbers d_syllables d_syllableCount d_days d_words d_parents d_otherParents d_kinds d_personCount d_hopeDays d_hopeTenths d_hopeCount d_degreesTold) → va_S A s.heap H locs → lv_has ls 2 [(0, .ref t0), (1, .int v1_13)] → W p l e rm_X3_readToken s m args below meth c0 H locs 0 0 Q (F0 m 80 ls []) := by
        intro n_12
        induction n_12 with
        | zero => intro v1_13 t_place_14 t_value_15 H locs ls hf hP hD hS hl; exact zz_none hf
        | succ n_12 ih_12 =>
          intro v1_13 t_place_14 t_value_15 H locs ls hf hP hD hS hl
          rw [f_X3_readToken_L80_s] at hf
          refine lv_iload_n hx hb dX3_readToken_80 rfl (lv_at hl 1 rfl) ?_
          refine lv_if_eq (tgt := 154) hx hb dX3_readToken_81 (by decide) (fun hc_16 => ?_) (fun hc_16 => ?_)
          · have hf := zz_it hf hc_16
            exact hX_12 t_place_14 t_value_15 H locs ls hf hP hD hS (lv_sub hl [0] rfl)
          · have hf := zz_if hf hc_16
            refine lv_aload_n hx hb dX3_readToken_84 rfl (lv_at hl 0 rfl) ?_
            refine zget S uw_X3 hE hP 0 4 rfl rfl (by decide) tw_1_112 rfl rfl dX3_readToken_85 ?_
            refine lv_aload_n hx hb dX3_readToken_88 rfl (lv_at hl 0 rfl) ?_
            refine zget S uw_X3 hE hP 0 1 rfl rfl (by decide) tw_1_106 rfl rfl dX3_readToken_89 ?_
            refine lv_icmp_ge (tgt := 154) hx hb dX3_readToken_92 (by decide) (fun hc_17 => ?_) (fun hc_17 => ?_)
            · have hf := zz_it hf hc_17
              exact hX_12 t_place_14 t_value_15 H locs ls hf hP hD hS (lv_sub hl [0] rfl)
            · have hf := zz_if hf hc_17
              refine lv_aload_n hx hb dX3_readToken_95 rfl (lv_at hl 0 rfl) ?_
              refine lv_aload_n hx hb dX3_readToken_96 rfl (lv_at hl 0 rfl) ?_
              refine lv_aload_n hx hb dX3_readToken_97 rfl (lv_at hl 0 rfl) ?_
              refine zget S uw_X3 hE hP 0 0 rfl rfl (by decide) tw_1_105 rfl rfl dX3_readToken_98 ?_
              refine lv_aload_n hx hb dX3_readToken_101 rfl (lv_at hl 0 rfl) ?_
              refine zget S uw_X3 hE hP 0 4 rfl rfl (by decide) tw_1_112 rfl rfl dX3_readToken_102 ?_
              obtain ⟨hin_18, hf⟩ := zz_gd_use hf
              refine zild hx hb hE hP 1 rfl (zz_in_ok hin_18) dX3_readToken_105 ?_
              obtain ⟨r_19, he_19, hf⟩ := zz_b1_use hf
              refine zcVl (As := [.int (t_text t_place_14.toNatClampNeg)]) (rest := [.ref t0]) S (k_X3_valueWith l D c N t0 tA_text d0 t_text t_length t_lines t_place_14 r_8 t_place_7 t_bytes t_value_15 t_parent t_otherParent d0 dA_numbers dA_syllables dA_days dA_words dA_parents dA_otherParents dA_kinds dA_hopeDays dA_hopeTenths d_numbers d_syllables d_syllableCount d_days d_words d_parents d_otherParents d_kinds d_personCount d_hopeDays d_hopeTenths d_hopeCount d_degreesTold (t_text t_place_14.toNatClampNeg) r_19 he_19) mi_X3_valueWith tw_2_74 ⟨(Nat.le_of_ble_eq_true rfl), (Nat.le_of_ble_eq_true rfl)⟩ ⟨rfl, rfl⟩ hP hE hX hS (ci := 3) rfl rfl (q0 := 0) rfl rfl hl.1 rfl (Nat.le_of_ble_eq_true rfl) dX3_readToken_106 ⟨(Nat.le_of_ble_eq_true rfl), (Nat.le_of_ble_eq_true rfl)⟩ ?_
              refine zput S uw_X3 tyX3_ok nmX3 hE hP hD hS 0 8 (ty := .long) (wX3 c t0 tA_text d0 t_text t_length t_lines t_place_14 r_8 t_place_7 t_bytes r_19 t_parent t_otherParent ++ wX5 c d0 dA_numbers dA_syllables dA_days dA_words dA_parents dA_otherParents dA_kinds dA_hopeDays dA_hopeTenths d_numbers d_syllables d_syllableCount d_days d_words d_parents d_otherParents d_kinds d_personCount d_hopeDays d_hopeTenths d_hopeCount d_degreesTold) rfl rfl (by decide) tw_1_116 rfl rfl (by decide +kernel) rfl rfl (Nat.le_of_ble_eq_true rfl) rfl dX3_readToken_109 (fun H locs hP hD hS => ?_)
              refine lv_aload_n hx hb dX3_readToken_112 rfl (lv_at hl 0 rfl) ?_
              refine lv_dup hx hb dX3_readToken_113 rfl ?_
              refine zget S uw_X3 hE hP 0 4 rfl rfl (by decide) tw_1_112 rfl rfl dX3_readToken_114 ?_
              refine lv_iconst (v := (1 : Int32)) hx hb dX3_readToken_117 (by decide) ?_
              refine lv_iadd hx hb dX3_readToken_118 ?_
              obtain ⟨t_place_20, et_place_20, hf⟩ := zz_let_use hf
              refine zti et_place_20 ?_
              refine zput S uw_X3 tyX3_ok nmX3 hE hP hD hS 0 4 (ty := .int) (wX3 c t0 tA_text d0 t_text t_length t_lines t_place_20 r_8 t_place_7 t_bytes r_19 t_parent t_otherParent ++ wX5 c d0 dA_numbers dA_syllables dA_days dA_words dA_parents dA_otherParents dA_kinds dA_hopeDays dA_hopeTenths d_numbers d_syllables d_syllableCount d_days d_words d_parents d_otherParents d_kinds d_personCount d_hopeDays d_hopeTenths d_hopeCount d_degreesTold) rfl rfl (by decide) tw_1_112 rfl rfl (by decide +kernel) rfl rfl (Nat.le_of_ble_eq_true rfl) rfl dX3_readToken_119 (fun H locs hP hD hS => ?_)
              refine lv_aload_n hx hb dX3_readToken_122 rfl (lv_at hl 0 rfl) ?_
              refine zget S uw_X3 hE hP 0 5 rfl rfl (by decide) tw_1_113 rfl rfl dX3_readToken_123 ?_
              refine lv_iconst (v := (3 : Int32)) hx hb dX3_readToken_126 (by decide) ?_
              obtain ⟨k_24, hk_24, hf⟩ := zz_let_use hf
              have hJ_24 : ∀ (q_25 : Int32) (H : Heap) (locs : List Loc) (ls : Array Slot), k_24 q_25 = some (o_t_place, o_t_token, o_t_begin, o_t_bytes, o_t_value) → va_P D vwCl (wX3 c t0 tA_text d0 t_text t_length t_lines t_place_20 r_8 t_place_7 t_bytes r_19 t_parent t_otherParent ++ wX5 c d0 dA_numbers dA_syllables dA_days dA_words dA_parents dA_otherParents dA_kinds dA_hopeDays dA_hopeTenths d_numbers d_syllables d_syllableCount d_days d_words d_parents d_otherParents d_kinds d_personCount d_hopeDays d_hopeTenths d_hopeCount d_degreesTold) H → va_D A (wX3 c t0 tA_text d0 t_text t_length t_lines t_place_20 r_8 t_place_7 t_bytes r_19 t_parent t_otherParent ++ wX5 c d0 dA_numbers dA_syllables dA_days dA_words dA_parents dA_otherParents dA_kinds dA_hopeDays dA_hopeTenths d_numbers d_syllables d_syllableCount d_days d_words d_parents d_otherParents d_kinds d_personCount d_hopeDays d_hopeTenths d_hopeCount d_degreesTold) → va_S A s.heap H locs → lv_has ls 2 [(0, .ref t0)] → W p l e rm_X3_readToken s m args below meth c0 H locs 0 0 Q (F0 m 150 ls [.int q_25]) := by
                intro q_25 H locs ls hf hP hD hS hl
                subst hk_24
                refine lv_istore_n (lv' := [(1, .int q_25), (0, .ref t0)]) hx hb dX3_readToken_150 rfl hl (by decide) rfl (fun ls hl => ?_)
                refine lv_goto (tgt := 80) hx hb dX3_readToken_151 (by decide) ?_
                exact ih_12 q_25 t_place_20 r_19 H locs ls hf hP hD hS (lv_sub hl [1, 0] rfl)
              refine lv_icmp_eq (tgt := 149) hx hb dX3_readToken_127 (by decide) (fun hc_21 => ?_) (fun hc_21 => ?_)
              · have hf := zz_it hf hc_21
                refine lv_iconst (v := (0 : Int32)) hx hb dX3_readToken_149 (by decide) ?_
                exact hJ_24 (0 : Int32) H locs ls hf hP hD hS (lv_sub hl [0] rfl)
              · have hf := zz_if hf hc_21
                refine lv_aload_n hx hb dX3_readToken_130 rfl (lv_at hl 0 rfl) ?_
                refine lv_aload_n hx hb dX3_readToken_131 rfl (lv_at hl 0 rfl) ?_
                refine zget S uw_X3 hE hP 0 4 rfl rfl (by decide) tw_1_112 rfl rfl dX3_readToken_132 ?_
                obtain ⟨r_22, he_22, hf⟩ := zz_b1_use hf
                refine zcVi (As := [.int t_place_20]) (rest := []) S (k_X3_kindAt l D c N t0 tA_text d0 t_text t_length t_lines t_place_20 r_8 t_place_7 t_bytes r_19 t_parent t_otherParent d0 dA_numbers dA_syllables dA_days dA_words dA_parents dA_otherParents dA_kinds dA_hopeDays dA_hopeTenths d_numbers d_syllables d_syllableCount d_days d_words d_parents d_otherParents d_kinds d_personCount d_hopeDays d_hopeTenths d_hopeCount d_degreesTold t_place_20 r_22 he_22) mi_X3_kindAt tw_2_70 ⟨(Nat.le_of_ble_eq_true rfl), (Nat.le_of_ble_eq_true rfl)⟩ ⟨rfl, rfl⟩ hP hE hX hS (ci := 3) rfl rfl (q0 := 0) rfl rfl hl.1 rfl (Nat.le_of_ble_eq_true rfl) dX3_readToken_135 ⟨(Nat.le_of_ble_eq_true rfl), (Nat.le_of_ble_eq_true rfl)⟩ ?_
                refine lv_aload_n hx hb dX3_readToken_138 rfl (lv_at hl 0 rfl) ?_
                refine zget S uw_X3 hE hP 0 5 rfl rfl (by decide) tw_1_113 rfl rfl dX3_readToken_139 ?_
                refine lv_icmp_ne (tgt := 149) hx hb dX3_readToken_142 (by decide) (fun hc_23 => ?_) (fun hc_23 => ?_)
                · have hf := zz_if hf hc_23
                  refine lv_iconst (v := (0 : Int32)) hx hb dX3_readToken_149 (by decide) ?_
                  exact hJ_24 (0 : Int32) H locs ls hf hP hD hS (lv_sub hl [0] rfl)
                · have hf := zz_it hf hc_23
                  refine lv_iconst (v := (1 : Int32)) hx hb dX3_readToken_145 (by decide) ?_
                  refine lv_goto (tgt := 150) hx hb dX3_readToken_146 (by decide) ?_
                  exact hJ_24 (1 : Int32) H locs ls hf hP hD hS (lv_sub hl [0] rfl)
      exact hL_12 N q_11 t_place_7 (0 : Int64) H locs ls hf hP hD hS (lv_sub hl [1, 0] rfl)
    refine lv_icmp_ge (tgt := 78) hx hb dX3_readToken_71 (by decide) (fun hc_9 => ?_) (fun hc_9 => ?_)
    · have hf := zz_it hf hc_9
      refine lv_iconst (v := (0 : Int32)) hx hb dX3_readToken_78 (by decide) ?_
      exact hJ_10 (0 : Int32) H locs ls hf hP hD hS (lv_sub hl [0] rfl)
    · have hf := zz_if hf hc_9
      refine lv_iconst (v := (1 : Int32)) hx hb dX3_readToken_74 (by decide) ?_
      refine lv_goto (tgt := 79) hx hb dX3_readToken_75 (by decide) ?_
      exact hJ_10 (1 : Int32) H locs ls hf hP hD hS (lv_sub hl [0] rfl)
  have hL_1 : ∀ (n_1 : Nat) (t_place_2 : Int32) (H : Heap) (locs : List Loc) (ls : Array Slot), f_X3_readToken_L0 N k_1 t_text t_length n_1 t_place_2 = some (o_t_place, o_t_token, o_t_begin, o_t_bytes, o_t_value) → va_P D vwCl (wX3 c t0 tA_text d0 t_text t_length t_lines t_place_2 t_token t_begin t_bytes t_value t_parent t_otherParent ++ wX5 c d0 dA_numbers dA_syllables dA_days dA_words dA_parents dA_otherParents dA_kinds dA_hopeDays dA_hopeTenths d_numbers d_syllables d_syllableCount d_days d_words d_parents d_otherParents d_kinds d_personCount d_hopeDays d_hopeTenths d_hopeCount d_degreesTold) H → va_D A (wX3 c t0 tA_text d0 t_text t_length t_lines t_place_2 t_token t_begin t_bytes t_value t_parent t_otherParent ++ wX5 c d0 dA_numbers dA_syllables dA_days dA_words dA_parents dA_otherParents dA_kinds dA_hopeDays dA_hopeTenths d_numbers d_syllables d_syllableCount d_days d_words d_parents d_otherParents d_kinds d_personCount d_hopeDays d_hopeTenths d_hopeCount d_degreesTold) → va_S A s.heap H locs → lv_has ls 2 [(0, .ref t0)] → W p l e rm_X3_readToken s m args below meth c0 H locs 0 0 Q (F0 m 0 ls []) := by
    intro n_1
    induction n_1 with
    | zero => intro t_place_2 H locs ls hf hP hD hS hl; exact zz_none hf
    | succ n_1 ih_1 =>
      intro t_place_2 H locs ls hf hP hD hS hl
      rw [f_X3_readToken_L0_s] at hf
      refine lv_aload_n hx hb dX3_readToken_0 rfl (lv_at hl 0 rfl) ?_
      refine zget S uw_X3 hE hP 0 4 rfl rfl (by decide) tw_1_112 rfl rfl dX3_readToken_1 ?_
      refine lv_aload_n hx hb dX3_readToken_4 rfl (lv_at hl 0 rfl) ?_
      refine zget S uw_X3 hE hP 0 1 rfl rfl (by decide) tw_1_106 rfl rfl dX3_readToken_5 ?_
      refine lv_icmp_ge (tgt := 38) hx hb dX3_readToken_8 (by decide) (fun hc_3 => ?_) (fun hc_3 => ?_)
      · have hf := zz_it hf hc_3
        exact hX_1 t_place_2 H locs ls hf hP hD hS (lv_sub hl [0] rfl)
      · have hf := zz_if hf hc_3
        refine lv_aload_n hx hb dX3_readToken_11 rfl (lv_at hl 0 rfl) ?_
        refine zget S uw_X3 hE hP 0 0 rfl rfl (by decide) tw_1_105 rfl rfl dX3_readToken_12 ?_
        refine lv_aload_n hx hb dX3_readToken_15 rfl (lv_at hl 0 rfl) ?_
        refine zget S uw_X3 hE hP 0 4 rfl rfl (by decide) tw_1_112 rfl rfl dX3_readToken_16 ?_
        obtain ⟨hin_4, hf⟩ := zz_gd_use hf
        refine zild hx hb hE hP 1 rfl (zz_in_ok hin_4) dX3_readToken_19 ?_
        refine lv_bipush (v := (32 : Int32)) hx hb dX3_readToken_20 (by decide) ?_
        refine lv_icmp_ne (tgt := 38) hx hb dX3_readToken_22 (by decide) (fun hc_5 => ?_) (fun hc_5 => ?_)
        · have hf := zz_if hf hc_5
          exact hX_1 t_place_2 H locs ls hf hP hD hS (lv_sub hl [0] rfl)
        · have hf := zz_it hf hc_5
          refine lv_aload_n hx hb dX3_readToken_25 rfl (lv_at hl 0 rfl) ?_
          refine lv_dup hx hb dX3_readToken_26 rfl ?_
          refine zget S uw_X3 hE hP 0 4 rfl rfl (by decide) tw_1_112 rfl rfl dX3_readToken_27 ?_
          refine lv_iconst (v := (1 : Int32)) hx hb dX3_readToken_30 (by decide) ?_
          refine lv_iadd hx hb dX3_readToken_31 ?_
          obtain ⟨t_place_6, et_place_6, hf⟩ := zz_let_use hf
          refine zti et_place_6 ?_
          refine zput S uw_X3 tyX3_ok nmX3 hE hP hD hS 0 4 (ty := .int) (wX3 c t0 tA_text d0 t_text t_length t_lines t_place_6 t_token t_begin t_bytes t_value t_parent t_otherParent ++ wX5 c d0 dA_numbers dA_syllables dA_days dA_words dA_parents dA_otherParents dA_kinds dA_hopeDays dA_hopeTenths d_numbers d_syllables d_syllableCount d_days d_words d_parents d_otherParents d_kinds d_personCount d_hopeDays d_hopeTenths d_hopeCount d_degreesTold) rfl rfl (by decide) tw_1_112 rfl rfl (by decide +kernel) rfl rfl (Nat.le_of_ble_eq_true rfl) rfl dX3_readToken_32 (fun H locs hP hD hS => ?_)
          refine lv_goto (tgt := 0) hx hb dX3_readToken_35 (by decide) ?_
          exact ih_1 t_place_6 H locs ls hf hP hD hS (lv_sub hl [0] rfl)
  exact hL_1 N t_place s.heap [] ls hf hP hD hS (lv_sub hl [0] rfl)
def f_X3_readNumber (N : Nat) (t_text : Nat → Int32) (t_length : Int32) (t_place : Int32) (p1 : Int32) (p2 : Int32) : Option (Int32 × (Int32) × (Int32) × (Int32) × (Int32) × (Int64)) := zz_b5 (f_X3_readToken N t_text t_length t_place) (fun t_place_1 t_token_2 t_begin_3 t_bytes_4 t_value_5 => (if t_token_2 = (2 : Int32) then (if (3 : Int32) < t_bytes_4 then (some ((0 : Int32), t_place_1, t_token_2, t_begin_3, t_bytes_4, t_value_5)) else (if t_value_5 < p1.toInt64 then (some ((0 : Int32), t_place_1, t_token_2, t_begin_3, t_bytes_4, t_value_5)) else (if p2.toInt64 < t_value_5 then (some ((0 : Int32), t_place_1, t_token_2, t_begin_3, t_bytes_4, t_value_5)) else (some ((1 : Int32), t_place_1, t_token_2, t_begin_3, t_bytes_4, t_value_5))))) else (some ((0 : Int32), t_place_1, t_token_2, t_begin_3, t_bytes_4, t_value_5))))
abbrev rm_X3_readNumber : Room := { frames := 2, cells := 0, slots := 0, locals := 42 }
theorem mi_X3_readNumber : zMI RX3 yX3_readNumber cX3_readNumber 3 (some .boolean) 2 := ⟨⟨tw_2_152, ts_X3_readNumber, tw_1_3, tw_2_153⟩, by decide +kernel, by decide +kernel, by decide +kernel⟩
set_option maxHeartbeats 4000000 in
set_option maxRecDepth 100000 in
theorem k_X3_readNumber (l : Launch) (D : va_G) (c : Nat → ClassId) (N : Nat) (t0 : Nat) (tA_text : Nat) (d0 : Nat) (t_text : Nat → Int32) (t_length : Int32) (t_lines : Int32) (t_place : Int32) (t_token : Int32) (t_begin : Int32) (t_bytes : Int32) (t_value : Int64) (t_parent : Int32) (t_otherParent : Int32) (d0_x : Nat) (dA_numbers : Nat) (dA_syllables : Nat) (dA_days : Nat) (dA_words : Nat) (dA_parents : Nat) (dA_otherParents : Nat) (dA_kinds : Nat) (dA_hopeDays : Nat) (dA_hopeTenths : Nat) (d_numbers : Nat → Int32) (d_syllables : Nat → Int64) (d_syllableCount : Int32) (d_days : Nat → Int32) (d_words : Nat → Int64) (d_parents : Nat → Int32) (d_otherParents : Nat → Int32) (d_kinds : Nat → Int32) (d_personCount : Int32) (d_hopeDays : Nat → Int32) (d_hopeTenths : Nat → Int32) (d_hopeCount : Int32) (d_degreesTold : Int32) (p1 : Int32) (p2 : Int32) (o : Int32) (o_t_place : Int32) (o_t_token : Int32) (o_t_begin : Int32) (o_t_bytes : Int32) (o_t_value : Int64) (hf : f_X3_readNumber N t_text t_length t_place p1 p2 = some (o, o_t_place, o_t_token, o_t_begin, o_t_bytes, o_t_value)) : zMWi l D c yX3_readNumber cX3_readNumber 3 (some .boolean) rm_X3_readNumber (wX3 c t0 tA_text d0 t_text t_length t_lines t_place t_token t_begin t_bytes t_value t_parent t_otherParent ++ wX5 c d0 dA_numbers dA_syllables dA_days dA_words dA_parents dA_otherParents dA_kinds dA_hopeDays dA_hopeTenths d_numbers d_syllables d_syllableCount d_days d_words d_parents d_otherParents d_kinds d_personCount d_hopeDays d_hopeTenths d_hopeCount d_degreesTold) (wX3 c t0 tA_text d0 t_text t_length t_lines o_t_place o_t_token o_t_begin o_t_bytes o_t_value t_parent t_otherParent ++ wX5 c d0 dA_numbers dA_syllables dA_days dA_words dA_parents dA_otherParents dA_kinds dA_hopeDays dA_hopeTenths d_numbers d_syllables d_syllableCount d_days d_words d_parents d_otherParents d_kinds d_personCount d_hopeDays d_hopeTenths d_hopeCount d_degreesTold) [.ref t0, .int p1, .int p2] o := by
  intro sz
  refine zIW (by decide) (Nat.le_of_ble_eq_true rfl) ?_
  intro p e s m args below meth c0 Q A hAe hQ hx hb hr hlk hml hts hown hP hE hD hS hA hsz hmn hX ls hl
  rw [← hAe] at hQ
  have S : CallFix p m c0 cX3_readNumber 3 s args zT RX3 := ⟨hx, hb, hml, hown, hts⟩
  have hl : lv_has ls 3 [(0, .ref t0), (1, .int p1), (2, .int p2)] := hl
  unfold f_X3_readNumber at hf
  refine lv_aload_n hx hb dX3_readNumber_0 rfl (lv_at hl 0 rfl) ?_
  obtain ⟨t_place_1, t_token_2, t_begin_3, t_bytes_4, t_value_5, he_5, hf⟩ := zz_b5_use hf
  refine zwVv (As := []) (rest := []) (wr := []) (wX3 c t0 tA_text d0 t_text t_length t_lines t_place_1 t_token_2 t_begin_3 t_bytes_4 t_value_5 t_parent t_otherParent ++ wX5 c d0 dA_numbers dA_syllables dA_days dA_words dA_parents dA_otherParents dA_kinds dA_hopeDays dA_hopeTenths d_numbers d_syllables d_syllableCount d_days d_words d_parents d_otherParents d_kinds d_personCount d_hopeDays d_hopeTenths d_hopeCount d_degreesTold) [0, 1, 2, 3, 4, 5, 6, 7, 8, 9, 10, 11] [] [0, 1, 2, 3, 4, 5, 6, 7, 8, 9, 10, 11] S (k_X3_readToken l D c N t0 tA_text d0 t_text t_length t_lines t_place t_token t_begin t_bytes t_value t_parent t_otherParent d0 dA_numbers dA_syllables dA_days dA_words dA_parents dA_otherParents dA_kinds dA_hopeDays dA_hopeTenths d_numbers d_syllables d_syllableCount d_days d_words d_parents d_otherParents d_kinds d_personCount d_hopeDays d_hopeTenths d_hopeCount d_degreesTold  t_place_1 t_token_2 t_begin_3 t_bytes_4 t_value_5 he_5) mi_X3_readToken tw_2_66 ⟨(Nat.le_of_ble_eq_true rfl), (Nat.le_of_ble_eq_true rfl)⟩ ⟨rfl, rfl⟩ hP hD hS hA rfl rfl rfl rfl (by decide) rfl rfl hE hX (ci := 3) rfl rfl (q0 := 0) rfl rfl hl.1 rfl (Nat.le_of_ble_eq_true rfl) dX3_readNumber_1 ⟨(Nat.le_of_ble_eq_true rfl), (Nat.le_of_ble_eq_true rfl)⟩ (fun H locs hP hD hS => ?_)
  refine lv_aload_n hx hb dX3_readNumber_4 rfl (lv_at hl 0 rfl) ?_
  refine zget S uw_X3 hE hP 0 5 rfl rfl (by decide) tw_1_113 rfl rfl dX3_readNumber_5 ?_
  refine lv_iconst (v := (2 : Int32)) hx hb dX3_readNumber_8 (by decide) ?_
  refine lv_icmp_ne (tgt := 44) hx hb dX3_readNumber_9 (by decide) (fun hc_6 => ?_) (fun hc_6 => ?_)
  · have hf := zz_if hf hc_6
    refine lv_iconst (v := (0 : Int32)) hx hb dX3_readNumber_44 (by decide) ?_
    cases hf
    exact zRWz hQ hx hb hr hlk rfl rfl hP hD hS dX3_readNumber_45
  · have hf := zz_it hf hc_6
    refine lv_aload_n hx hb dX3_readNumber_12 rfl (lv_at hl 0 rfl) ?_
    refine zget S uw_X3 hE hP 0 7 rfl rfl (by decide) tw_1_115 rfl rfl dX3_readNumber_13 ?_
    refine lv_iconst (v := (3 : Int32)) hx hb dX3_readNumber_16 (by decide) ?_
    refine lv_icmp_gt (tgt := 44) hx hb dX3_readNumber_17 (by decide) (fun hc_7 => ?_) (fun hc_7 => ?_)
    · have hf := zz_it hf hc_7
      refine lv_iconst (v := (0 : Int32)) hx hb dX3_readNumber_44 (by decide) ?_
      cases hf
      exact zRWz hQ hx hb hr hlk rfl rfl hP hD hS dX3_readNumber_45
    · have hf := zz_if hf hc_7
      refine lv_aload_n hx hb dX3_readNumber_20 rfl (lv_at hl 0 rfl) ?_
      refine zget S uw_X3 hE hP 0 8 rfl rfl (by decide) tw_1_116 rfl rfl dX3_readNumber_21 ?_
      refine lv_iload_n hx hb dX3_readNumber_24 rfl (lv_at hl 1 rfl) ?_
      refine lv_i2l (v := p1.toInt64) hx hb dX3_readNumber_25 rfl ?_
      refine zlc_lt (tgt := 44) hx hb dX3_readNumber_26 dX3_readNumber_27 (by decide) (fun hc_8 => ?_) (fun hc_8 => ?_)
      · have hf := zz_it hf hc_8
        refine lv_iconst (v := (0 : Int32)) hx hb dX3_readNumber_44 (by decide) ?_
        cases hf
        exact zRWz hQ hx hb hr hlk rfl rfl hP hD hS dX3_readNumber_45
      · have hf := zz_if hf hc_8
        refine lv_aload_n hx hb dX3_readNumber_30 rfl (lv_at hl 0 rfl) ?_
        refine zget S uw_X3 hE hP 0 8 rfl rfl (by decide) tw_1_116 rfl rfl dX3_readNumber_31 ?_
        refine lv_iload_n hx hb dX3_readNumber_34 rfl (lv_at hl 2 rfl) ?_
        refine lv_i2l (v := p2.toInt64) hx hb dX3_readNumber_35 rfl ?_
        refine zlc_gt (tgt := 44) hx hb dX3_readNumber_36 dX3_readNumber_37 (by decide) (fun hc_9 => ?_) (fun hc_9 => ?_)
        · have hf := zz_it hf hc_9
          refine lv_iconst (v := (0 : Int32)) hx hb dX3_readNumber_44 (by decide) ?_
          cases hf
          exact zRWz hQ hx hb hr hlk rfl rfl hP hD hS dX3_readNumber_45
        · have hf := zz_if hf hc_9
          refine lv_iconst (v := (1 : Int32)) hx hb dX3_readNumber_40 (by decide) ?_
          refine lv_goto (tgt := 45) hx hb dX3_readNumber_41 (by decide) ?_
          cases hf
          exact zRWz hQ hx hb hr hlk rfl rfl hP hD hS dX3_readNumber_45
def f_X3_readWordOrNothing (N : Nat) (t_text : Nat → Int32) (t_length : Int32) (t_place : Int32) : Option (Int32 × (Int32) × (Int32) × (Int32) × (Int32) × (Int64)) := zz_b5 (f_X3_readToken N t_text t_length t_place) (fun t_place_1 t_token_2 t_begin_3 t_bytes_4 t_value_5 => zz_let ((if t_token_2 = (1 : Int32) then (if (9 : Int32) < t_bytes_4 then (some ((0 : Int32), t_place_1, t_token_2, t_begin_3, t_bytes_4, t_value_5)) else (some ((1 : Int32), t_place_1, t_token_2, t_begin_3, t_bytes_4, t_value_5))) else (some ((0 : Int32), t_place_1, t_token_2, t_begin_3, t_bytes_4, t_value_5)))) (fun k_8 => (if t_token_2 = (3 : Int32) then (if t_value_5 = (45 : Int64) then (some ((1 : Int32), t_place_1, t_token_2, t_begin_3, t_bytes_4, (0 : Int64))) else k_8) else k_8)))
abbrev rm_X3_readWordOrNothing : Room := { frames := 2, cells := 0, slots := 0, locals := 42 }
theorem mi_X3_readWordOrNothing : zMI RX3 yX3_readWordOrNothing cX3_readWordOrNothing 1 (some .boolean) 0 := ⟨⟨tw_2_174, ts_X3_readWordOrNothing, tw_1_3, tw_2_175⟩, by decide +kernel, by decide +kernel, by decide +kernel⟩
set_option maxHeartbeats 4000000 in
set_option maxRecDepth 100000 in
theorem k_X3_readWordOrNothing (l : Launch) (D : va_G) (c : Nat → ClassId) (N : Nat) (t0 : Nat) (tA_text : Nat) (d0 : Nat) (t_text : Nat → Int32) (t_length : Int32) (t_lines : Int32) (t_place : Int32) (t_token : Int32) (t_begin : Int32) (t_bytes : Int32) (t_value : Int64) (t_parent : Int32) (t_otherParent : Int32) (d0_x : Nat) (dA_numbers : Nat) (dA_syllables : Nat) (dA_days : Nat) (dA_words : Nat) (dA_parents : Nat) (dA_otherParents : Nat) (dA_kinds : Nat) (dA_hopeDays : Nat) (dA_hopeTenths : Nat) (d_numbers : Nat → Int32) (d_syllables : Nat → Int64) (d_syllableCount : Int32) (d_days : Nat → Int32) (d_words : Nat → Int64) (d_parents : Nat → Int32) (d_otherParents : Nat → Int32) (d_kinds : Nat → Int32) (d_personCount : Int32) (d_hopeDays : Nat → Int32) (d_hopeTenths : Nat → Int32) (d_hopeCount : Int32) (d_degreesTold : Int32)  (o : Int32) (o_t_place : Int32) (o_t_token : Int32) (o_t_begin : Int32) (o_t_bytes : Int32) (o_t_value : Int64) (hf : f_X3_readWordOrNothing N t_text t_length t_place = some (o, o_t_place, o_t_token, o_t_begin, o_t_bytes, o_t_value)) : zMWi l D c yX3_readWordOrNothing cX3_readWordOrNothing 1 (some .boolean) rm_X3_readWordOrNothing (wX3 c t0 tA_text d0 t_text t_length t_lines t_place t_token t_begin t_bytes t_value t_parent t_otherParent ++ wX5 c d0 dA_numbers dA_syllables dA_days dA_words dA_parents dA_otherParents dA_kinds dA_hopeDays dA_hopeTenths d_numbers d_syllables d_syllableCount d_days d_words d_parents d_otherParents d_kinds d_personCount d_hopeDays d_hopeTenths d_hopeCount d_degreesTold) (wX3 c t0 tA_text d0 t_text t_length t_lines o_t_place o_t_token o_t_begin o_t_bytes o_t_value t_parent t_otherParent ++ wX5 c d0 dA_numbers dA_syllables dA_days dA_words dA_parents dA_otherParents dA_kinds dA_hopeDays dA_hopeTenths d_numbers d_syllables d_syllableCount d_days d_words d_parents d_otherParents d_kinds d_personCount d_hopeDays d_hopeTenths d_hopeCount d_degreesTold) [.ref t0] o := by
  intro sz
  refine zIW (by decide) (Nat.le_of_ble_eq_true rfl) ?_
  intro p e s m args below meth c0 Q A hAe hQ hx hb hr hlk hml hts hown hP hE hD hS hA hsz hmn hX ls hl
  rw [← hAe] at hQ
  have S : CallFix p m c0 cX3_readWordOrNothing 1 s args zT RX3 := ⟨hx, hb, hml, hown, hts⟩
  have hl : lv_has ls 1 [(0, .ref t0)] := hl
  unfold f_X3_readWordOrNothing at hf
  refine lv_aload_n hx hb dX3_readWordOrNothing_0 rfl (lv_at hl 0 rfl) ?_
  obtain ⟨t_place_1, t_token_2, t_begin_3, t_bytes_4, t_value_5, he_5, hf⟩ := zz_b5_use hf
  refine zwVv (As := []) (rest := []) (wr := []) (wX3 c t0 tA_text d0 t_text t_length t_lines t_place_1 t_token_2 t_begin_3 t_bytes_4 t_value_5 t_parent t_otherParent ++ wX5 c d0 dA_numbers dA_syllables dA_days dA_words dA_parents dA_otherParents dA_kinds dA_hopeDays dA_hopeTenths d_numbers d_syllables d_syllableCount d_days d_words d_parents d_otherParents d_kinds d_personCount d_hopeDays d_hopeTenths d_hopeCount d_degreesTold) [0, 1, 2, 3, 4, 5, 6, 7, 8, 9, 10, 11] [] [0, 1, 2, 3, 4, 5, 6, 7, 8, 9, 10, 11] S (k_X3_readToken l D c N t0 tA_text d0 t_text t_length t_lines t_place t_token t_begin t_bytes t_value t_parent t_otherParent d0 dA_numbers dA_syllables dA_days dA_words dA_parents dA_otherParents dA_kinds dA_hopeDays dA_hopeTenths d_numbers d_syllables d_syllableCount d_days d_words d_parents d_otherParents d_kinds d_personCount d_hopeDays d_hopeTenths d_hopeCount d_degreesTold  t_place_1 t_token_2 t_begin_3 t_bytes_4 t_value_5 he_5) mi_X3_readToken tw_2_66 ⟨(Nat.le_of_ble_eq_true rfl), (Nat.le_of_ble_eq_true rfl)⟩ ⟨rfl, rfl⟩ hP hD hS hA rfl rfl rfl rfl (by decide) rfl rfl hE hX (ci := 3) rfl rfl (q0 := 0) rfl rfl hl.1 rfl (Nat.le_of_ble_eq_true rfl) dX3_readWordOrNothing_1 ⟨(Nat.le_of_ble_eq_true rfl), (Nat.le_of_ble_eq_true rfl)⟩ (fun H locs hP hD hS => ?_)
  refine lv_aload_n hx hb dX3_readWordOrNothing_4 rfl (lv_at hl 0 rfl) ?_
  refine zget S uw_X3 hE hP 0 5 rfl rfl (by decide) tw_1_113 rfl rfl dX3_readWordOrNothing_5 ?_
  refine lv_iconst (v := (3 : Int32)) hx hb dX3_readWordOrNothing_8 (by decide) ?_
  obtain ⟨k_8, hk_8, hf⟩ := zz_let_use hf
  have hJ_8 : ∀ (H : Heap) (locs : List Loc) (ls : Array Slot), k_8 = some (o, o_t_place, o_t_token, o_t_begin, o_t_bytes, o_t_value) → va_P D vwCl (wX3 c t0 tA_text d0 t_text t_length t_lines t_place_1 t_token_2 t_begin_3 t_bytes_4 t_value_5 t_parent t_otherParent ++ wX5 c d0 dA_numbers dA_syllables dA_days dA_words dA_parents dA_otherParents dA_kinds dA_hopeDays dA_hopeTenths d_numbers d_syllables d_syllableCount d_days d_words d_parents d_otherParents d_kinds d_personCount d_hopeDays d_hopeTenths d_hopeCount d_degreesTold) H → va_D A (wX3 c t0 tA_text d0 t_text t_length t_lines t_place_1 t_token_2 t_begin_3 t_bytes_4 t_value_5 t_parent t_otherParent ++ wX5 c d0 dA_numbers dA_syllables dA_days dA_words dA_parents dA_otherParents dA_kinds dA_hopeDays dA_hopeTenths d_numbers d_syllables d_syllableCount d_days d_words d_parents d_otherParents d_kinds d_personCount d_hopeDays d_hopeTenths d_hopeCount d_degreesTold) → va_S A s.heap H locs → lv_has ls 1 [(0, .ref t0)] → W p l e rm_X3_readWordOrNothing s m args below meth c0 H locs 0 0 Q (F0 m 30 ls []) := by
    intro H locs ls hf hP hD hS hl
    subst hk_8
    refine lv_aload_n hx hb dX3_readWordOrNothing_30 rfl (lv_at hl 0 rfl) ?_
    refine zget S uw_X3 hE hP 0 5 rfl rfl (by decide) tw_1_113 rfl rfl dX3_readWordOrNothing_31 ?_
    refine lv_iconst (v := (1 : Int32)) hx hb dX3_readWordOrNothing_34 (by decide) ?_
    refine lv_icmp_ne (tgt := 51) hx hb dX3_readWordOrNothing_35 (by decide) (fun hc_9 => ?_) (fun hc_9 => ?_)
    · have hf := zz_if hf hc_9
      refine lv_iconst (v := (0 : Int32)) hx hb dX3_readWordOrNothing_51 (by decide) ?_
      cases hf
      exact zRWz hQ hx hb hr hlk rfl rfl hP hD hS dX3_readWordOrNothing_52
    · have hf := zz_it hf hc_9
      refine lv_aload_n hx hb dX3_readWordOrNothing_38 rfl (lv_at hl 0 rfl) ?_
      refine zget S uw_X3 hE hP 0 7 rfl rfl (by decide) tw_1_115 rfl rfl dX3_readWordOrNothing_39 ?_
      refine lv_bipush (v := (9 : Int32)) hx hb dX3_readWordOrNothing_42 (by decide) ?_
      refine lv_icmp_gt (tgt := 51) hx hb dX3_readWordOrNothing_44 (by decide) (fun hc_10 => ?_) (fun hc_10 => ?_)
      · have hf := zz_it hf hc_10
        refine lv_iconst (v := (0 : Int32)) hx hb dX3_readWordOrNothing_51 (by decide) ?_
        cases hf
        exact zRWz hQ hx hb hr hlk rfl rfl hP hD hS dX3_readWordOrNothing_52
      · have hf := zz_if hf hc_10
        refine lv_iconst (v := (1 : Int32)) hx hb dX3_readWordOrNothing_47 (by decide) ?_
        refine lv_goto (tgt := 52) hx hb dX3_readWordOrNothing_48 (by decide) ?_
        cases hf
        exact zRWz hQ hx hb hr hlk rfl rfl hP hD hS dX3_readWordOrNothing_52
  refine lv_icmp_ne (tgt := 30) hx hb dX3_readWordOrNothing_9 (by decide) (fun hc_6 => ?_) (fun hc_6 => ?_)
  · have hf := zz_if hf hc_6
    exact hJ_8 H locs ls hf hP hD hS (lv_sub hl [0] rfl)
  · have hf := zz_it hf hc_6
    refine lv_aload_n hx hb dX3_readWordOrNothing_12 rfl (lv_at hl 0 rfl) ?_
    refine zget S uw_X3 hE hP 0 8 rfl rfl (by decide) tw_1_116 rfl rfl dX3_readWordOrNothing_13 ?_
    refine lv_ldc2 (v := (45 : Int64)) hx hb hown (hts _ tw_2_176) dX3_readWordOrNothing_16 ?_
    refine zlc_ne (tgt := 30) hx hb dX3_readWordOrNothing_19 dX3_readWordOrNothing_20 (by decide) (fun hc_7 => ?_) (fun hc_7 => ?_)
    · have hf := zz_if hf hc_7
      exact hJ_8 H locs ls hf hP hD hS (lv_sub hl [0] rfl)
    · have hf := zz_it hf hc_7
      refine lv_aload_n hx hb dX3_readWordOrNothing_23 rfl (lv_at hl 0 rfl) ?_
      refine lv_lconst (v := (0 : Int64)) hx hb dX3_readWordOrNothing_24 (by decide) ?_
      refine zput S uw_X3 tyX3_ok nmX3 hE hP hD hS 0 8 (ty := .long) (wX3 c t0 tA_text d0 t_text t_length t_lines t_place_1 t_token_2 t_begin_3 t_bytes_4 (0 : Int64) t_parent t_otherParent ++ wX5 c d0 dA_numbers dA_syllables dA_days dA_words dA_parents dA_otherParents dA_kinds dA_hopeDays dA_hopeTenths d_numbers d_syllables d_syllableCount d_days d_words d_parents d_otherParents d_kinds d_personCount d_hopeDays d_hopeTenths d_hopeCount d_degreesTold) rfl rfl (by decide) tw_1_116 rfl rfl (by decide +kernel) rfl rfl (Nat.le_of_ble_eq_true rfl) rfl dX3_readWordOrNothing_25 (fun H locs hP hD hS => ?_)
      refine lv_iconst (v := (1 : Int32)) hx hb dX3_readWordOrNothing_28 (by decide) ?_
      cases hf
      exact zRWz hQ hx hb hr hlk rfl rfl hP hD hS dX3_readWordOrNothing_29
def f_X3_readBirth (N : Nat) (t_text : Nat → Int32) (t_length : Int32) (t_place : Int32) (t_parent : Int32) (t_otherParent : Int32) (d_days : Nat → Int32) (d_words : Nat → Int64) (d_parents : Nat → Int32) (d_otherParents : Nat → Int32) (d_kinds : Nat → Int32) (d_personCount : Int32) : Option (Int32 × (Int32) × (Int32) × (Int32) × (Int32) × (Int64) × (Nat → Int32) × (Nat → Int64) × (Nat → Int32) × (Nat → Int32) × (Nat → Int32) × (Int32)) := zz_b6 (f_X3_readNumber N t_text t_length t_place (1 : Int32) (400 : Int32)) (fun r_1 t_place_2 t_token_3 t_begin_4 t_bytes_5 t_value_6 => (if r_1 = 0 then (some ((0 : Int32), t_place_2, t_token_3, t_begin_4, t_bytes_5, t_value_6, d_days, d_words, d_parents, d_otherParents, d_kinds, d_personCount)) else zz_let (t_value_6.toInt32) (fun v1_8 => zz_b6 (f_X3_readWordOrNothing N t_text t_length t_place_2) (fun r_9 t_place_10 t_token_11 t_begin_12 t_bytes_13 t_value_14 => (if r_9 = 0 then (some ((0 : Int32), t_place_10, t_token_11, t_begin_12, t_bytes_13, t_value_14, d_days, d_words, d_parents, d_otherParents, d_kinds, d_personCount)) else zz_b6 (f_X5_addPerson N d_days d_words d_parents d_otherParents d_kinds d_personCount t_parent t_otherParent v1_8 t_value_14) (fun d_days_16 d_words_17 d_parents_18 d_otherParents_19 d_kinds_20 d_personCount_21 => (some ((1 : Int32), t_place_10, t_token_11, t_begin_12, t_bytes_13, t_value_14, d_days_16, d_words_17, d_parents_18, d_otherParents_19, d_kinds_20, d_personCount_21))))))))
abbrev rm_X3_readBirth : Room := { frames := 3, cells := 0, slots := 0, locals := 64 }
theorem mi_X3_readBirth : zMI RX3 yX3_readBirth cX3_readBirth 2 (some .boolean) 0 := ⟨⟨tw_2_170, ts_X3_readBirth, tw_1_3, tw_2_171⟩, by decide +kernel, by decide +kernel, by decide +kernel⟩
set_option maxHeartbeats 4000000 in
set_option maxRecDepth 100000 in
theorem k_X3_readBirth (l : Launch) (D : va_G) (c : Nat → ClassId) (N : Nat) (t0 : Nat) (tA_text : Nat) (d0 : Nat) (t_text : Nat → Int32) (t_length : Int32) (t_lines : Int32) (t_place : Int32) (t_token : Int32) (t_begin : Int32) (t_bytes : Int32) (t_value : Int64) (t_parent : Int32) (t_otherParent : Int32) (d0_x : Nat) (dA_numbers : Nat) (dA_syllables : Nat) (dA_days : Nat) (dA_words : Nat) (dA_parents : Nat) (dA_otherParents : Nat) (dA_kinds : Nat) (dA_hopeDays : Nat) (dA_hopeTenths : Nat) (d_numbers : Nat → Int32) (d_syllables : Nat → Int64) (d_syllableCount : Int32) (d_days : Nat → Int32) (d_words : Nat → Int64) (d_parents : Nat → Int32) (d_otherParents : Nat → Int32) (d_kinds : Nat → Int32) (d_personCount : Int32) (d_hopeDays : Nat → Int32) (d_hopeTenths : Nat → Int32) (d_hopeCount : Int32) (d_degreesTold : Int32)  (o : Int32) (o_t_place : Int32) (o_t_token : Int32) (o_t_begin : Int32) (o_t_bytes : Int32) (o_t_value : Int64) (o_d_days : Nat → Int32) (o_d_words : Nat → Int64) (o_d_parents : Nat → Int32) (o_d_otherParents : Nat → Int32) (o_d_kinds : Nat → Int32) (o_d_personCount : Int32) (hf : f_X3_readBirth N t_text t_length t_place t_parent t_otherParent d_days d_words d_parents d_otherParents d_kinds d_personCount = some (o, o_t_place, o_t_token, o_t_begin, o_t_bytes, o_t_value, o_d_days, o_d_words, o_d_parents, o_d_otherParents, o_d_kinds, o_d_personCount)) : zMWi l D c yX3_readBirth cX3_readBirth 2 (some .boolean) rm_X3_readBirth (wX3 c t0 tA_text d0 t_text t_length t_lines t_place t_token t_begin t_bytes t_value t_parent t_otherParent ++ wX5 c d0 dA_numbers dA_syllables dA_days dA_words dA_parents dA_otherParents dA_kinds dA_hopeDays dA_hopeTenths d_numbers d_syllables d_syllableCount d_days d_words d_parents d_otherParents d_kinds d_personCount d_hopeDays d_hopeTenths d_hopeCount d_degreesTold) (wX3 c t0 tA_text d0 t_text t_length t_lines o_t_place o_t_token o_t_begin o_t_bytes o_t_value t_parent t_otherParent ++ wX5 c d0 dA_numbers dA_syllables dA_days dA_words dA_parents dA_otherParents dA_kinds dA_hopeDays dA_hopeTenths d_numbers d_syllables d_syllableCount o_d_days o_d_words o_d_parents o_d_otherParents o_d_kinds o_d_personCount d_hopeDays d_hopeTenths d_hopeCount d_degreesTold) [.ref t0] o := by
  intro sz
  refine zIW (by decide) (Nat.le_of_ble_eq_true rfl) ?_
  intro p e s m args below meth c0 Q A hAe hQ hx hb hr hlk hml hts hown hP hE hD hS hA hsz hmn hX ls hl
  rw [← hAe] at hQ
  have S : CallFix p m c0 cX3_readBirth 2 s args zT RX3 := ⟨hx, hb, hml, hown, hts⟩
  have hl : lv_has ls 2 [(0, .ref t0)] := hl
  unfold f_X3_readBirth at hf
  refine lv_aload_n hx hb dX3_readBirth_0 rfl (lv_at hl 0 rfl) ?_
  refine lv_iconst (v := (1 : Int32)) hx hb dX3_readBirth_1 (by decide) ?_
  refine lv_sipush (v := (400 : Int32)) hx hb dX3_readBirth_2 (by decide) ?_
  obtain ⟨r_1, t_place_2, t_token_3, t_begin_4, t_bytes_5, t_value_6, he_6, hf⟩ := zz_b6_use hf
  refine zwVi (As := [.int (1 : Int32), .int (400 : Int32)]) (rest := []) (wr := []) (wX3 c t0 tA_text d0 t_text t_length t_lines t_place_2 t_token_3 t_begin_4 t_bytes_5 t_value_6 t_parent t_otherParent ++ wX5 c d0 dA_numbers dA_syllables dA_days dA_words dA_parents dA_otherParents dA_kinds dA_hopeDays dA_hopeTenths d_numbers d_syllables d_syllableCount d_days d_words d_parents d_otherParents d_kinds d_personCount d_hopeDays d_hopeTenths d_hopeCount d_degreesTold) [0, 1, 2, 3, 4, 5, 6, 7, 8, 9, 10, 11] [] [0, 1, 2, 3, 4, 5, 6, 7, 8, 9, 10, 11] S (k_X3_readNumber l D c N t0 tA_text d0 t_text t_length t_lines t_place t_token t_begin t_bytes t_value t_parent t_otherParent d0 dA_numbers dA_syllables dA_days dA_words dA_parents dA_otherParents dA_kinds dA_hopeDays dA_hopeTenths d_numbers d_syllables d_syllableCount d_days d_words d_parents d_otherParents d_kinds d_personCount d_hopeDays d_hopeTenths d_hopeCount d_degreesTold (1 : Int32) (400 : Int32) r_1 t_place_2 t_token_3 t_begin_4 t_bytes_5 t_value_6 he_6) mi_X3_readNumber tw_2_150 ⟨(Nat.le_of_ble_eq_true rfl), (Nat.le_of_ble_eq_true rfl)⟩ ⟨rfl, rfl⟩ hP hD hS hA rfl rfl rfl rfl (by decide) rfl rfl hE hX (ci := 3) rfl rfl (q0 := 0) rfl rfl hl.1 rfl (Nat.le_of_ble_eq_true rfl) dX3_readBirth_5 ⟨(Nat.le_of_ble_eq_true rfl), (Nat.le_of_ble_eq_true rfl)⟩ (fun H locs hP hD hS => ?_)
  refine lv_if_ne (tgt := 13) hx hb dX3_readBirth_8 (by decide) (fun hc_7 => ?_) (fun hc_7 => ?_)
  · have hf := zz_if hf hc_7
    refine lv_aload_n hx hb dX3_readBirth_13 rfl (lv_at hl 0 rfl) ?_
    refine zget S uw_X3 hE hP 0 8 rfl rfl (by decide) tw_1_116 rfl rfl dX3_readBirth_14 ?_
    refine lv_l2i (v := t_value_6.toInt32) hx hb dX3_readBirth_17 rfl ?_
    obtain ⟨v1_8, ev1_8, hf⟩ := zz_let_use hf
    refine zti ev1_8 ?_
    refine lv_istore_n (lv' := [(1, .int v1_8), (0, .ref t0)]) hx hb dX3_readBirth_18 rfl hl (by decide) rfl (fun ls hl => ?_)
    refine lv_aload_n hx hb dX3_readBirth_19 rfl (lv_at hl 1 rfl) ?_
    obtain ⟨r_9, t_place_10, t_token_11, t_begin_12, t_bytes_13, t_value_14, he_14, hf⟩ := zz_b6_use hf
    refine zwVi (As := []) (rest := []) (wr := []) (wX3 c t0 tA_text d0 t_text t_length t_lines t_place_10 t_token_11 t_begin_12 t_bytes_13 t_value_14 t_parent t_otherParent ++ wX5 c d0 dA_numbers dA_syllables dA_days dA_words dA_parents dA_otherParents dA_kinds dA_hopeDays dA_hopeTenths d_numbers d_syllables d_syllableCount d_days d_words d_parents d_otherParents d_kinds d_personCount d_hopeDays d_hopeTenths d_hopeCount d_degreesTold) [0, 1, 2, 3, 4, 5, 6, 7, 8, 9, 10, 11] [] [0, 1, 2, 3, 4, 5, 6, 7, 8, 9, 10, 11] S (k_X3_readWordOrNothing l D c N t0 tA_text d0 t_text t_length t_lines t_place_2 t_token_3 t_begin_4 t_bytes_5 t_value_6 t_parent t_otherParent d0 dA_numbers dA_syllables dA_days dA_words dA_parents dA_otherParents dA_kinds dA_hopeDays dA_hopeTenths d_numbers d_syllables d_syllableCount d_days d_words d_parents d_otherParents d_kinds d_personCount d_hopeDays d_hopeTenths d_hopeCount d_degreesTold  r_9 t_place_10 t_token_11 t_begin_12 t_bytes_13 t_value_14 he_14) mi_X3_readWordOrNothing tw_2_172 ⟨(Nat.le_of_ble_eq_true rfl), (Nat.le_of_ble_eq_true rfl)⟩ ⟨rfl, rfl⟩ hP hD hS hA rfl rfl rfl rfl (by decide) rfl rfl hE hX (ci := 3) rfl rfl (q0 := 0) rfl rfl hl.1 rfl (Nat.le_of_ble_eq_true rfl) dX3_readBirth_20 ⟨(Nat.le_of_ble_eq_true rfl), (Nat.le_of_ble_eq_true rfl)⟩ (fun H locs hP hD hS => ?_)
    refine lv_if_ne (tgt := 28) hx hb dX3_readBirth_23 (by decide) (fun hc_15 => ?_) (fun hc_15 => ?_)
    · have hf := zz_if hf hc_15
      refine lv_aload_n hx hb dX3_readBirth_28 rfl (lv_at hl 1 rfl) ?_
      refine zget S uw_X3 hE hP 0 2 rfl rfl (by decide) tw_1_108 rfl rfl dX3_readBirth_29 ?_
      refine lv_aload_n hx hb dX3_readBirth_32 rfl (lv_at hl 1 rfl) ?_
      refine zget S uw_X3 hE hP 0 9 rfl rfl (by decide) tw_1_117 rfl rfl dX3_readBirth_33 ?_
      refine lv_aload_n hx hb dX3_readBirth_36 rfl (lv_at hl 1 rfl) ?_
      refine zget S uw_X3 hE hP 0 10 rfl rfl (by decide) tw_1_118 rfl rfl dX3_readBirth_37 ?_
      refine lv_iload_n hx hb dX3_readBirth_40 rfl (lv_at hl 0 rfl) ?_
      refine lv_aload_n hx hb dX3_readBirth_41 rfl (lv_at hl 1 rfl) ?_
      refine zget S uw_X3 hE hP 0 8 rfl rfl (by decide) tw_1_116 rfl rfl dX3_readBirth_42 ?_
      obtain ⟨d_days_16, d_words_17, d_parents_18, d_otherParents_19, d_kinds_20, d_personCount_21, he_21, hf⟩ := zz_b6_use hf
      refine zwVv (As := [.int t_parent, .int t_otherParent, .int v1_8, .long t_value_14]) (rest := []) (wr := (wX3 c t0 tA_text d0 t_text t_length t_lines t_place_10 t_token_11 t_begin_12 t_bytes_13 t_value_14 t_parent t_otherParent)) (wX3 c t0 tA_text d0 t_text t_length t_lines t_place_10 t_token_11 t_begin_12 t_bytes_13 t_value_14 t_parent t_otherParent ++ wX5 c d0 dA_numbers dA_syllables dA_days dA_words dA_parents dA_otherParents dA_kinds dA_hopeDays dA_hopeTenths d_numbers d_syllables d_syllableCount d_days_16 d_words_17 d_parents_18 d_otherParents_19 d_kinds_20 d_personCount_21 d_hopeDays d_hopeTenths d_hopeCount d_degreesTold) [2, 3, 4, 5, 6, 7, 8, 9, 10, 11] [0, 1] [0, 1, 2, 3, 4, 5, 6, 7, 8, 9, 10, 11] S (k_X5_addPerson l D c N d0 dA_numbers dA_syllables dA_days dA_words dA_parents dA_otherParents dA_kinds dA_hopeDays dA_hopeTenths d_numbers d_syllables d_syllableCount d_days d_words d_parents d_otherParents d_kinds d_personCount d_hopeDays d_hopeTenths d_hopeCount d_degreesTold t_parent t_otherParent v1_8 t_value_14 d_days_16 d_words_17 d_parents_18 d_otherParents_19 d_kinds_20 d_personCount_21 he_21) mi_X5_addPerson tw_2_177 ⟨(Nat.le_of_ble_eq_true rfl), (Nat.le_of_ble_eq_true rfl)⟩ ⟨rfl, rfl⟩ hP hD hS hA rfl rfl rfl rfl (by decide) rfl rfl hE hX (ci := 5) rfl rfl (q0 := 0) rfl rfl hl.1 rfl (Nat.le_of_ble_eq_true rfl) dX3_readBirth_45 ⟨(Nat.le_of_ble_eq_true rfl), (Nat.le_of_ble_eq_true rfl)⟩ (fun H locs hP hD hS => ?_)
      refine lv_iconst (v := (1 : Int32)) hx hb dX3_readBirth_48 (by decide) ?_
      cases hf
      exact zRWz hQ hx hb hr hlk rfl rfl hP hD hS dX3_readBirth_49
    · have hf := zz_it hf hc_15
      refine lv_iconst (v := (0 : Int32)) hx hb dX3_readBirth_26 (by decide) ?_
      cases hf
      exact zRWz hQ hx hb hr hlk rfl rfl hP hD hS dX3_readBirth_27
  · have hf := zz_it hf hc_7
    refine lv_iconst (v := (0 : Int32)) hx hb dX3_readBirth_11 (by decide) ?_
    cases hf
    exact zRWz hQ hx hb hr hlk rfl rfl hP hD hS dX3_readBirth_12
def f_X3_readPerson (N : Nat) (t_text : Nat → Int32) (t_length : Int32) (t_place : Int32) (d_personCount : Int32) : Option (Int32 × (Int32) × (Int32) × (Int32) × (Int32) × (Int64)) := zz_b6 (f_X3_readNumber N t_text t_length t_place (0 : Int32) (d_personCount - (1 : Int32))) (fun r_1 t_place_2 t_token_3 t_begin_4 t_bytes_5 t_value_6 => zz_gd (zz_isB r_1) ((some (r_1, t_place_2, t_token_3, t_begin_4, t_bytes_5, t_value_6))))
abbrev rm_X3_readPerson : Room := { frames := 3, cells := 0, slots := 0, locals := 64 }
theorem mi_X3_readPerson : zMI RX3 yX3_readPerson cX3_readPerson 1 (some .boolean) 0 := ⟨⟨tw_2_192, ts_X3_readPerson, tw_1_3, tw_2_193⟩, by decide +kernel, by decide +kernel, by decide +kernel⟩
set_option maxHeartbeats 4000000 in
set_option maxRecDepth 100000 in
theorem k_X3_readPerson (l : Launch) (D : va_G) (c : Nat → ClassId) (N : Nat) (t0 : Nat) (tA_text : Nat) (d0 : Nat) (t_text : Nat → Int32) (t_length : Int32) (t_lines : Int32) (t_place : Int32) (t_token : Int32) (t_begin : Int32) (t_bytes : Int32) (t_value : Int64) (t_parent : Int32) (t_otherParent : Int32) (d0_x : Nat) (dA_numbers : Nat) (dA_syllables : Nat) (dA_days : Nat) (dA_words : Nat) (dA_parents : Nat) (dA_otherParents : Nat) (dA_kinds : Nat) (dA_hopeDays : Nat) (dA_hopeTenths : Nat) (d_numbers : Nat → Int32) (d_syllables : Nat → Int64) (d_syllableCount : Int32) (d_days : Nat → Int32) (d_words : Nat → Int64) (d_parents : Nat → Int32) (d_otherParents : Nat → Int32) (d_kinds : Nat → Int32) (d_personCount : Int32) (d_hopeDays : Nat → Int32) (d_hopeTenths : Nat → Int32) (d_hopeCount : Int32) (d_degreesTold : Int32)  (o : Int32) (o_t_place : Int32) (o_t_token : Int32) (o_t_begin : Int32) (o_t_bytes : Int32) (o_t_value : Int64) (hf : f_X3_readPerson N t_text t_length t_place d_personCount = some (o, o_t_place, o_t_token, o_t_begin, o_t_bytes, o_t_value)) : zMWi l D c yX3_readPerson cX3_readPerson 1 (some .boolean) rm_X3_readPerson (wX3 c t0 tA_text d0 t_text t_length t_lines t_place t_token t_begin t_bytes t_value t_parent t_otherParent ++ wX5 c d0 dA_numbers dA_syllables dA_days dA_words dA_parents dA_otherParents dA_kinds dA_hopeDays dA_hopeTenths d_numbers d_syllables d_syllableCount d_days d_words d_parents d_otherParents d_kinds d_personCount d_hopeDays d_hopeTenths d_hopeCount d_degreesTold) (wX3 c t0 tA_text d0 t_text t_length t_lines o_t_place o_t_token o_t_begin o_t_bytes o_t_value t_parent t_otherParent ++ wX5 c d0 dA_numbers dA_syllables dA_days dA_words dA_parents dA_otherParents dA_kinds dA_hopeDays dA_hopeTenths d_numbers d_syllables d_syllableCount d_days d_words d_parents d_otherParents d_kinds d_personCount d_hopeDays d_hopeTenths d_hopeCount d_degreesTold) [.ref t0] o := by
  intro sz
  refine zIW (by decide) (Nat.le_of_ble_eq_true rfl) ?_
  intro p e s m args below meth c0 Q A hAe hQ hx hb hr hlk hml hts hown hP hE hD hS hA hsz hmn hX ls hl
  rw [← hAe] at hQ
  have S : CallFix p m c0 cX3_readPerson 1 s args zT RX3 := ⟨hx, hb, hml, hown, hts⟩
  have hl : lv_has ls 1 [(0, .ref t0)] := hl
  unfold f_X3_readPerson at hf
  refine lv_aload_n hx hb dX3_readPerson_0 rfl (lv_at hl 0 rfl) ?_
  refine lv_iconst (v := (0 : Int32)) hx hb dX3_readPerson_1 (by decide) ?_
  refine lv_aload_n hx hb dX3_readPerson_2 rfl (lv_at hl 0 rfl) ?_
  refine zget S uw_X3 hE hP 0 2 rfl rfl (by decide) tw_1_108 rfl rfl dX3_readPerson_3 ?_
  refine zget S uw_X5 hE hP 2 8 rfl rfl (by decide) tw_1_55 rfl rfl dX3_readPerson_6 ?_
  refine lv_iconst (v := (1 : Int32)) hx hb dX3_readPerson_9 (by decide) ?_
  refine lv_isub hx hb dX3_readPerson_10 ?_
  obtain ⟨r_1, t_place_2, t_token_3, t_begin_4, t_bytes_5, t_value_6, he_6, hf⟩ := zz_b6_use hf
  refine zwVi (As := [.int (0 : Int32), .int (d_personCount - (1 : Int32))]) (rest := []) (wr := []) (wX3 c t0 tA_text d0 t_text t_length t_lines t_place_2 t_token_3 t_begin_4 t_bytes_5 t_value_6 t_parent t_otherParent ++ wX5 c d0 dA_numbers dA_syllables dA_days dA_words dA_parents dA_otherParents dA_kinds dA_hopeDays dA_hopeTenths d_numbers d_syllables d_syllableCount d_days d_words d_parents d_otherParents d_kinds d_personCount d_hopeDays d_hopeTenths d_hopeCount d_degreesTold) [0, 1, 2, 3, 4, 5, 6, 7, 8, 9, 10, 11] [] [0, 1, 2, 3, 4, 5, 6, 7, 8, 9, 10, 11] S (k_X3_readNumber l D c N t0 tA_text d0 t_text t_length t_lines t_place t_token t_begin t_bytes t_value t_parent t_otherParent d0 dA_numbers dA_syllables dA_days dA_words dA_parents dA_otherParents dA_kinds dA_hopeDays dA_hopeTenths d_numbers d_syllables d_syllableCount d_days d_words d_parents d_otherParents d_kinds d_personCount d_hopeDays d_hopeTenths d_hopeCount d_degreesTold (0 : Int32) (d_personCount - (1 : Int32)) r_1 t_place_2 t_token_3 t_begin_4 t_bytes_5 t_value_6 he_6) mi_X3_readNumber tw_2_150 ⟨(Nat.le_of_ble_eq_true rfl), (Nat.le_of_ble_eq_true rfl)⟩ ⟨rfl, rfl⟩ hP hD hS hA rfl rfl rfl rfl (by decide) rfl rfl hE hX (ci := 3) rfl rfl (q0 := 0) rfl rfl hl.1 rfl (Nat.le_of_ble_eq_true rfl) dX3_readPerson_11 ⟨(Nat.le_of_ble_eq_true rfl), (Nat.le_of_ble_eq_true rfl)⟩ (fun H locs hP hD hS => ?_)
  obtain ⟨hb_7, hf⟩ := zz_gd_use hf
  cases hf
  exact zRWz hQ hx hb hr hlk (zz_isB_ok hb_7) rfl hP hD hS dX3_readPerson_14
def f_X3_readCall (N : Nat) (t_text : Nat → Int32) (t_length : Int32) (t_place : Int32) (d_words : Nat → Int64) (d_personCount : Int32) : Option (Int32 × (Int32) × (Int32) × (Int32) × (Int32) × (Int64) × (Nat → Int64)) := zz_b6 (f_X3_readPerson N t_text t_length t_place d_personCount) (fun r_1 t_place_2 t_token_3 t_begin_4 t_bytes_5 t_value_6 => (if r_1 = 0 then (some ((0 : Int32), t_place_2, t_token_3, t_begin_4, t_bytes_5, t_value_6, d_words)) else zz_let (t_value_6.toInt32) (fun v1_8 => zz_b6 (f_X3_readWordOrNothing N t_text t_length t_place_2) (fun r_9 t_place_10 t_token_11 t_begin_12 t_bytes_13 t_value_14 => (if r_9 = 0 then (some ((0 : Int32), t_place_10, t_token_11, t_begin_12, t_bytes_13, t_value_14, d_words)) else zz_gd (zz_in v1_8 16) (zz_let (vp_updL d_words v1_8.toNatClampNeg t_value_14) (fun d_words_17 => (some ((1 : Int32), t_place_10, t_token_11, t_begin_12, t_bytes_13, t_value_14, d_words_17)))))))))
abbrev rm_X3_readCall : Room := { frames := 4, cells := 0, slots := 0, locals := 84 }
theorem mi_X3_readCall : zMI RX3 yX3_readCall cX3_readCall 2 (some .boolean) 0 := ⟨⟨tw_2_197, ts_X3_readCall, tw_1_3, tw_2_198⟩, by decide +kernel, by decide +kernel, by decide +kernel⟩
set_option maxHeartbeats 4000000 in
set_option maxRecDepth 100000 in
theorem k_X3_readCall (l : Launch) (D : va_G) (c : Nat → ClassId) (N : Nat) (t0 : Nat) (tA_text : Nat) (d0 : Nat) (t_text : Nat → Int32) (t_length : Int32) (t_lines : Int32) (t_place : Int32) (t_token : Int32) (t_begin : Int32) (t_bytes : Int32) (t_value : Int64) (t_parent : Int32) (t_otherParent : Int32) (d0_x : Nat) (dA_numbers : Nat) (dA_syllables : Nat) (dA_days : Nat) (dA_words : Nat) (dA_parents : Nat) (dA_otherParents : Nat) (dA_kinds : Nat) (dA_hopeDays : Nat) (dA_hopeTenths : Nat) (d_numbers : Nat → Int32) (d_syllables : Nat → Int64) (d_syllableCount : Int32) (d_days : Nat → Int32) (d_words : Nat → Int64) (d_parents : Nat → Int32) (d_otherParents : Nat → Int32) (d_kinds : Nat → Int32) (d_personCount : Int32) (d_hopeDays : Nat → Int32) (d_hopeTenths : Nat → Int32) (d_hopeCount : Int32) (d_degreesTold : Int32)  (o : Int32) (o_t_place : Int32) (o_t_token : Int32) (o_t_begin : Int32) (o_t_bytes : Int32) (o_t_value : Int64) (o_d_words : Nat → Int64) (hf : f_X3_readCall N t_text t_length t_place d_words d_personCount = some (o, o_t_place, o_t_token, o_t_begin, o_t_bytes, o_t_value, o_d_words)) : zMWi l D c yX3_readCall cX3_readCall 2 (some .boolean) rm_X3_readCall (wX3 c t0 tA_text d0 t_text t_length t_lines t_place t_token t_begin t_bytes t_value t_parent t_otherParent ++ wX5 c d0 dA_numbers dA_syllables dA_days dA_words dA_parents dA_otherParents dA_kinds dA_hopeDays dA_hopeTenths d_numbers d_syllables d_syllableCount d_days d_words d_parents d_otherParents d_kinds d_personCount d_hopeDays d_hopeTenths d_hopeCount d_degreesTold) (wX3 c t0 tA_text d0 t_text t_length t_lines o_t_place o_t_token o_t_begin o_t_bytes o_t_value t_parent t_otherParent ++ wX5 c d0 dA_numbers dA_syllables dA_days dA_words dA_parents dA_otherParents dA_kinds dA_hopeDays dA_hopeTenths d_numbers d_syllables d_syllableCount d_days o_d_words d_parents d_otherParents d_kinds d_personCount d_hopeDays d_hopeTenths d_hopeCount d_degreesTold) [.ref t0] o := by
  intro sz
  refine zIW (by decide) (Nat.le_of_ble_eq_true rfl) ?_
  intro p e s m args below meth c0 Q A hAe hQ hx hb hr hlk hml hts hown hP hE hD hS hA hsz hmn hX ls hl
  rw [← hAe] at hQ
  have S : CallFix p m c0 cX3_readCall 2 s args zT RX3 := ⟨hx, hb, hml, hown, hts⟩
  have hl : lv_has ls 2 [(0, .ref t0)] := hl
  unfold f_X3_readCall at hf
  refine lv_aload_n hx hb dX3_readCall_0 rfl (lv_at hl 0 rfl) ?_
  obtain ⟨r_1, t_place_2, t_token_3, t_begin_4, t_bytes_5, t_value_6, he_6, hf⟩ := zz_b6_use hf
  refine zwVi (As := []) (rest := []) (wr := []) (wX3 c t0 tA_text d0 t_text t_length t_lines t_place_2 t_token_3 t_begin_4 t_bytes_5 t_value_6 t_parent t_otherParent ++ wX5 c d0 dA_numbers dA_syllables dA_days dA_words dA_parents dA_otherParents dA_kinds dA_hopeDays dA_hopeTenths d_numbers d_syllables d_syllableCount d_days d_words d_parents d_otherParents d_kinds d_personCount d_hopeDays d_hopeTenths d_hopeCount d_degreesTold) [0, 1, 2, 3, 4, 5, 6, 7, 8, 9, 10, 11] [] [0, 1, 2, 3, 4, 5, 6, 7, 8, 9, 10, 11] S (k_X3_readPerson l D c N t0 tA_text d0 t_text t_length t_lines t_place t_token t_begin t_bytes t_value t_parent t_otherParent d0 dA_numbers dA_syllables dA_days dA_words dA_parents dA_otherParents dA_kinds dA_hopeDays dA_hopeTenths d_numbers d_syllables d_syllableCount d_days d_words d_parents d_otherParents d_kinds d_personCount d_hopeDays d_hopeTenths d_hopeCount d_degreesTold  r_1 t_place_2 t_token_3 t_begin_4 t_bytes_5 t_value_6 he_6) mi_X3_readPerson tw_2_190 ⟨(Nat.le_of_ble_eq_true rfl), (Nat.le_of_ble_eq_true rfl)⟩ ⟨rfl, rfl⟩ hP hD hS hA rfl rfl rfl rfl (by decide) rfl rfl hE hX (ci := 3) rfl rfl (q0 := 0) rfl rfl hl.1 rfl (Nat.le_of_ble_eq_true rfl) dX3_readCall_1 ⟨(Nat.le_of_ble_eq_true rfl), (Nat.le_of_ble_eq_true rfl)⟩ (fun H locs hP hD hS => ?_)
  refine lv_if_ne (tgt := 9) hx hb dX3_readCall_4 (by decide) (fun hc_7 => ?_) (fun hc_7 => ?_)
  · have hf := zz_if hf hc_7
    refine lv_aload_n hx hb dX3_readCall_9 rfl (lv_at hl 0 rfl) ?_
    refine zget S uw_X3 hE hP 0 8 rfl rfl (by decide) tw_1_116 rfl rfl dX3_readCall_10 ?_
    refine lv_l2i (v := t_value_6.toInt32) hx hb dX3_readCall_13 rfl ?_
    obtain ⟨v1_8, ev1_8, hf⟩ := zz_let_use hf
    refine zti ev1_8 ?_
    refine lv_istore_n (lv' := [(1, .int v1_8), (0, .ref t0)]) hx hb dX3_readCall_14 rfl hl (by decide) rfl (fun ls hl => ?_)
    refine lv_aload_n hx hb dX3_readCall_15 rfl (lv_at hl 1 rfl) ?_
    obtain ⟨r_9, t_place_10, t_token_11, t_begin_12, t_bytes_13, t_value_14, he_14, hf⟩ := zz_b6_use hf
    refine zwVi (As := []) (rest := []) (wr := []) (wX3 c t0 tA_text d0 t_text t_length t_lines t_place_10 t_token_11 t_begin_12 t_bytes_13 t_value_14 t_parent t_otherParent ++ wX5 c d0 dA_numbers dA_syllables dA_days dA_words dA_parents dA_otherParents dA_kinds dA_hopeDays dA_hopeTenths d_numbers d_syllables d_syllableCount d_days d_words d_parents d_otherParents d_kinds d_personCount d_hopeDays d_hopeTenths d_hopeCount d_degreesTold) [0, 1, 2, 3, 4, 5, 6, 7, 8, 9, 10, 11] [] [0, 1, 2, 3, 4, 5, 6, 7, 8, 9, 10, 11] S (k_X3_readWordOrNothing l D c N t0 tA_text d0 t_text t_length t_lines t_place_2 t_token_3 t_begin_4 t_bytes_5 t_value_6 t_parent t_otherParent d0 dA_numbers dA_syllables dA_days dA_words dA_parents dA_otherParents dA_kinds dA_hopeDays dA_hopeTenths d_numbers d_syllables d_syllableCount d_days d_words d_parents d_otherParents d_kinds d_personCount d_hopeDays d_hopeTenths d_hopeCount d_degreesTold  r_9 t_place_10 t_token_11 t_begin_12 t_bytes_13 t_value_14 he_14) mi_X3_readWordOrNothing tw_2_172 ⟨(Nat.le_of_ble_eq_true rfl), (Nat.le_of_ble_eq_true rfl)⟩ ⟨rfl, rfl⟩ hP hD hS hA rfl rfl rfl rfl (by decide) rfl rfl hE hX (ci := 3) rfl rfl (q0 := 0) rfl rfl hl.1 rfl (Nat.le_of_ble_eq_true rfl) dX3_readCall_16 ⟨(Nat.le_of_ble_eq_true rfl), (Nat.le_of_ble_eq_true rfl)⟩ (fun H locs hP hD hS => ?_)
    refine lv_if_ne (tgt := 24) hx hb dX3_readCall_19 (by decide) (fun hc_15 => ?_) (fun hc_15 => ?_)
    · have hf := zz_if hf hc_15
      refine lv_aload_n hx hb dX3_readCall_24 rfl (lv_at hl 1 rfl) ?_
      refine zget S uw_X3 hE hP 0 2 rfl rfl (by decide) tw_1_108 rfl rfl dX3_readCall_25 ?_
      refine zget S uw_X5 hE hP 2 4 rfl rfl (by decide) tw_1_46 rfl rfl dX3_readCall_28 ?_
      refine lv_iload_n hx hb dX3_readCall_31 rfl (lv_at hl 0 rfl) ?_
      refine lv_aload_n hx hb dX3_readCall_32 rfl (lv_at hl 1 rfl) ?_
      refine zget S uw_X3 hE hP 0 8 rfl rfl (by decide) tw_1_116 rfl rfl dX3_readCall_33 ?_
      obtain ⟨hin_16, hf⟩ := zz_gd_use hf
      obtain ⟨d_words_17, ed_words_17, hf⟩ := zz_let_use hf
      refine zlst hx hb hE hP hD hS 6 (wX3 c t0 tA_text d0 t_text t_length t_lines t_place_10 t_token_11 t_begin_12 t_bytes_13 t_value_14 t_parent t_otherParent ++ wX5 c d0 dA_numbers dA_syllables dA_days dA_words dA_parents dA_otherParents dA_kinds dA_hopeDays dA_hopeTenths d_numbers d_syllables d_syllableCount d_days d_words_17 d_parents d_otherParents d_kinds d_personCount d_hopeDays d_hopeTenths d_hopeCount d_degreesTold) rfl rfl ed_words_17 (zz_in_ok hin_16) dX3_readCall_36 (fun H locs hP hD hS => ?_)
      refine lv_iconst (v := (1 : Int32)) hx hb dX3_readCall_37 (by decide) ?_
      cases hf
      exact zRWz hQ hx hb hr hlk rfl rfl hP hD hS dX3_readCall_38
    · have hf := zz_it hf hc_15
      refine lv_iconst (v := (0 : Int32)) hx hb dX3_readCall_22 (by decide) ?_
      cases hf
      exact zRWz hQ hx hb hr hlk rfl rfl hP hD hS dX3_readCall_23
  · have hf := zz_it hf hc_7
    refine lv_iconst (v := (0 : Int32)) hx hb dX3_readCall_7 (by decide) ?_
    cases hf
    exact zRWz hQ hx hb hr hlk rfl rfl hP hD hS dX3_readCall_8
def f_X3_readDegrees (N : Nat) (t_text : Nat → Int32) (t_length : Int32) (t_place : Int32) (d_degreesTold : Int32) : Option (Int32 × (Int32) × (Int32) × (Int32) × (Int32) × (Int64) × (Int32)) := zz_b6 (f_X3_readNumber N t_text t_length t_place (1 : Int32) (4 : Int32)) (fun r_1 t_place_2 t_token_3 t_begin_4 t_bytes_5 t_value_6 => (if r_1 = 0 then (some ((0 : Int32), t_place_2, t_token_3, t_begin_4, t_bytes_5, t_value_6, d_degreesTold)) else zz_let (t_value_6.toInt32) (fun d_degreesTold_8 => (some ((1 : Int32), t_place_2, t_token_3, t_begin_4, t_bytes_5, t_value_6, d_degreesTold_8)))))
abbrev rm_X3_readDegrees : Room := { frames := 3, cells := 0, slots := 0, locals := 64 }
theorem mi_X3_readDegrees : zMI RX3 yX3_readDegrees cX3_readDegrees 1 (some .boolean) 0 := ⟨⟨tw_2_211, ts_X3_readDegrees, tw_1_3, tw_2_212⟩, by decide +kernel, by decide +kernel, by decide +kernel⟩
set_option maxHeartbeats 4000000 in
set_option maxRecDepth 100000 in
theorem k_X3_readDegrees (l : Launch) (D : va_G) (c : Nat → ClassId) (N : Nat) (t0 : Nat) (tA_text : Nat) (d0 : Nat) (t_text : Nat → Int32) (t_length : Int32) (t_lines : Int32) (t_place : Int32) (t_token : Int32) (t_begin : Int32) (t_bytes : Int32) (t_value : Int64) (t_parent : Int32) (t_otherParent : Int32) (d0_x : Nat) (dA_numbers : Nat) (dA_syllables : Nat) (dA_days : Nat) (dA_words : Nat) (dA_parents : Nat) (dA_otherParents : Nat) (dA_kinds : Nat) (dA_hopeDays : Nat) (dA_hopeTenths : Nat) (d_numbers : Nat → Int32) (d_syllables : Nat → Int64) (d_syllableCount : Int32) (d_days : Nat → Int32) (d_words : Nat → Int64) (d_parents : Nat → Int32) (d_otherParents : Nat → Int32) (d_kinds : Nat → Int32) (d_personCount : Int32) (d_hopeDays : Nat → Int32) (d_hopeTenths : Nat → Int32) (d_hopeCount : Int32) (d_degreesTold : Int32)  (o : Int32) (o_t_place : Int32) (o_t_token : Int32) (o_t_begin : Int32) (o_t_bytes : Int32) (o_t_value : Int64) (o_d_degreesTold : Int32) (hf : f_X3_readDegrees N t_text t_length t_place d_degreesTold = some (o, o_t_place, o_t_token, o_t_begin, o_t_bytes, o_t_value, o_d_degreesTold)) : zMWi l D c yX3_readDegrees cX3_readDegrees 1 (some .boolean) rm_X3_readDegrees (wX3 c t0 tA_text d0 t_text t_length t_lines t_place t_token t_begin t_bytes t_value t_parent t_otherParent ++ wX5 c d0 dA_numbers dA_syllables dA_days dA_words dA_parents dA_otherParents dA_kinds dA_hopeDays dA_hopeTenths d_numbers d_syllables d_syllableCount d_days d_words d_parents d_otherParents d_kinds d_personCount d_hopeDays d_hopeTenths d_hopeCount d_degreesTold) (wX3 c t0 tA_text d0 t_text t_length t_lines o_t_place o_t_token o_t_begin o_t_bytes o_t_value t_parent t_otherParent ++ wX5 c d0 dA_numbers dA_syllables dA_days dA_words dA_parents dA_otherParents dA_kinds dA_hopeDays dA_hopeTenths d_numbers d_syllables d_syllableCount d_days d_words d_parents d_otherParents d_kinds d_personCount d_hopeDays d_hopeTenths d_hopeCount o_d_degreesTold) [.ref t0] o := by
  intro sz
  refine zIW (by decide) (Nat.le_of_ble_eq_true rfl) ?_
  intro p e s m args below meth c0 Q A hAe hQ hx hb hr hlk hml hts hown hP hE hD hS hA hsz hmn hX ls hl
  rw [← hAe] at hQ
  have S : CallFix p m c0 cX3_readDegrees 1 s args zT RX3 := ⟨hx, hb, hml, hown, hts⟩
  have hl : lv_has ls 1 [(0, .ref t0)] := hl
  unfold f_X3_readDegrees at hf
  refine lv_aload_n hx hb dX3_readDegrees_0 rfl (lv_at hl 0 rfl) ?_
  refine lv_iconst (v := (1 : Int32)) hx hb dX3_readDegrees_1 (by decide) ?_
  refine lv_iconst (v := (4 : Int32)) hx hb dX3_readDegrees_2 (by decide) ?_
  obtain ⟨r_1, t_place_2, t_token_3, t_begin_4, t_bytes_5, t_value_6, he_6, hf⟩ := zz_b6_use hf
  refine zwVi (As := [.int (1 : Int32), .int (4 : Int32)]) (rest := []) (wr := []) (wX3 c t0 tA_text d0 t_text t_length t_lines t_place_2 t_token_3 t_begin_4 t_bytes_5 t_value_6 t_parent t_otherParent ++ wX5 c d0 dA_numbers dA_syllables dA_days dA_words dA_parents dA_otherParents dA_kinds dA_hopeDays dA_hopeTenths d_numbers d_syllables d_syllableCount d_days d_words d_parents d_otherParents d_kinds d_personCount d_hopeDays d_hopeTenths d_hopeCount d_degreesTold) [0, 1, 2, 3, 4, 5, 6, 7, 8, 9, 10, 11] [] [0, 1, 2, 3, 4, 5, 6, 7, 8, 9, 10, 11] S (k_X3_readNumber l D c N t0 tA_text d0 t_text t_length t_lines t_place t_token t_begin t_bytes t_value t_parent t_otherParent d0 dA_numbers dA_syllables dA_days dA_words dA_parents dA_otherParents dA_kinds dA_hopeDays dA_hopeTenths d_numbers d_syllables d_syllableCount d_days d_words d_parents d_otherParents d_kinds d_personCount d_hopeDays d_hopeTenths d_hopeCount d_degreesTold (1 : Int32) (4 : Int32) r_1 t_place_2 t_token_3 t_begin_4 t_bytes_5 t_value_6 he_6) mi_X3_readNumber tw_2_150 ⟨(Nat.le_of_ble_eq_true rfl), (Nat.le_of_ble_eq_true rfl)⟩ ⟨rfl, rfl⟩ hP hD hS hA rfl rfl rfl rfl (by decide) rfl rfl hE hX (ci := 3) rfl rfl (q0 := 0) rfl rfl hl.1 rfl (Nat.le_of_ble_eq_true rfl) dX3_readDegrees_3 ⟨(Nat.le_of_ble_eq_true rfl), (Nat.le_of_ble_eq_true rfl)⟩ (fun H locs hP hD hS => ?_)
  refine lv_if_ne (tgt := 11) hx hb dX3_readDegrees_6 (by decide) (fun hc_7 => ?_) (fun hc_7 => ?_)
  · have hf := zz_if hf hc_7
    refine lv_aload_n hx hb dX3_readDegrees_11 rfl (lv_at hl 0 rfl) ?_
    refine zget S uw_X3 hE hP 0 2 rfl rfl (by decide) tw_1_108 rfl rfl dX3_readDegrees_12 ?_
    refine lv_aload_n hx hb dX3_readDegrees_15 rfl (lv_at hl 0 rfl) ?_
    refine zget S uw_X3 hE hP 0 8 rfl rfl (by decide) tw_1_116 rfl rfl dX3_readDegrees_16 ?_
    refine lv_l2i (v := t_value_6.toInt32) hx hb dX3_readDegrees_19 rfl ?_
    obtain ⟨d_degreesTold_8, ed_degreesTold_8, hf⟩ := zz_let_use hf
    refine zti ed_degreesTold_8 ?_
    refine zput S uw_X5 tyX5_ok nmX5 hE hP hD hS 2 12 (ty := .int) (wX3 c t0 tA_text d0 t_text t_length t_lines t_place_2 t_token_3 t_begin_4 t_bytes_5 t_value_6 t_parent t_otherParent ++ wX5 c d0 dA_numbers dA_syllables dA_days dA_words dA_parents dA_otherParents dA_kinds dA_hopeDays dA_hopeTenths d_numbers d_syllables d_syllableCount d_days d_words d_parents d_otherParents d_kinds d_personCount d_hopeDays d_hopeTenths d_hopeCount d_degreesTold_8) rfl rfl (by decide) tw_1_65 rfl rfl (by decide +kernel) rfl rfl (Nat.le_of_ble_eq_true rfl) rfl dX3_readDegrees_20 (fun H locs hP hD hS => ?_)
    refine lv_iconst (v := (1 : Int32)) hx hb dX3_readDegrees_23 (by decide) ?_
    cases hf
    exact zRWz hQ hx hb hr hlk rfl rfl hP hD hS dX3_readDegrees_24
  · have hf := zz_it hf hc_7
    refine lv_iconst (v := (0 : Int32)) hx hb dX3_readDegrees_9 (by decide) ?_
    cases hf
    exact zRWz hQ hx hb hr hlk rfl rfl hP hD hS dX3_readDegrees_10
def f_X3_readForget (N : Nat)  : Option (Int32 × (Int32) × (Int32) × (Int32)) := zz_b3 (f_X5_forgetAll N) (fun d_syllableCount_1 d_personCount_2 d_hopeCount_3 => (some ((1 : Int32), d_syllableCount_1, d_personCount_2, d_hopeCount_3)))
abbrev rm_X3_readForget : Room := { frames := 1, cells := 0, slots := 0, locals := 20 }
theorem mi_X3_readForget : zMI RX3 yX3_readForget cX3_readForget 1 (some .boolean) 0 := ⟨⟨tw_2_216, ts_X3_readForget, tw_1_3, tw_2_217⟩, by decide +kernel, by decide +kernel, by decide +kernel⟩
set_option maxHeartbeats 4000000 in
set_option maxRecDepth 100000 in
theorem k_X3_readForget (l : Launch) (D : va_G) (c : Nat → ClassId) (N : Nat) (t0 : Nat) (tA_text : Nat) (d0 : Nat) (t_text : Nat → Int32) (t_length : Int32) (t_lines : Int32) (t_place : Int32) (t_token : Int32) (t_begin : Int32) (t_bytes : Int32) (t_value : Int64) (t_parent : Int32) (t_otherParent : Int32) (d0_x : Nat) (dA_numbers : Nat) (dA_syllables : Nat) (dA_days : Nat) (dA_words : Nat) (dA_parents : Nat) (dA_otherParents : Nat) (dA_kinds : Nat) (dA_hopeDays : Nat) (dA_hopeTenths : Nat) (d_numbers : Nat → Int32) (d_syllables : Nat → Int64) (d_syllableCount : Int32) (d_days : Nat → Int32) (d_words : Nat → Int64) (d_parents : Nat → Int32) (d_otherParents : Nat → Int32) (d_kinds : Nat → Int32) (d_personCount : Int32) (d_hopeDays : Nat → Int32) (d_hopeTenths : Nat → Int32) (d_hopeCount : Int32) (d_degreesTold : Int32)  (o : Int32) (o_d_syllableCount : Int32) (o_d_personCount : Int32) (o_d_hopeCount : Int32) (hf : f_X3_readForget N  = some (o, o_d_syllableCount, o_d_personCount, o_d_hopeCount)) : zMWi l D c yX3_readForget cX3_readForget 1 (some .boolean) rm_X3_readForget (wX3 c t0 tA_text d0 t_text t_length t_lines t_place t_token t_begin t_bytes t_value t_parent t_otherParent ++ wX5 c d0 dA_numbers dA_syllables dA_days dA_words dA_parents dA_otherParents dA_kinds dA_hopeDays dA_hopeTenths d_numbers d_syllables d_syllableCount d_days d_words d_parents d_otherParents d_kinds d_personCount d_hopeDays d_hopeTenths d_hopeCount d_degreesTold) (wX3 c t0 tA_text d0 t_text t_length t_lines t_place t_token t_begin t_bytes t_value t_parent t_otherParent ++ wX5 c d0 dA_numbers dA_syllables dA_days dA_words dA_parents dA_otherParents dA_kinds dA_hopeDays dA_hopeTenths d_numbers d_syllables o_d_syllableCount d_days d_words d_parents d_otherParents d_kinds o_d_personCount d_hopeDays d_hopeTenths o_d_hopeCount d_degreesTold) [.ref t0] o := by
  intro sz
  refine zIW (by decide) (Nat.le_of_ble_eq_true rfl) ?_
  intro p e s m args below meth c0 Q A hAe hQ hx hb hr hlk hml hts hown hP hE hD hS hA hsz hmn hX ls hl
  rw [← hAe] at hQ
  have S : CallFix p m c0 cX3_readForget 1 s args zT RX3 := ⟨hx, hb, hml, hown, hts⟩
  have hl : lv_has ls 1 [(0, .ref t0)] := hl
  unfold f_X3_readForget at hf
  refine lv_aload_n hx hb dX3_readForget_0 rfl (lv_at hl 0 rfl) ?_
  refine zget S uw_X3 hE hP 0 2 rfl rfl (by decide) tw_1_108 rfl rfl dX3_readForget_1 ?_
  obtain ⟨d_syllableCount_1, d_personCount_2, d_hopeCount_3, he_3, hf⟩ := zz_b3_use hf
  refine zwVv (As := []) (rest := []) (wr := (wX3 c t0 tA_text d0 t_text t_length t_lines t_place t_token t_begin t_bytes t_value t_parent t_otherParent)) (wX3 c t0 tA_text d0 t_text t_length t_lines t_place t_token t_begin t_bytes t_value t_parent t_otherParent ++ wX5 c d0 dA_numbers dA_syllables dA_days dA_words dA_parents dA_otherParents dA_kinds dA_hopeDays dA_hopeTenths d_numbers d_syllables d_syllableCount_1 d_days d_words d_parents d_otherParents d_kinds d_personCount_2 d_hopeDays d_hopeTenths d_hopeCount_3 d_degreesTold) [2, 3, 4, 5, 6, 7, 8, 9, 10, 11] [0, 1] [0, 1, 2, 3, 4, 5, 6, 7, 8, 9, 10, 11] S (k_X5_forgetAll l D c N d0 dA_numbers dA_syllables dA_days dA_words dA_parents dA_otherParents dA_kinds dA_hopeDays dA_hopeTenths d_numbers d_syllables d_syllableCount d_days d_words d_parents d_otherParents d_kinds d_personCount d_hopeDays d_hopeTenths d_hopeCount d_degreesTold  d_syllableCount_1 d_personCount_2 d_hopeCount_3 he_3) mi_X5_forgetAll tw_2_218 ⟨(Nat.le_of_ble_eq_true rfl), (Nat.le_of_ble_eq_true rfl)⟩ ⟨rfl, rfl⟩ hP hD hS hA rfl rfl rfl rfl (by decide) rfl rfl hE hX (ci := 5) rfl rfl (q0 := 0) rfl rfl hl.1 rfl (Nat.le_of_ble_eq_true rfl) dX3_readForget_4 ⟨(Nat.le_of_ble_eq_true rfl), (Nat.le_of_ble_eq_true rfl)⟩ (fun H locs hP hD hS => ?_)
  refine lv_iconst (v := (1 : Int32)) hx hb dX3_readForget_7 (by decide) ?_
  cases hf
  exact zRWz hQ hx hb hr hlk rfl rfl hP hD hS dX3_readForget_8
def f_X3_readHope (N : Nat) (t_text : Nat → Int32) (t_length : Int32) (t_place : Int32) (t_token : Int32) (t_begin : Int32) (t_bytes : Int32) (t_value : Int64) (d_hopeDays : Nat → Int32) (d_hopeTenths : Nat → Int32) (d_hopeCount : Int32) : Option (Int32 × (Int32) × (Int32) × (Int32) × (Int32) × (Int64) × (Nat → Int32) × (Nat → Int32) × (Int32)) := (if (6 : Int32) ≤ d_hopeCount then (some ((0 : Int32), t_place, t_token, t_begin, t_bytes, t_value, d_hopeDays, d_hopeTenths, d_hopeCount)) else zz_b6 (f_X3_readNumber N t_text t_length t_place (1 : Int32) (400 : Int32)) (fun r_2 t_place_3 t_token_4 t_begin_5 t_bytes_6 t_value_7 => (if r_2 = 0 then (some ((0 : Int32), t_place_3, t_token_4, t_begin_5, t_bytes_6, t_value_7, d_hopeDays, d_hopeTenths, d_hopeCount)) else zz_let (t_value_7.toInt32) (fun v1_9 => zz_b6 (f_X3_readNumber N t_text t_length t_place_3 (0 : Int32) (10 : Int32)) (fun r_10 t_place_11 t_token_12 t_begin_13 t_bytes_14 t_value_15 => (if r_10 = 0 then (some ((0 : Int32), t_place_11, t_token_12, t_begin_13, t_bytes_14, t_value_15, d_hopeDays, d_hopeTenths, d_hopeCount)) else zz_b3 (f_X5_addHope N d_hopeDays d_hopeTenths d_hopeCount v1_9 t_value_15.toInt32) (fun d_hopeDays_17 d_hopeTenths_18 d_hopeCount_19 => (some ((1 : Int32), t_place_11, t_token_12, t_begin_13, t_bytes_14, t_value_15, d_hopeDays_17, d_hopeTenths_18, d_hopeCount_19)))))))))
abbrev rm_X3_readHope : Room := { frames := 3, cells := 0, slots := 0, locals := 64 }
theorem mi_X3_readHope : zMI RX3 yX3_readHope cX3_readHope 2 (some .boolean) 0 := ⟨⟨tw_2_202, ts_X3_readHope, tw_1_3, tw_2_203⟩, by decide +kernel, by decide +kernel, by decide +kernel⟩
set_option maxHeartbeats 4000000 in
set_option maxRecDepth 100000 in
theorem k_X3_readHope (l : Launch) (D : va_G) (c : Nat → ClassId) (N : Nat) (t0 : Nat) (tA_text : Nat) (d0 : Nat) (t_text : Nat → Int32) (t_length : Int32) (t_lines : Int32) (t_place : Int32) (t_token : Int32) (t_begin : Int32) (t_bytes : Int32) (t_value : Int64) (t_parent : Int32) (t_otherParent : Int32) (d0_x : Nat) (dA_numbers : Nat) (dA_syllables : Nat) (dA_days : Nat) (dA_words : Nat) (dA_parents : Nat) (dA_otherParents : Nat) (dA_kinds : Nat) (dA_hopeDays : Nat) (dA_hopeTenths : Nat) (d_numbers : Nat → Int32) (d_syllables : Nat → Int64) (d_syllableCount : Int32) (d_days : Nat → Int32) (d_words : Nat → Int64) (d_parents : Nat → Int32) (d_otherParents : Nat → Int32) (d_kinds : Nat → Int32) (d_personCount : Int32) (d_hopeDays : Nat → Int32) (d_hopeTenths : Nat → Int32) (d_hopeCount : Int32) (d_degreesTold : Int32)  (o : Int32) (o_t_place : Int32) (o_t_token : Int32) (o_t_begin : Int32) (o_t_bytes : Int32) (o_t_value : Int64) (o_d_hopeDays : Nat → Int32) (o_d_hopeTenths : Nat → Int32) (o_d_hopeCount : Int32) (hf : f_X3_readHope N t_text t_length t_place t_token t_begin t_bytes t_value d_hopeDays d_hopeTenths d_hopeCount = some (o, o_t_place, o_t_token, o_t_begin, o_t_bytes, o_t_value, o_d_hopeDays, o_d_hopeTenths, o_d_hopeCount)) : zMWi l D c yX3_readHope cX3_readHope 2 (some .boolean) rm_X3_readHope (wX3 c t0 tA_text d0 t_text t_length t_lines t_place t_token t_begin t_bytes t_value t_parent t_otherParent ++ wX5 c d0 dA_numbers dA_syllables dA_days dA_words dA_parents dA_otherParents dA_kinds dA_hopeDays dA_hopeTenths d_numbers d_syllables d_syllableCount d_days d_words d_parents d_otherParents d_kinds d_personCount d_hopeDays d_hopeTenths d_hopeCount d_degreesTold) (wX3 c t0 tA_text d0 t_text t_length t_lines o_t_place o_t_token o_t_begin o_t_bytes o_t_value t_parent t_otherParent ++ wX5 c d0 dA_numbers dA_syllables dA_days dA_words dA_parents dA_otherParents dA_kinds dA_hopeDays dA_hopeTenths d_numbers d_syllables d_syllableCount d_days d_words d_parents d_otherParents d_kinds d_personCount o_d_hopeDays o_d_hopeTenths o_d_hopeCount d_degreesTold) [.ref t0] o := by
  intro sz
  refine zIW (by decide) (Nat.le_of_ble_eq_true rfl) ?_
  intro p e s m args below meth c0 Q A hAe hQ hx hb hr hlk hml hts hown hP hE hD hS hA hsz hmn hX ls hl
  rw [← hAe] at hQ
  have S : CallFix p m c0 cX3_readHope 2 s args zT RX3 := ⟨hx, hb, hml, hown, hts⟩
  have hl : lv_has ls 2 [(0, .ref t0)] := hl
  unfold f_X3_readHope at hf
  refine lv_aload_n hx hb dX3_readHope_0 rfl (lv_at hl 0 rfl) ?_
  refine zget S uw_X3 hE hP 0 2 rfl rfl (by decide) tw_1_108 rfl rfl dX3_readHope_1 ?_
  refine zget S uw_X5 hE hP 2 11 rfl rfl (by decide) tw_1_62 rfl rfl dX3_readHope_4 ?_
  refine lv_bipush (v := (6 : Int32)) hx hb dX3_readHope_7 (by decide) ?_
  refine lv_icmp_ge (tgt := 23) hx hb dX3_readHope_9 (by decide) (fun hc_1 => ?_) (fun hc_1 => ?_)
  · have hf := zz_it hf hc_1
    refine lv_iconst (v := (0 : Int32)) hx hb dX3_readHope_23 (by decide) ?_
    cases hf
    exact zRWz hQ hx hb hr hlk rfl rfl hP hD hS dX3_readHope_24
  · have hf := zz_if hf hc_1
    refine lv_aload_n hx hb dX3_readHope_12 rfl (lv_at hl 0 rfl) ?_
    refine lv_iconst (v := (1 : Int32)) hx hb dX3_readHope_13 (by decide) ?_
    refine lv_sipush (v := (400 : Int32)) hx hb dX3_readHope_14 (by decide) ?_
    obtain ⟨r_2, t_place_3, t_token_4, t_begin_5, t_bytes_6, t_value_7, he_7, hf⟩ := zz_b6_use hf
    refine zwVi (As := [.int (1 : Int32), .int (400 : Int32)]) (rest := []) (wr := []) (wX3 c t0 tA_text d0 t_text t_length t_lines t_place_3 t_token_4 t_begin_5 t_bytes_6 t_value_7 t_parent t_otherParent ++ wX5 c d0 dA_numbers dA_syllables dA_days dA_words dA_parents dA_otherParents dA_kinds dA_hopeDays dA_hopeTenths d_numbers d_syllables d_syllableCount d_days d_words d_parents d_otherParents d_kinds d_personCount d_hopeDays d_hopeTenths d_hopeCount d_degreesTold) [0, 1, 2, 3, 4, 5, 6, 7, 8, 9, 10, 11] [] [0, 1, 2, 3, 4, 5, 6, 7, 8, 9, 10, 11] S (k_X3_readNumber l D c N t0 tA_text d0 t_text t_length t_lines t_place t_token t_begin t_bytes t_value t_parent t_otherParent d0 dA_numbers dA_syllables dA_days dA_words dA_parents dA_otherParents dA_kinds dA_hopeDays dA_hopeTenths d_numbers d_syllables d_syllableCount d_days d_words d_parents d_otherParents d_kinds d_personCount d_hopeDays d_hopeTenths d_hopeCount d_degreesTold (1 : Int32) (400 : Int32) r_2 t_place_3 t_token_4 t_begin_5 t_bytes_6 t_value_7 he_7) mi_X3_readNumber tw_2_150 ⟨(Nat.le_of_ble_eq_true rfl), (Nat.le_of_ble_eq_true rfl)⟩ ⟨rfl, rfl⟩ hP hD hS hA rfl rfl rfl rfl (by decide) rfl rfl hE hX (ci := 3) rfl rfl (q0 := 0) rfl rfl hl.1 rfl (Nat.le_of_ble_eq_true rfl) dX3_readHope_17 ⟨(Nat.le_of_ble_eq_true rfl), (Nat.le_of_ble_eq_true rfl)⟩ (fun H locs hP hD hS => ?_)
    refine lv_if_ne (tgt := 25) hx hb dX3_readHope_20 (by decide) (fun hc_8 => ?_) (fun hc_8 => ?_)
    · have hf := zz_if hf hc_8
      refine lv_aload_n hx hb dX3_readHope_25 rfl (lv_at hl 0 rfl) ?_
      refine zget S uw_X3 hE hP 0 8 rfl rfl (by decide) tw_1_116 rfl rfl dX3_readHope_26 ?_
      refine lv_l2i (v := t_value_7.toInt32) hx hb dX3_readHope_29 rfl ?_
      obtain ⟨v1_9, ev1_9, hf⟩ := zz_let_use hf
      refine zti ev1_9 ?_
      refine lv_istore_n (lv' := [(1, .int v1_9), (0, .ref t0)]) hx hb dX3_readHope_30 rfl hl (by decide) rfl (fun ls hl => ?_)
      refine lv_aload_n hx hb dX3_readHope_31 rfl (lv_at hl 1 rfl) ?_
      refine lv_iconst (v := (0 : Int32)) hx hb dX3_readHope_32 (by decide) ?_
      refine lv_bipush (v := (10 : Int32)) hx hb dX3_readHope_33 (by decide) ?_
      obtain ⟨r_10, t_place_11, t_token_12, t_begin_13, t_bytes_14, t_value_15, he_15, hf⟩ := zz_b6_use hf
      refine zwVi (As := [.int (0 : Int32), .int (10 : Int32)]) (rest := []) (wr := []) (wX3 c t0 tA_text d0 t_text t_length t_lines t_place_11 t_token_12 t_begin_13 t_bytes_14 t_value_15 t_parent t_otherParent ++ wX5 c d0 dA_numbers dA_syllables dA_days dA_words dA_parents dA_otherParents dA_kinds dA_hopeDays dA_hopeTenths d_numbers d_syllables d_syllableCount d_days d_words d_parents d_otherParents d_kinds d_personCount d_hopeDays d_hopeTenths d_hopeCount d_degreesTold) [0, 1, 2, 3, 4, 5, 6, 7, 8, 9, 10, 11] [] [0, 1, 2, 3, 4, 5, 6, 7, 8, 9, 10, 11] S (k_X3_readNumber l D c N t0 tA_text d0 t_text t_length t_lines t_place_3 t_token_4 t_begin_5 t_bytes_6 t_value_7 t_parent t_otherParent d0 dA_numbers dA_syllables dA_days dA_words dA_parents dA_otherParents dA_kinds dA_hopeDays dA_hopeTenths d_numbers d_syllables d_syllableCount d_days d_words d_parents d_otherParents d_kinds d_personCount d_hopeDays d_hopeTenths d_hopeCount d_degreesTold (0 : Int32) (10 : Int32) r_10 t_place_11 t_token_12 t_begin_13 t_bytes_14 t_value_15 he_15) mi_X3_readNumber tw_2_150 ⟨(Nat.le_of_ble_eq_true rfl), (Nat.le_of_ble_eq_true rfl)⟩ ⟨rfl, rfl⟩ hP hD hS hA rfl rfl rfl rfl (by decide) rfl rfl hE hX (ci := 3) rfl rfl (q0 := 0) rfl rfl hl.1 rfl (Nat.le_of_ble_eq_true rfl) dX3_readHope_35 ⟨(Nat.le_of_ble_eq_true rfl), (Nat.le_of_ble_eq_true rfl)⟩ (fun H locs hP hD hS => ?_)
      refine lv_if_ne (tgt := 43) hx hb dX3_readHope_38 (by decide) (fun hc_16 => ?_) (fun hc_16 => ?_)
      · have hf := zz_if hf hc_16
        refine lv_aload_n hx hb dX3_readHope_43 rfl (lv_at hl 1 rfl) ?_
        refine zget S uw_X3 hE hP 0 2 rfl rfl (by decide) tw_1_108 rfl rfl dX3_readHope_44 ?_
        refine lv_iload_n hx hb dX3_readHope_47 rfl (lv_at hl 0 rfl) ?_
        refine lv_aload_n hx hb dX3_readHope_48 rfl (lv_at hl 1 rfl) ?_
        refine zget S uw_X3 hE hP 0 8 rfl rfl (by decide) tw_1_116 rfl rfl dX3_readHope_49 ?_
        refine lv_l2i (v := t_value_15.toInt32) hx hb dX3_readHope_52 rfl ?_
        obtain ⟨d_hopeDays_17, d_hopeTenths_18, d_hopeCount_19, he_19, hf⟩ := zz_b3_use hf
        refine zwVv (As := [.int v1_9, .int t_value_15.toInt32]) (rest := []) (wr := (wX3 c t0 tA_text d0 t_text t_length t_lines t_place_11 t_token_12 t_begin_13 t_bytes_14 t_value_15 t_parent t_otherParent)) (wX3 c t0 tA_text d0 t_text t_length t_lines t_place_11 t_token_12 t_begin_13 t_bytes_14 t_value_15 t_parent t_otherParent ++ wX5 c d0 dA_numbers dA_syllables dA_days dA_words dA_parents dA_otherParents dA_kinds dA_hopeDays dA_hopeTenths d_numbers d_syllables d_syllableCount d_days d_words d_parents d_otherParents d_kinds d_personCount d_hopeDays_17 d_hopeTenths_18 d_hopeCount_19 d_degreesTold) [2, 3, 4, 5, 6, 7, 8, 9, 10, 11] [0, 1] [0, 1, 2, 3, 4, 5, 6, 7, 8, 9, 10, 11] S (k_X5_addHope l D c N d0 dA_numbers dA_syllables dA_days dA_words dA_parents dA_otherParents dA_kinds dA_hopeDays dA_hopeTenths d_numbers d_syllables d_syllableCount d_days d_words d_parents d_otherParents d_kinds d_personCount d_hopeDays d_hopeTenths d_hopeCount d_degreesTold v1_9 t_value_15.toInt32 d_hopeDays_17 d_hopeTenths_18 d_hopeCount_19 he_19) mi_X5_addHope tw_2_204 ⟨(Nat.le_of_ble_eq_true rfl), (Nat.le_of_ble_eq_true rfl)⟩ ⟨rfl, rfl⟩ hP hD hS hA rfl rfl rfl rfl (by decide) rfl rfl hE hX (ci := 5) rfl rfl (q0 := 0) rfl rfl hl.1 rfl (Nat.le_of_ble_eq_true rfl) dX3_readHope_53 ⟨(Nat.le_of_ble_eq_true rfl), (Nat.le_of_ble_eq_true rfl)⟩ (fun H locs hP hD hS => ?_)
        refine lv_iconst (v := (1 : Int32)) hx hb dX3_readHope_56 (by decide) ?_
        cases hf
        exact zRWz hQ hx hb hr hlk rfl rfl hP hD hS dX3_readHope_57
      · have hf := zz_it hf hc_16
        refine lv_iconst (v := (0 : Int32)) hx hb dX3_readHope_41 (by decide) ?_
        cases hf
        exact zRWz hQ hx hb hr hlk rfl rfl hP hD hS dX3_readHope_42
    · have hf := zz_it hf hc_8
      refine lv_iconst (v := (0 : Int32)) hx hb dX3_readHope_23 (by decide) ?_
      cases hf
      exact zRWz hQ hx hb hr hlk rfl rfl hP hD hS dX3_readHope_24
def f_X3_readWord (N : Nat) (t_text : Nat → Int32) (t_length : Int32) (t_place : Int32) (p1 : Int32) : Option (Int32 × (Int32) × (Int32) × (Int32) × (Int32) × (Int64)) := zz_b5 (f_X3_readToken N t_text t_length t_place) (fun t_place_1 t_token_2 t_begin_3 t_bytes_4 t_value_5 => (if t_token_2 = (1 : Int32) then (if p1 < t_bytes_4 then (some ((0 : Int32), t_place_1, t_token_2, t_begin_3, t_bytes_4, t_value_5)) else (some ((1 : Int32), t_place_1, t_token_2, t_begin_3, t_bytes_4, t_value_5))) else (some ((0 : Int32), t_place_1, t_token_2, t_begin_3, t_bytes_4, t_value_5))))
abbrev rm_X3_readWord : Room := { frames := 2, cells := 0, slots := 0, locals := 42 }
theorem mi_X3_readWord : zMI RX3 yX3_readWord cX3_readWord 2 (some .boolean) 1 := ⟨⟨tw_2_141, ts_X3_readWord, tw_1_3, tw_2_142⟩, by decide +kernel, by decide +kernel, by decide +kernel⟩
set_option maxHeartbeats 4000000 in
set_option maxRecDepth 100000 in
theorem k_X3_readWord (l : Launch) (D : va_G) (c : Nat → ClassId) (N : Nat) (t0 : Nat) (tA_text : Nat) (d0 : Nat) (t_text : Nat → Int32) (t_length : Int32) (t_lines : Int32) (t_place : Int32) (t_token : Int32) (t_begin : Int32) (t_bytes : Int32) (t_value : Int64) (t_parent : Int32) (t_otherParent : Int32) (d0_x : Nat) (dA_numbers : Nat) (dA_syllables : Nat) (dA_days : Nat) (dA_words : Nat) (dA_parents : Nat) (dA_otherParents : Nat) (dA_kinds : Nat) (dA_hopeDays : Nat) (dA_hopeTenths : Nat) (d_numbers : Nat → Int32) (d_syllables : Nat → Int64) (d_syllableCount : Int32) (d_days : Nat → Int32) (d_words : Nat → Int64) (d_parents : Nat → Int32) (d_otherParents : Nat → Int32) (d_kinds : Nat → Int32) (d_personCount : Int32) (d_hopeDays : Nat → Int32) (d_hopeTenths : Nat → Int32) (d_hopeCount : Int32) (d_degreesTold : Int32) (p1 : Int32) (o : Int32) (o_t_place : Int32) (o_t_token : Int32) (o_t_begin : Int32) (o_t_bytes : Int32) (o_t_value : Int64) (hf : f_X3_readWord N t_text t_length t_place p1 = some (o, o_t_place, o_t_token, o_t_begin, o_t_bytes, o_t_value)) : zMWi l D c yX3_readWord cX3_readWord 2 (some .boolean) rm_X3_readWord (wX3 c t0 tA_text d0 t_text t_length t_lines t_place t_token t_begin t_bytes t_value t_parent t_otherParent ++ wX5 c d0 dA_numbers dA_syllables dA_days dA_words dA_parents dA_otherParents dA_kinds dA_hopeDays dA_hopeTenths d_numbers d_syllables d_syllableCount d_days d_words d_parents d_otherParents d_kinds d_personCount d_hopeDays d_hopeTenths d_hopeCount d_degreesTold) (wX3 c t0 tA_text d0 t_text t_length t_lines o_t_place o_t_token o_t_begin o_t_bytes o_t_value t_parent t_otherParent ++ wX5 c d0 dA_numbers dA_syllables dA_days dA_words dA_parents dA_otherParents dA_kinds dA_hopeDays dA_hopeTenths d_numbers d_syllables d_syllableCount d_days d_words d_parents d_otherParents d_kinds d_personCount d_hopeDays d_hopeTenths d_hopeCount d_degreesTold) [.ref t0, .int p1] o := by
  intro sz
  refine zIW (by decide) (Nat.le_of_ble_eq_true rfl) ?_
  intro p e s m args below meth c0 Q A hAe hQ hx hb hr hlk hml hts hown hP hE hD hS hA hsz hmn hX ls hl
  rw [← hAe] at hQ
  have S : CallFix p m c0 cX3_readWord 2 s args zT RX3 := ⟨hx, hb, hml, hown, hts⟩
  have hl : lv_has ls 2 [(0, .ref t0), (1, .int p1)] := hl
  unfold f_X3_readWord at hf
  refine lv_aload_n hx hb dX3_readWord_0 rfl (lv_at hl 0 rfl) ?_
  obtain ⟨t_place_1, t_token_2, t_begin_3, t_bytes_4, t_value_5, he_5, hf⟩ := zz_b5_use hf
  refine zwVv (As := []) (rest := []) (wr := []) (wX3 c t0 tA_text d0 t_text t_length t_lines t_place_1 t_token_2 t_begin_3 t_bytes_4 t_value_5 t_parent t_otherParent ++ wX5 c d0 dA_numbers dA_syllables dA_days dA_words dA_parents dA_otherParents dA_kinds dA_hopeDays dA_hopeTenths d_numbers d_syllables d_syllableCount d_days d_words d_parents d_otherParents d_kinds d_personCount d_hopeDays d_hopeTenths d_hopeCount d_degreesTold) [0, 1, 2, 3, 4, 5, 6, 7, 8, 9, 10, 11] [] [0, 1, 2, 3, 4, 5, 6, 7, 8, 9, 10, 11] S (k_X3_readToken l D c N t0 tA_text d0 t_text t_length t_lines t_place t_token t_begin t_bytes t_value t_parent t_otherParent d0 dA_numbers dA_syllables dA_days dA_words dA_parents dA_otherParents dA_kinds dA_hopeDays dA_hopeTenths d_numbers d_syllables d_syllableCount d_days d_words d_parents d_otherParents d_kinds d_personCount d_hopeDays d_hopeTenths d_hopeCount d_degreesTold  t_place_1 t_token_2 t_begin_3 t_bytes_4 t_value_5 he_5) mi_X3_readToken tw_2_66 ⟨(Nat.le_of_ble_eq_true rfl), (Nat.le_of_ble_eq_true rfl)⟩ ⟨rfl, rfl⟩ hP hD hS hA rfl rfl rfl rfl (by decide) rfl rfl hE hX (ci := 3) rfl rfl (q0 := 0) rfl rfl hl.1 rfl (Nat.le_of_ble_eq_true rfl) dX3_readWord_1 ⟨(Nat.le_of_ble_eq_true rfl), (Nat.le_of_ble_eq_true rfl)⟩ (fun H locs hP hD hS => ?_)
  refine lv_aload_n hx hb dX3_readWord_4 rfl (lv_at hl 0 rfl) ?_
  refine zget S uw_X3 hE hP 0 5 rfl rfl (by decide) tw_1_113 rfl rfl dX3_readWord_5 ?_
  refine lv_iconst (v := (1 : Int32)) hx hb dX3_readWord_8 (by decide) ?_
  refine lv_icmp_ne (tgt := 24) hx hb dX3_readWord_9 (by decide) (fun hc_6 => ?_) (fun hc_6 => ?_)
  · have hf := zz_if hf hc_6
    refine lv_iconst (v := (0 : Int32)) hx hb dX3_readWord_24 (by decide) ?_
    cases hf
    exact zRWz hQ hx hb hr hlk rfl rfl hP hD hS dX3_readWord_25
  · have hf := zz_it hf hc_6
    refine lv_aload_n hx hb dX3_readWord_12 rfl (lv_at hl 0 rfl) ?_
    refine zget S uw_X3 hE hP 0 7 rfl rfl (by decide) tw_1_115 rfl rfl dX3_readWord_13 ?_
    refine lv_iload_n hx hb dX3_readWord_16 rfl (lv_at hl 1 rfl) ?_
    refine lv_icmp_gt (tgt := 24) hx hb dX3_readWord_17 (by decide) (fun hc_7 => ?_) (fun hc_7 => ?_)
    · have hf := zz_it hf hc_7
      refine lv_iconst (v := (0 : Int32)) hx hb dX3_readWord_24 (by decide) ?_
      cases hf
      exact zRWz hQ hx hb hr hlk rfl rfl hP hD hS dX3_readWord_25
    · have hf := zz_if hf hc_7
      refine lv_iconst (v := (1 : Int32)) hx hb dX3_readWord_20 (by decide) ?_
      refine lv_goto (tgt := 25) hx hb dX3_readWord_21 (by decide) ?_
      cases hf
      exact zRWz hQ hx hb hr hlk rfl rfl hP hD hS dX3_readWord_25
def f_X3_readLetter (N : Nat) (t_text : Nat → Int32) (t_length : Int32) (t_place : Int32) (d_numbers : Nat → Int32) : Option (Int32 × (Int32) × (Int32) × (Int32) × (Int32) × (Int64) × (Nat → Int32)) := zz_b6 (f_X3_readWord N t_text t_length t_place (1 : Int32)) (fun r_1 t_place_2 t_token_3 t_begin_4 t_bytes_5 t_value_6 => (if r_1 = 0 then (some ((0 : Int32), t_place_2, t_token_3, t_begin_4, t_bytes_5, t_value_6, d_numbers)) else zz_b1 (f_X6_lastLetter N t_value_6) (fun r_8 => zz_b1 (f_X6_isLetter N r_8) (fun r_9 => (if r_9 = 0 then (some ((0 : Int32), t_place_2, t_token_3, t_begin_4, t_bytes_5, t_value_6, d_numbers)) else zz_b6 (f_X3_readNumber N t_text t_length t_place_2 (0 : Int32) (99 : Int32)) (fun r_11 t_place_12 t_token_13 t_begin_14 t_bytes_15 t_value_16 => (if r_11 = 0 then (some ((0 : Int32), t_place_12, t_token_13, t_begin_14, t_bytes_15, t_value_16, d_numbers)) else zz_gd (zz_in r_8 26) (zz_let (upd d_numbers r_8.toNatClampNeg t_value_16.toInt32) (fun d_numbers_19 => (some ((1 : Int32), t_place_12, t_token_13, t_begin_14, t_bytes_15, t_value_16, d_numbers_19)))))))))))
abbrev rm_X3_readLetter : Room := { frames := 3, cells := 0, slots := 0, locals := 64 }
theorem mi_X3_readLetter : zMI RX3 yX3_readLetter cX3_readLetter 2 (some .boolean) 0 := ⟨⟨tw_2_137, ts_X3_readLetter, tw_1_3, tw_2_138⟩, by decide +kernel, by decide +kernel, by decide +kernel⟩
set_option maxHeartbeats 4000000 in
set_option maxRecDepth 100000 in
theorem k_X3_readLetter (l : Launch) (D : va_G) (c : Nat → ClassId) (N : Nat) (t0 : Nat) (tA_text : Nat) (d0 : Nat) (t_text : Nat → Int32) (t_length : Int32) (t_lines : Int32) (t_place : Int32) (t_token : Int32) (t_begin : Int32) (t_bytes : Int32) (t_value : Int64) (t_parent : Int32) (t_otherParent : Int32) (d0_x : Nat) (dA_numbers : Nat) (dA_syllables : Nat) (dA_days : Nat) (dA_words : Nat) (dA_parents : Nat) (dA_otherParents : Nat) (dA_kinds : Nat) (dA_hopeDays : Nat) (dA_hopeTenths : Nat) (d_numbers : Nat → Int32) (d_syllables : Nat → Int64) (d_syllableCount : Int32) (d_days : Nat → Int32) (d_words : Nat → Int64) (d_parents : Nat → Int32) (d_otherParents : Nat → Int32) (d_kinds : Nat → Int32) (d_personCount : Int32) (d_hopeDays : Nat → Int32) (d_hopeTenths : Nat → Int32) (d_hopeCount : Int32) (d_degreesTold : Int32)  (o : Int32) (o_t_place : Int32) (o_t_token : Int32) (o_t_begin : Int32) (o_t_bytes : Int32) (o_t_value : Int64) (o_d_numbers : Nat → Int32) (hf : f_X3_readLetter N t_text t_length t_place d_numbers = some (o, o_t_place, o_t_token, o_t_begin, o_t_bytes, o_t_value, o_d_numbers)) : zMWi l D c yX3_readLetter cX3_readLetter 2 (some .boolean) rm_X3_readLetter (wX3 c t0 tA_text d0 t_text t_length t_lines t_place t_token t_begin t_bytes t_value t_parent t_otherParent ++ wX5 c d0 dA_numbers dA_syllables dA_days dA_words dA_parents dA_otherParents dA_kinds dA_hopeDays dA_hopeTenths d_numbers d_syllables d_syllableCount d_days d_words d_parents d_otherParents d_kinds d_personCount d_hopeDays d_hopeTenths d_hopeCount d_degreesTold) (wX3 c t0 tA_text d0 t_text t_length t_lines o_t_place o_t_token o_t_begin o_t_bytes o_t_value t_parent t_otherParent ++ wX5 c d0 dA_numbers dA_syllables dA_days dA_words dA_parents dA_otherParents dA_kinds dA_hopeDays dA_hopeTenths o_d_numbers d_syllables d_syllableCount d_days d_words d_parents d_otherParents d_kinds d_personCount d_hopeDays d_hopeTenths d_hopeCount d_degreesTold) [.ref t0] o := by
  intro sz
  refine zIW (by decide) (Nat.le_of_ble_eq_true rfl) ?_
  intro p e s m args below meth c0 Q A hAe hQ hx hb hr hlk hml hts hown hP hE hD hS hA hsz hmn hX ls hl
  rw [← hAe] at hQ
  have S : CallFix p m c0 cX3_readLetter 2 s args zT RX3 := ⟨hx, hb, hml, hown, hts⟩
  have hl : lv_has ls 2 [(0, .ref t0)] := hl
  unfold f_X3_readLetter at hf
  refine lv_aload_n hx hb dX3_readLetter_0 rfl (lv_at hl 0 rfl) ?_
  refine lv_iconst (v := (1 : Int32)) hx hb dX3_readLetter_1 (by decide) ?_
  obtain ⟨r_1, t_place_2, t_token_3, t_begin_4, t_bytes_5, t_value_6, he_6, hf⟩ := zz_b6_use hf
  refine zwVi (As := [.int (1 : Int32)]) (rest := []) (wr := []) (wX3 c t0 tA_text d0 t_text t_length t_lines t_place_2 t_token_3 t_begin_4 t_bytes_5 t_value_6 t_parent t_otherParent ++ wX5 c d0 dA_numbers dA_syllables dA_days dA_words dA_parents dA_otherParents dA_kinds dA_hopeDays dA_hopeTenths d_numbers d_syllables d_syllableCount d_days d_words d_parents d_otherParents d_kinds d_personCount d_hopeDays d_hopeTenths d_hopeCount d_degreesTold) [0, 1, 2, 3, 4, 5, 6, 7, 8, 9, 10, 11] [] [0, 1, 2, 3, 4, 5, 6, 7, 8, 9, 10, 11] S (k_X3_readWord l D c N t0 tA_text d0 t_text t_length t_lines t_place t_token t_begin t_bytes t_value t_parent t_otherParent d0 dA_numbers dA_syllables dA_days dA_words dA_parents dA_otherParents dA_kinds dA_hopeDays dA_hopeTenths d_numbers d_syllables d_syllableCount d_days d_words d_parents d_otherParents d_kinds d_personCount d_hopeDays d_hopeTenths d_hopeCount d_degreesTold (1 : Int32) r_1 t_place_2 t_token_3 t_begin_4 t_bytes_5 t_value_6 he_6) mi_X3_readWord tw_2_139 ⟨(Nat.le_of_ble_eq_true rfl), (Nat.le_of_ble_eq_true rfl)⟩ ⟨rfl, rfl⟩ hP hD hS hA rfl rfl rfl rfl (by decide) rfl rfl hE hX (ci := 3) rfl rfl (q0 := 0) rfl rfl hl.1 rfl (Nat.le_of_ble_eq_true rfl) dX3_readLetter_2 ⟨(Nat.le_of_ble_eq_true rfl), (Nat.le_of_ble_eq_true rfl)⟩ (fun H locs hP hD hS => ?_)
  refine lv_if_ne (tgt := 10) hx hb dX3_readLetter_5 (by decide) (fun hc_7 => ?_) (fun hc_7 => ?_)
  · have hf := zz_if hf hc_7
    refine lv_aload_n hx hb dX3_readLetter_10 rfl (lv_at hl 0 rfl) ?_
    refine zget S uw_X3 hE hP 0 8 rfl rfl (by decide) tw_1_116 rfl rfl dX3_readLetter_11 ?_
    obtain ⟨r_8, he_8, hf⟩ := zz_b1_use hf
    refine zcNi (As := [.long t_value_6]) (rest := []) S (k_X6_lastLetter l D c N  t_value_6 r_8 he_8) mi_X6_lastLetter tn_X3_121 ⟨(Nat.le_of_ble_eq_true rfl), (Nat.le_of_ble_eq_true rfl)⟩ ⟨rfl, rfl⟩ (zpnil) hE hX hS rfl hl.1 rfl (Nat.le_of_ble_eq_true rfl) dX3_readLetter_14 ⟨(Nat.le_of_ble_eq_true rfl), (Nat.le_of_ble_eq_true rfl)⟩ ?_
    refine lv_istore_n (lv' := [(1, .int r_8), (0, .ref t0)]) hx hb dX3_readLetter_17 rfl hl (by decide) rfl (fun ls hl => ?_)
    refine lv_iload_n hx hb dX3_readLetter_18 rfl (lv_at hl 0 rfl) ?_
    obtain ⟨r_9, he_9, hf⟩ := zz_b1_use hf
    refine zcNi (As := [.int r_8]) (rest := []) S (k_X6_isLetter l D c N  r_8 r_9 he_9) mi_X6_isLetter tn_X3_125 ⟨(Nat.le_of_ble_eq_true rfl), (Nat.le_of_ble_eq_true rfl)⟩ ⟨rfl, rfl⟩ (zpnil) hE hX hS rfl hl.1 rfl (Nat.le_of_ble_eq_true rfl) dX3_readLetter_19 ⟨(Nat.le_of_ble_eq_true rfl), (Nat.le_of_ble_eq_true rfl)⟩ ?_
    refine lv_if_eq (tgt := 35) hx hb dX3_readLetter_22 (by decide) (fun hc_10 => ?_) (fun hc_10 => ?_)
    · have hf := zz_it hf hc_10
      refine lv_iconst (v := (0 : Int32)) hx hb dX3_readLetter_35 (by decide) ?_
      cases hf
      exact zRWz hQ hx hb hr hlk rfl rfl hP hD hS dX3_readLetter_36
    · have hf := zz_if hf hc_10
      refine lv_aload_n hx hb dX3_readLetter_25 rfl (lv_at hl 1 rfl) ?_
      refine lv_iconst (v := (0 : Int32)) hx hb dX3_readLetter_26 (by decide) ?_
      refine lv_bipush (v := (99 : Int32)) hx hb dX3_readLetter_27 (by decide) ?_
      obtain ⟨r_11, t_place_12, t_token_13, t_begin_14, t_bytes_15, t_value_16, he_16, hf⟩ := zz_b6_use hf
      refine zwVi (As := [.int (0 : Int32), .int (99 : Int32)]) (rest := []) (wr := []) (wX3 c t0 tA_text d0 t_text t_length t_lines t_place_12 t_token_13 t_begin_14 t_bytes_15 t_value_16 t_parent t_otherParent ++ wX5 c d0 dA_numbers dA_syllables dA_days dA_words dA_parents dA_otherParents dA_kinds dA_hopeDays dA_hopeTenths d_numbers d_syllables d_syllableCount d_days d_words d_parents d_otherParents d_kinds d_personCount d_hopeDays d_hopeTenths d_hopeCount d_degreesTold) [0, 1, 2, 3, 4, 5, 6, 7, 8, 9, 10, 11] [] [0, 1, 2, 3, 4, 5, 6, 7, 8, 9, 10, 11] S (k_X3_readNumber l D c N t0 tA_text d0 t_text t_length t_lines t_place_2 t_token_3 t_begin_4 t_bytes_5 t_value_6 t_parent t_otherParent d0 dA_numbers dA_syllables dA_days dA_words dA_parents dA_otherParents dA_kinds dA_hopeDays dA_hopeTenths d_numbers d_syllables d_syllableCount d_days d_words d_parents d_otherParents d_kinds d_personCount d_hopeDays d_hopeTenths d_hopeCount d_degreesTold (0 : Int32) (99 : Int32) r_11 t_place_12 t_token_13 t_begin_14 t_bytes_15 t_value_16 he_16) mi_X3_readNumber tw_2_150 ⟨(Nat.le_of_ble_eq_true rfl), (Nat.le_of_ble_eq_true rfl)⟩ ⟨rfl, rfl⟩ hP hD hS hA rfl rfl rfl rfl (by decide) rfl rfl hE hX (ci := 3) rfl rfl (q0 := 0) rfl rfl hl.1 rfl (Nat.le_of_ble_eq_true rfl) dX3_readLetter_29 ⟨(Nat.le_of_ble_eq_true rfl), (Nat.le_of_ble_eq_true rfl)⟩ (fun H locs hP hD hS => ?_)
      refine lv_if_ne (tgt := 37) hx hb dX3_readLetter_32 (by decide) (fun hc_17 => ?_) (fun hc_17 => ?_)
      · have hf := zz_if hf hc_17
        refine lv_aload_n hx hb dX3_readLetter_37 rfl (lv_at hl 1 rfl) ?_
        refine zget S uw_X3 hE hP 0 2 rfl rfl (by decide) tw_1_108 rfl rfl dX3_readLetter_38 ?_
        refine zget S uw_X5 hE hP 2 0 rfl rfl (by decide) tw_1_31 rfl rfl dX3_readLetter_41 ?_
        refine lv_iload_n hx hb dX3_readLetter_44 rfl (lv_at hl 0 rfl) ?_
        refine lv_aload_n hx hb dX3_readLetter_45 rfl (lv_at hl 1 rfl) ?_
        refine zget S uw_X3 hE hP 0 8 rfl rfl (by decide) tw_1_116 rfl rfl dX3_readLetter_46 ?_
        refine lv_l2i (v := t_value_16.toInt32) hx hb dX3_readLetter_49 rfl ?_
        obtain ⟨hin_18, hf⟩ := zz_gd_use hf
        obtain ⟨d_numbers_19, ed_numbers_19, hf⟩ := zz_let_use hf
        refine zist hx hb hE hP hD hS 3 (wX3 c t0 tA_text d0 t_text t_length t_lines t_place_12 t_token_13 t_begin_14 t_bytes_15 t_value_16 t_parent t_otherParent ++ wX5 c d0 dA_numbers dA_syllables dA_days dA_words dA_parents dA_otherParents dA_kinds dA_hopeDays dA_hopeTenths d_numbers_19 d_syllables d_syllableCount d_days d_words d_parents d_otherParents d_kinds d_personCount d_hopeDays d_hopeTenths d_hopeCount d_degreesTold) rfl rfl ed_numbers_19 (zz_in_ok hin_18) dX3_readLetter_50 (fun H locs hP hD hS => ?_)
        refine lv_iconst (v := (1 : Int32)) hx hb dX3_readLetter_51 (by decide) ?_
        cases hf
        exact zRWz hQ hx hb hr hlk rfl rfl hP hD hS dX3_readLetter_52
      · have hf := zz_it hf hc_17
        refine lv_iconst (v := (0 : Int32)) hx hb dX3_readLetter_35 (by decide) ?_
        cases hf
        exact zRWz hQ hx hb hr hlk rfl rfl hP hD hS dX3_readLetter_36
  · have hf := zz_it hf hc_7
    refine lv_iconst (v := (0 : Int32)) hx hb dX3_readLetter_8 (by decide) ?_
    cases hf
    exact zRWz hQ hx hb hr hlk rfl rfl hP hD hS dX3_readLetter_9
def f_X3_readNoParents (N : Nat)  : Option (Int32 × (Int32) × (Int32)) := (some ((1 : Int32), (-1 : Int32), (-1 : Int32)))
abbrev rm_X3_readNoParents : Room := { frames := 0, cells := 0, slots := 0, locals := 0 }
theorem mi_X3_readNoParents : zMI RX3 yX3_readNoParents cX3_readNoParents 1 (some .boolean) 0 := ⟨⟨tw_2_166, ts_X3_readNoParents, tw_1_3, tw_2_167⟩, by decide +kernel, by decide +kernel, by decide +kernel⟩
set_option maxHeartbeats 4000000 in
set_option maxRecDepth 100000 in
theorem k_X3_readNoParents (l : Launch) (D : va_G) (c : Nat → ClassId) (N : Nat) (t0 : Nat) (tA_text : Nat) (d0 : Nat) (t_text : Nat → Int32) (t_length : Int32) (t_lines : Int32) (t_place : Int32) (t_token : Int32) (t_begin : Int32) (t_bytes : Int32) (t_value : Int64) (t_parent : Int32) (t_otherParent : Int32) (d0_x : Nat) (dA_numbers : Nat) (dA_syllables : Nat) (dA_days : Nat) (dA_words : Nat) (dA_parents : Nat) (dA_otherParents : Nat) (dA_kinds : Nat) (dA_hopeDays : Nat) (dA_hopeTenths : Nat) (d_numbers : Nat → Int32) (d_syllables : Nat → Int64) (d_syllableCount : Int32) (d_days : Nat → Int32) (d_words : Nat → Int64) (d_parents : Nat → Int32) (d_otherParents : Nat → Int32) (d_kinds : Nat → Int32) (d_personCount : Int32) (d_hopeDays : Nat → Int32) (d_hopeTenths : Nat → Int32) (d_hopeCount : Int32) (d_degreesTold : Int32)  (o : Int32) (o_t_parent : Int32) (o_t_otherParent : Int32) (hf : f_X3_readNoParents N  = some (o, o_t_parent, o_t_otherParent)) : zMWi l D c yX3_readNoParents cX3_readNoParents 1 (some .boolean) rm_X3_readNoParents (wX3 c t0 tA_text d0 t_text t_length t_lines t_place t_token t_begin t_bytes t_value t_parent t_otherParent ++ wX5 c d0 dA_numbers dA_syllables dA_days dA_words dA_parents dA_otherParents dA_kinds dA_hopeDays dA_hopeTenths d_numbers d_syllables d_syllableCount d_days d_words d_parents d_otherParents d_kinds d_personCount d_hopeDays d_hopeTenths d_hopeCount d_degreesTold) (wX3 c t0 tA_text d0 t_text t_length t_lines t_place t_token t_begin t_bytes t_value o_t_parent o_t_otherParent ++ wX5 c d0 dA_numbers dA_syllables dA_days dA_words dA_parents dA_otherParents dA_kinds dA_hopeDays dA_hopeTenths d_numbers d_syllables d_syllableCount d_days d_words d_parents d_otherParents d_kinds d_personCount d_hopeDays d_hopeTenths d_hopeCount d_degreesTold) [.ref t0] o := by
  intro sz
  refine zIW (by decide) (Nat.le_of_ble_eq_true rfl) ?_
  intro p e s m args below meth c0 Q A hAe hQ hx hb hr hlk hml hts hown hP hE hD hS hA hsz hmn hX ls hl
  rw [← hAe] at hQ
  have S : CallFix p m c0 cX3_readNoParents 1 s args zT RX3 := ⟨hx, hb, hml, hown, hts⟩
  have hl : lv_has ls 1 [(0, .ref t0)] := hl
  unfold f_X3_readNoParents at hf
  refine lv_aload_n hx hb dX3_readNoParents_0 rfl (lv_at hl 0 rfl) ?_
  refine lv_iconst (v := (-1 : Int32)) hx hb dX3_readNoParents_1 (by decide) ?_
  refine zput S uw_X3 tyX3_ok nmX3 hE hP hD hS 0 9 (ty := .int) (wX3 c t0 tA_text d0 t_text t_length t_lines t_place t_token t_begin t_bytes t_value (-1 : Int32) t_otherParent ++ wX5 c d0 dA_numbers dA_syllables dA_days dA_words dA_parents dA_otherParents dA_kinds dA_hopeDays dA_hopeTenths d_numbers d_syllables d_syllableCount d_days d_words d_parents d_otherParents d_kinds d_personCount d_hopeDays d_hopeTenths d_hopeCount d_degreesTold) rfl rfl (by decide) tw_1_117 rfl rfl (by decide +kernel) rfl rfl (Nat.le_of_ble_eq_true rfl) rfl dX3_readNoParents_2 (fun H locs hP hD hS => ?_)
  refine lv_aload_n hx hb dX3_readNoParents_5 rfl (lv_at hl 0 rfl) ?_
  refine lv_iconst (v := (-1 : Int32)) hx hb dX3_readNoParents_6 (by decide) ?_
  refine zput S uw_X3 tyX3_ok nmX3 hE hP hD hS 0 10 (ty := .int) (wX3 c t0 tA_text d0 t_text t_length t_lines t_place t_token t_begin t_bytes t_value (-1 : Int32) (-1 : Int32) ++ wX5 c d0 dA_numbers dA_syllables dA_days dA_words dA_parents dA_otherParents dA_kinds dA_hopeDays dA_hopeTenths d_numbers d_syllables d_syllableCount d_days d_words d_parents d_otherParents d_kinds d_personCount d_hopeDays d_hopeTenths d_hopeCount d_degreesTold) rfl rfl (by decide) tw_1_118 rfl rfl (by decide +kernel) rfl rfl (Nat.le_of_ble_eq_true rfl) rfl dX3_readNoParents_7 (fun H locs hP hD hS => ?_)
  refine lv_iconst (v := (1 : Int32)) hx hb dX3_readNoParents_10 (by decide) ?_
  cases hf
  exact zRWz hQ hx hb hr hlk rfl rfl hP hD hS dX3_readNoParents_11
def f_X3_readParents (N : Nat) (t_text : Nat → Int32) (t_length : Int32) (t_place : Int32) (t_parent : Int32) (t_otherParent : Int32) (d_personCount : Int32) : Option (Int32 × (Int32) × (Int32) × (Int32) × (Int32) × (Int64) × (Int32) × (Int32)) := zz_b6 (f_X3_readPerson N t_text t_length t_place d_personCount) (fun r_1 t_place_2 t_token_3 t_begin_4 t_bytes_5 t_value_6 => (if r_1 = 0 then (some ((0 : Int32), t_place_2, t_token_3, t_begin_4, t_bytes_5, t_value_6, t_parent, t_otherParent)) else zz_let (t_value_6.toInt32) (fun t_parent_8 => zz_b6 (f_X3_readPerson N t_text t_length t_place_2 d_personCount) (fun r_9 t_place_10 t_token_11 t_begin_12 t_bytes_13 t_value_14 => (if r_9 = 0 then (some ((0 : Int32), t_place_10, t_token_11, t_begin_12, t_bytes_13, t_value_14, t_parent_8, t_otherParent)) else (if t_value_14 = t_parent_8.toInt64 then (some ((0 : Int32), t_place_10, t_token_11, t_begin_12, t_bytes_13, t_value_14, t_parent_8, t_otherParent)) else zz_let (t_value_14.toInt32) (fun t_otherParent_17 => (some ((1 : Int32), t_place_10, t_token_11, t_begin_12, t_bytes_13, t_value_14, t_parent_8, t_otherParent_17)))))))))
abbrev rm_X3_readParents : Room := { frames := 4, cells := 0, slots := 0, locals := 84 }
theorem mi_X3_readParents : zMI RX3 yX3_readParents cX3_readParents 1 (some .boolean) 0 := ⟨⟨tw_2_188, ts_X3_readParents, tw_1_3, tw_2_189⟩, by decide +kernel, by decide +kernel, by decide +kernel⟩
set_option maxHeartbeats 4000000 in
set_option maxRecDepth 100000 in
theorem k_X3_readParents (l : Launch) (D : va_G) (c : Nat → ClassId) (N : Nat) (t0 : Nat) (tA_text : Nat) (d0 : Nat) (t_text : Nat → Int32) (t_length : Int32) (t_lines : Int32) (t_place : Int32) (t_token : Int32) (t_begin : Int32) (t_bytes : Int32) (t_value : Int64) (t_parent : Int32) (t_otherParent : Int32) (d0_x : Nat) (dA_numbers : Nat) (dA_syllables : Nat) (dA_days : Nat) (dA_words : Nat) (dA_parents : Nat) (dA_otherParents : Nat) (dA_kinds : Nat) (dA_hopeDays : Nat) (dA_hopeTenths : Nat) (d_numbers : Nat → Int32) (d_syllables : Nat → Int64) (d_syllableCount : Int32) (d_days : Nat → Int32) (d_words : Nat → Int64) (d_parents : Nat → Int32) (d_otherParents : Nat → Int32) (d_kinds : Nat → Int32) (d_personCount : Int32) (d_hopeDays : Nat → Int32) (d_hopeTenths : Nat → Int32) (d_hopeCount : Int32) (d_degreesTold : Int32)  (o : Int32) (o_t_place : Int32) (o_t_token : Int32) (o_t_begin : Int32) (o_t_bytes : Int32) (o_t_value : Int64) (o_t_parent : Int32) (o_t_otherParent : Int32) (hf : f_X3_readParents N t_text t_length t_place t_parent t_otherParent d_personCount = some (o, o_t_place, o_t_token, o_t_begin, o_t_bytes, o_t_value, o_t_parent, o_t_otherParent)) : zMWi l D c yX3_readParents cX3_readParents 1 (some .boolean) rm_X3_readParents (wX3 c t0 tA_text d0 t_text t_length t_lines t_place t_token t_begin t_bytes t_value t_parent t_otherParent ++ wX5 c d0 dA_numbers dA_syllables dA_days dA_words dA_parents dA_otherParents dA_kinds dA_hopeDays dA_hopeTenths d_numbers d_syllables d_syllableCount d_days d_words d_parents d_otherParents d_kinds d_personCount d_hopeDays d_hopeTenths d_hopeCount d_degreesTold) (wX3 c t0 tA_text d0 t_text t_length t_lines o_t_place o_t_token o_t_begin o_t_bytes o_t_value o_t_parent o_t_otherParent ++ wX5 c d0 dA_numbers dA_syllables dA_days dA_words dA_parents dA_otherParents dA_kinds dA_hopeDays dA_hopeTenths d_numbers d_syllables d_syllableCount d_days d_words d_parents d_otherParents d_kinds d_personCount d_hopeDays d_hopeTenths d_hopeCount d_degreesTold) [.ref t0] o := by
  intro sz
  refine zIW (by decide) (Nat.le_of_ble_eq_true rfl) ?_
  intro p e s m args below meth c0 Q A hAe hQ hx hb hr hlk hml hts hown hP hE hD hS hA hsz hmn hX ls hl
  rw [← hAe] at hQ
  have S : CallFix p m c0 cX3_readParents 1 s args zT RX3 := ⟨hx, hb, hml, hown, hts⟩
  have hl : lv_has ls 1 [(0, .ref t0)] := hl
  unfold f_X3_readParents at hf
  refine lv_aload_n hx hb dX3_readParents_0 rfl (lv_at hl 0 rfl) ?_
  obtain ⟨r_1, t_place_2, t_token_3, t_begin_4, t_bytes_5, t_value_6, he_6, hf⟩ := zz_b6_use hf
  refine zwVi (As := []) (rest := []) (wr := []) (wX3 c t0 tA_text d0 t_text t_length t_lines t_place_2 t_token_3 t_begin_4 t_bytes_5 t_value_6 t_parent t_otherParent ++ wX5 c d0 dA_numbers dA_syllables dA_days dA_words dA_parents dA_otherParents dA_kinds dA_hopeDays dA_hopeTenths d_numbers d_syllables d_syllableCount d_days d_words d_parents d_otherParents d_kinds d_personCount d_hopeDays d_hopeTenths d_hopeCount d_degreesTold) [0, 1, 2, 3, 4, 5, 6, 7, 8, 9, 10, 11] [] [0, 1, 2, 3, 4, 5, 6, 7, 8, 9, 10, 11] S (k_X3_readPerson l D c N t0 tA_text d0 t_text t_length t_lines t_place t_token t_begin t_bytes t_value t_parent t_otherParent d0 dA_numbers dA_syllables dA_days dA_words dA_parents dA_otherParents dA_kinds dA_hopeDays dA_hopeTenths d_numbers d_syllables d_syllableCount d_days d_words d_parents d_otherParents d_kinds d_personCount d_hopeDays d_hopeTenths d_hopeCount d_degreesTold  r_1 t_place_2 t_token_3 t_begin_4 t_bytes_5 t_value_6 he_6) mi_X3_readPerson tw_2_190 ⟨(Nat.le_of_ble_eq_true rfl), (Nat.le_of_ble_eq_true rfl)⟩ ⟨rfl, rfl⟩ hP hD hS hA rfl rfl rfl rfl (by decide) rfl rfl hE hX (ci := 3) rfl rfl (q0 := 0) rfl rfl hl.1 rfl (Nat.le_of_ble_eq_true rfl) dX3_readParents_1 ⟨(Nat.le_of_ble_eq_true rfl), (Nat.le_of_ble_eq_true rfl)⟩ (fun H locs hP hD hS => ?_)
  refine lv_if_ne (tgt := 9) hx hb dX3_readParents_4 (by decide) (fun hc_7 => ?_) (fun hc_7 => ?_)
  · have hf := zz_if hf hc_7
    refine lv_aload_n hx hb dX3_readParents_9 rfl (lv_at hl 0 rfl) ?_
    refine lv_aload_n hx hb dX3_readParents_10 rfl (lv_at hl 0 rfl) ?_
    refine zget S uw_X3 hE hP 0 8 rfl rfl (by decide) tw_1_116 rfl rfl dX3_readParents_11 ?_
    refine lv_l2i (v := t_value_6.toInt32) hx hb dX3_readParents_14 rfl ?_
    obtain ⟨t_parent_8, et_parent_8, hf⟩ := zz_let_use hf
    refine zti et_parent_8 ?_
    refine zput S uw_X3 tyX3_ok nmX3 hE hP hD hS 0 9 (ty := .int) (wX3 c t0 tA_text d0 t_text t_length t_lines t_place_2 t_token_3 t_begin_4 t_bytes_5 t_value_6 t_parent_8 t_otherParent ++ wX5 c d0 dA_numbers dA_syllables dA_days dA_words dA_parents dA_otherParents dA_kinds dA_hopeDays dA_hopeTenths d_numbers d_syllables d_syllableCount d_days d_words d_parents d_otherParents d_kinds d_personCount d_hopeDays d_hopeTenths d_hopeCount d_degreesTold) rfl rfl (by decide) tw_1_117 rfl rfl (by decide +kernel) rfl rfl (Nat.le_of_ble_eq_true rfl) rfl dX3_readParents_15 (fun H locs hP hD hS => ?_)
    refine lv_aload_n hx hb dX3_readParents_18 rfl (lv_at hl 0 rfl) ?_
    obtain ⟨r_9, t_place_10, t_token_11, t_begin_12, t_bytes_13, t_value_14, he_14, hf⟩ := zz_b6_use hf
    refine zwVi (As := []) (rest := []) (wr := []) (wX3 c t0 tA_text d0 t_text t_length t_lines t_place_10 t_token_11 t_begin_12 t_bytes_13 t_value_14 t_parent_8 t_otherParent ++ wX5 c d0 dA_numbers dA_syllables dA_days dA_words dA_parents dA_otherParents dA_kinds dA_hopeDays dA_hopeTenths d_numbers d_syllables d_syllableCount d_days d_words d_parents d_otherParents d_kinds d_personCount d_hopeDays d_hopeTenths d_hopeCount d_degreesTold) [0, 1, 2, 3, 4, 5, 6, 7, 8, 9, 10, 11] [] [0, 1, 2, 3, 4, 5, 6, 7, 8, 9, 10, 11] S (k_X3_readPerson l D c N t0 tA_text d0 t_text t_length t_lines t_place_2 t_token_3 t_begin_4 t_bytes_5 t_value_6 t_parent_8 t_otherParent d0 dA_numbers dA_syllables dA_days dA_words dA_parents dA_otherParents dA_kinds dA_hopeDays dA_hopeTenths d_numbers d_syllables d_syllableCount d_days d_words d_parents d_otherParents d_kinds d_personCount d_hopeDays d_hopeTenths d_hopeCount d_degreesTold  r_9 t_place_10 t_token_11 t_begin_12 t_bytes_13 t_value_14 he_14) mi_X3_readPerson tw_2_190 ⟨(Nat.le_of_ble_eq_true rfl), (Nat.le_of_ble_eq_true rfl)⟩ ⟨rfl, rfl⟩ hP hD hS hA rfl rfl rfl rfl (by decide) rfl rfl hE hX (ci := 3) rfl rfl (q0 := 0) rfl rfl hl.1 rfl (Nat.le_of_ble_eq_true rfl) dX3_readParents_19 ⟨(Nat.le_of_ble_eq_true rfl), (Nat.le_of_ble_eq_true rfl)⟩ (fun H locs hP hD hS => ?_)
    refine lv_if_eq (tgt := 38) hx hb dX3_readParents_22 (by decide) (fun hc_15 => ?_) (fun hc_15 => ?_)
    · have hf := zz_it hf hc_15
      refine lv_iconst (v := (0 : Int32)) hx hb dX3_readParents_38 (by decide) ?_
      cases hf
      exact zRWz hQ hx hb hr hlk rfl rfl hP hD hS dX3_readParents_39
    · have hf := zz_if hf hc_15
      refine lv_aload_n hx hb dX3_readParents_25 rfl (lv_at hl 0 rfl) ?_
      refine zget S uw_X3 hE hP 0 8 rfl rfl (by decide) tw_1_116 rfl rfl dX3_readParents_26 ?_
      refine lv_aload_n hx hb dX3_readParents_29 rfl (lv_at hl 0 rfl) ?_
      refine zget S uw_X3 hE hP 0 9 rfl rfl (by decide) tw_1_117 rfl rfl dX3_readParents_30 ?_
      refine lv_i2l (v := t_parent_8.toInt64) hx hb dX3_readParents_33 rfl ?_
      refine zlc_ne (tgt := 40) hx hb dX3_readParents_34 dX3_readParents_35 (by decide) (fun hc_16 => ?_) (fun hc_16 => ?_)
      · have hf := zz_if hf hc_16
        refine lv_aload_n hx hb dX3_readParents_40 rfl (lv_at hl 0 rfl) ?_
        refine lv_aload_n hx hb dX3_readParents_41 rfl (lv_at hl 0 rfl) ?_
        refine zget S uw_X3 hE hP 0 8 rfl rfl (by decide) tw_1_116 rfl rfl dX3_readParents_42 ?_
        refine lv_l2i (v := t_value_14.toInt32) hx hb dX3_readParents_45 rfl ?_
        obtain ⟨t_otherParent_17, et_otherParent_17, hf⟩ := zz_let_use hf
        refine zti et_otherParent_17 ?_
        refine zput S uw_X3 tyX3_ok nmX3 hE hP hD hS 0 10 (ty := .int) (wX3 c t0 tA_text d0 t_text t_length t_lines t_place_10 t_token_11 t_begin_12 t_bytes_13 t_value_14 t_parent_8 t_otherParent_17 ++ wX5 c d0 dA_numbers dA_syllables dA_days dA_words dA_parents dA_otherParents dA_kinds dA_hopeDays dA_hopeTenths d_numbers d_syllables d_syllableCount d_days d_words d_parents d_otherParents d_kinds d_personCount d_hopeDays d_hopeTenths d_hopeCount d_degreesTold) rfl rfl (by decide) tw_1_118 rfl rfl (by decide +kernel) rfl rfl (Nat.le_of_ble_eq_true rfl) rfl dX3_readParents_46 (fun H locs hP hD hS => ?_)
        refine lv_iconst (v := (1 : Int32)) hx hb dX3_readParents_49 (by decide) ?_
        cases hf
        exact zRWz hQ hx hb hr hlk rfl rfl hP hD hS dX3_readParents_50
      · have hf := zz_it hf hc_16
        refine lv_iconst (v := (0 : Int32)) hx hb dX3_readParents_38 (by decide) ?_
        cases hf
        exact zRWz hQ hx hb hr hlk rfl rfl hP hD hS dX3_readParents_39
  · have hf := zz_it hf hc_7
    refine lv_iconst (v := (0 : Int32)) hx hb dX3_readParents_7 (by decide) ?_
    cases hf
    exact zRWz hQ hx hb hr hlk rfl rfl hP hD hS dX3_readParents_8
def f_X3_says_L15 (N : Nat) (k_2 : Option (Int32)) (t_text : Nat → Int32) (t_begin : Int32) (t_bytes : Int32) (wi : Nat) : Nat → (Int32) → Option (Int32)
  | 0, _ => none
  | n_2 + 1, v2_3 => (if t_bytes ≤ v2_3 then k_2 else zz_gd (zz_in (t_begin + v2_3) 200) (zz_gd (zz_in v2_3 (zLens.getD wi 0)) ((if (t_text (t_begin + v2_3).toNatClampNeg) = (zCh wi v2_3.toNatClampNeg) then zz_let (v2_3 + (1 : Int32)) (fun v2_8 => (f_X3_says_L15 N k_2 t_text t_begin t_bytes wi n_2 v2_8)) else (some (0 : Int32))))))
theorem f_X3_says_L15_s (N : Nat) (k_2 : Option (Int32)) (t_text : Nat → Int32) (t_begin : Int32) (t_bytes : Int32) (wi : Nat) (n_2 : Nat) (v2_3 : Int32) : f_X3_says_L15 N k_2 t_text t_begin t_bytes wi (n_2 + 1) v2_3 = (if t_bytes ≤ v2_3 then k_2 else zz_gd (zz_in (t_begin + v2_3) 200) (zz_gd (zz_in v2_3 (zLens.getD wi 0)) ((if (t_text (t_begin + v2_3).toNatClampNeg) = (zCh wi v2_3.toNatClampNeg) then zz_let (v2_3 + (1 : Int32)) (fun v2_8 => (f_X3_says_L15 N k_2 t_text t_begin t_bytes wi n_2 v2_8)) else (some (0 : Int32)))))) := rfl
def f_X3_says (N : Nat) (t_text : Nat → Int32) (t_begin : Int32) (t_bytes : Int32) (wi : Nat) : Option (Int32) := (if t_bytes = (Int32.ofNat (zLens.getD wi 0)) then zz_let ((some (1 : Int32))) (fun k_2 => f_X3_says_L15 N k_2 t_text t_begin t_bytes wi N (0 : Int32)) else (some (0 : Int32)))
abbrev rm_X3_says : Room := { frames := 4, cells := 0, slots := 0, locals := 141 }
theorem mi_X3_says : zMI RX3 yX3_says cX3_says 3 (some .boolean) 1 := ⟨⟨tw_2_85, ts_X3_says, tw_1_3, tw_2_86⟩, by decide +kernel, by decide +kernel, by decide +kernel⟩
set_option maxHeartbeats 4000000 in
set_option maxRecDepth 100000 in
theorem k_X3_says (l : Launch) (D : va_G) (c : Nat → ClassId) (N : Nat) (t0 : Nat) (tA_text : Nat) (d0 : Nat) (t_text : Nat → Int32) (t_length : Int32) (t_lines : Int32) (t_place : Int32) (t_token : Int32) (t_begin : Int32) (t_bytes : Int32) (t_value : Int64) (t_parent : Int32) (t_otherParent : Int32) (d0_x : Nat) (dA_numbers : Nat) (dA_syllables : Nat) (dA_days : Nat) (dA_words : Nat) (dA_parents : Nat) (dA_otherParents : Nat) (dA_kinds : Nat) (dA_hopeDays : Nat) (dA_hopeTenths : Nat) (d_numbers : Nat → Int32) (d_syllables : Nat → Int64) (d_syllableCount : Int32) (d_days : Nat → Int32) (d_words : Nat → Int64) (d_parents : Nat → Int32) (d_otherParents : Nat → Int32) (d_kinds : Nat → Int32) (d_personCount : Int32) (d_hopeDays : Nat → Int32) (d_hopeTenths : Nat → Int32) (d_hopeCount : Int32) (d_degreesTold : Int32) (wi : Nat) (hwi : wi < 8)  (o : Int32) (hf : f_X3_says N t_text t_begin t_bytes wi = some o) : zMPi l D c yX3_says cX3_says 3 (some .boolean) rm_X3_says (wX3 c t0 tA_text d0 t_text t_length t_lines t_place t_token t_begin t_bytes t_value t_parent t_otherParent ++ wX5 c d0 dA_numbers dA_syllables dA_days dA_words dA_parents dA_otherParents dA_kinds dA_hopeDays dA_hopeTenths d_numbers d_syllables d_syllableCount d_days d_words d_parents d_otherParents d_kinds d_personCount d_hopeDays d_hopeTenths d_hopeCount d_degreesTold) [.ref t0, .ref (c (110 + wi))] o := by
  refine zIP (by decide) (Nat.le_of_ble_eq_true rfl) ?_
  intro p e s m args below meth c0 Q hQ hx hb hr hlk hml hts hown hP hE hX hS ls hl
  have S : CallFix p m c0 cX3_says 3 s args zT RX3 := ⟨hx, hb, hml, hown, hts⟩
  have hl : lv_has ls 3 [(0, .ref t0), (1, .ref (c (110 + wi)))] := hl
  unfold f_X3_says at hf
  refine lv_aload_n hx hb dX3_says_0 rfl (lv_at hl 0 rfl) ?_
  refine zget S uw_X3 hE hP 0 7 rfl rfl (by decide) tw_1_115 rfl rfl dX3_says_1 ?_
  refine lv_aload_n hx hb dX3_says_4 rfl (lv_at hl 1 rfl) ?_
  refine zcT (As := []) (rest := [.int t_bytes]) S hwi (k_J0_length_8abf5 l D c wi hwi) mi_J0_length_8abf5 tw_2_87 ⟨(Nat.le_of_ble_eq_true rfl), (Nat.le_of_ble_eq_true rfl)⟩ ⟨rfl, rfl⟩ zpnil hE hX hS rfl hl.1 rfl (Nat.le_of_ble_eq_true rfl) dX3_says_5 ⟨(Nat.le_of_ble_eq_true rfl), (Nat.le_of_ble_eq_true rfl)⟩ ?_
  refine lv_icmp_eq (tgt := 13) hx hb dX3_says_8 (by decide) (fun hc_1 => ?_) (fun hc_1 => ?_)
  · have hf := zz_it hf hc_1
    refine lv_iconst (v := (0 : Int32)) hx hb dX3_says_13 (by decide) ?_
    refine lv_istore_n (lv' := [(2, .int (0 : Int32)), (0, .ref t0), (1, .ref (c (110 + wi)))]) hx hb dX3_says_14 rfl hl (by decide) rfl (fun ls hl => ?_)
    obtain ⟨k_2, hk_2, hf⟩ := zz_let_use hf
    have hX_2 : ∀ (ls : Array Slot), k_2 = some o → lv_has ls 3 [] → W p l e rm_X3_says s m args below meth c0 s.heap [] 0 0 Q (F0 m 50 ls []) := by
      intro ls hf hl
      subst hk_2
      refine lv_iconst (v := (1 : Int32)) hx hb dX3_says_50 (by decide) ?_
      exact zRPz hQ hx hb hr hlk rfl (Option.some.inj hf) dX3_says_51
    have hL_2 : ∀ (n_2 : Nat) (v2_3 : Int32) (ls : Array Slot), f_X3_says_L15 N k_2 t_text t_begin t_bytes wi n_2 v2_3 = some o → lv_has ls 3 [(0, .ref t0), (1, .ref (c (110 + wi))), (2, .int v2_3)] → W p l e rm_X3_says s m args below meth c0 s.heap [] 0 0 Q (F0 m 15 ls []) := by
      intro n_2
      induction n_2 with
      | zero => intro v2_3 ls hf hl; exact zz_none hf
      | succ n_2 ih_2 =>
        intro v2_3 ls hf hl
        rw [f_X3_says_L15_s] at hf
        refine lv_iload_n hx hb dX3_says_15 rfl (lv_at hl 2 rfl) ?_
        refine lv_aload_n hx hb dX3_says_16 rfl (lv_at hl 0 rfl) ?_
        refine zget S uw_X3 hE hP 0 7 rfl rfl (by decide) tw_1_115 rfl rfl dX3_says_17 ?_
        refine lv_icmp_ge (tgt := 50) hx hb dX3_says_20 (by decide) (fun hc_4 => ?_) (fun hc_4 => ?_)
        · have hf := zz_it hf hc_4
          exact hX_2 ls hf (lv_sub hl [] rfl)
        · have hf := zz_if hf hc_4
          refine lv_aload_n hx hb dX3_says_23 rfl (lv_at hl 0 rfl) ?_
          refine zget S uw_X3 hE hP 0 0 rfl rfl (by decide) tw_1_105 rfl rfl dX3_says_24 ?_
          refine lv_aload_n hx hb dX3_says_27 rfl (lv_at hl 0 rfl) ?_
          refine zget S uw_X3 hE hP 0 6 rfl rfl (by decide) tw_1_114 rfl rfl dX3_says_28 ?_
          refine lv_iload_n hx hb dX3_says_31 rfl (lv_at hl 2 rfl) ?_
          refine lv_iadd hx hb dX3_says_32 ?_
          obtain ⟨hin_5, hf⟩ := zz_gd_use hf
          refine zild hx hb hE hP 1 rfl (zz_in_ok hin_5) dX3_says_33 ?_
          refine lv_aload_n hx hb dX3_says_34 rfl (lv_at hl 1 rfl) ?_
          refine lv_iload_n hx hb dX3_says_35 rfl (lv_at hl 2 rfl) ?_
          obtain ⟨hin_6, hf⟩ := zz_gd_use hf
          refine zcT (As := [.int v2_3]) (rest := [.int (t_text (t_begin + v2_3).toNatClampNeg)]) S hwi (k_J0_charAt_5068e l D c wi hwi v2_3 (zz_in_ok hin_6)) mi_J0_charAt_5068e tw_2_97 ⟨(Nat.le_of_ble_eq_true rfl), (Nat.le_of_ble_eq_true rfl)⟩ ⟨rfl, rfl⟩ zpnil hE hX hS rfl hl.1 rfl (Nat.le_of_ble_eq_true rfl) dX3_says_36 ⟨(Nat.le_of_ble_eq_true rfl), (Nat.le_of_ble_eq_true rfl)⟩ ?_
          refine lv_icmp_eq (tgt := 44) hx hb dX3_says_39 (by decide) (fun hc_7 => ?_) (fun hc_7 => ?_)
          · have hf := zz_it hf hc_7
            obtain ⟨v2_8, ev2_8, hf⟩ := zz_let_use hf
            refine lv_iinc (v := v2_8) (lv' := [(2, .int v2_8), (0, .ref t0), (1, .ref (c (110 + wi)))]) hx hb dX3_says_44 hl (k := 2) rfl (by rw [← ev2_8]; rfl) (by decide) rfl (fun ls hl => ?_)
            refine lv_goto (tgt := 15) hx hb dX3_says_47 (by decide) ?_
            exact ih_2 v2_8 ls hf (lv_sub hl [1, 2, 0] rfl)
          · have hf := zz_if hf hc_7
            refine lv_iconst (v := (0 : Int32)) hx hb dX3_says_42 (by decide) ?_
            exact zRPz hQ hx hb hr hlk rfl (Option.some.inj hf) dX3_says_43
    exact hL_2 N (0 : Int32) ls hf (lv_sub hl [1, 2, 0] rfl)
  · have hf := zz_if hf hc_1
    refine lv_iconst (v := (0 : Int32)) hx hb dX3_says_11 (by decide) ?_
    exact zRPz hQ hx hb hr hlk rfl (Option.some.inj hf) dX3_says_12
def f_X3_readLine (N : Nat) (t_text : Nat → Int32) (t_length : Int32) (t_place : Int32) (t_parent : Int32) (t_otherParent : Int32) (d_numbers : Nat → Int32) (d_syllables : Nat → Int64) (d_syllableCount : Int32) (d_days : Nat → Int32) (d_words : Nat → Int64) (d_parents : Nat → Int32) (d_otherParents : Nat → Int32) (d_kinds : Nat → Int32) (d_personCount : Int32) (d_hopeDays : Nat → Int32) (d_hopeTenths : Nat → Int32) (d_hopeCount : Int32) (d_degreesTold : Int32) : Option (Int32 × (Int32) × (Int32) × (Int32) × (Int32) × (Int64) × (Int32) × (Int32) × (Nat → Int32) × (Nat → Int64) × (Int32) × (Nat → Int32) × (Nat → Int64) × (Nat → Int32) × (Nat → Int32) × (Nat → Int32) × (Int32) × (Nat → Int32) × (Nat → Int32) × (Int32) × (Int32)) := zz_b5 (f_X3_readToken N t_text t_length t_place) (fun t_place_1 t_token_2 t_begin_3 t_bytes_4 t_value_5 => (if t_token_2 = (1 : Int32) then zz_b1 (f_X3_says N t_text t_begin_3 t_bytes_4 0) (fun r_7 => (if r_7 = 0 then zz_b1 (f_X3_says N t_text t_begin_3 t_bytes_4 1) (fun r_17 => (if r_17 = 0 then zz_b1 (f_X3_says N t_text t_begin_3 t_bytes_4 2) (fun r_30 => (if r_30 = 0 then zz_b1 (f_X3_says N t_text t_begin_3 t_bytes_4 3) (fun r_50 => (if r_50 = 0 then zz_b1 (f_X3_says N t_text t_begin_3 t_bytes_4 4) (fun r_75 => (if r_75 = 0 then zz_b1 (f_X3_says N t_text t_begin_3 t_bytes_4 5) (fun r_85 => (if r_85 = 0 then zz_b1 (f_X3_says N t_text t_begin_3 t_bytes_4 6) (fun r_97 => (if r_97 = 0 then zz_b1 (f_X3_says N t_text t_begin_3 t_bytes_4 7) (fun r_107 => (if r_107 = 0 then (some ((0 : Int32), t_place_1, t_token_2, t_begin_3, t_bytes_4, t_value_5, t_parent, t_otherParent, d_numbers, d_syllables, d_syllableCount, d_days, d_words, d_parents, d_otherParents, d_kinds, d_personCount, d_hopeDays, d_hopeTenths, d_hopeCount, d_degreesTold)) else zz_b4 (f_X3_readForget N) (fun r_109 d_syllableCount_110 d_personCount_111 d_hopeCount_112 => (if r_109 = 0 then (some ((0 : Int32), t_place_1, t_token_2, t_begin_3, t_bytes_4, t_value_5, t_parent, t_otherParent, d_numbers, d_syllables, d_syllableCount_110, d_days, d_words, d_parents, d_otherParents, d_kinds, d_personCount_111, d_hopeDays, d_hopeTenths, d_hopeCount_112, d_degreesTold)) else (some ((1 : Int32), t_place_1, t_token_2, t_begin_3, t_bytes_4, t_value_5, t_parent, t_otherParent, d_numbers, d_syllables, d_syllableCount_110, d_days, d_words, d_parents, d_otherParents, d_kinds, d_personCount_111, d_hopeDays, d_hopeTenths, d_hopeCount_112, d_degreesTold)))))) else zz_b7 (f_X3_readDegrees N t_text t_length t_place_1 d_degreesTold) (fun r_99 t_place_100 t_token_101 t_begin_102 t_bytes_103 t_value_104 d_degreesTold_105 => zz_gd (zz_isB r_99) ((some (r_99, t_place_100, t_token_101, t_begin_102, t_bytes_103, t_value_104, t_parent, t_otherParent, d_numbers, d_syllables, d_syllableCount, d_days, d_words, d_parents, d_otherParents, d_kinds, d_personCount, d_hopeDays, d_hopeTenths, d_hopeCount, d_degreesTold_105)))))) else zz_b9 (f_X3_readHope N t_text t_length t_place_1 t_token_2 t_begin_3 t_bytes_4 t_value_5 d_hopeDays d_hopeTenths d_hopeCount) (fun r_87 t_place_88 t_token_89 t_begin_90 t_bytes_91 t_value_92 d_hopeDays_93 d_hopeTenths_94 d_hopeCount_95 => zz_gd (zz_isB r_87) ((some (r_87, t_place_88, t_token_89, t_begin_90, t_bytes_91, t_value_92, t_parent, t_otherParent, d_numbers, d_syllables, d_syllableCount, d_days, d_words, d_parents, d_otherParents, d_kinds, d_personCount, d_hopeDays_93, d_hopeTenths_94, d_hopeCount_95, d_degreesTold)))))) else zz_b7 (f_X3_readCall N t_text t_length t_place_1 d_words d_personCount) (fun r_77 t_place_78 t_token_79 t_begin_80 t_bytes_81 t_value_82 d_words_83 => zz_gd (zz_isB r_77) ((some (r_77, t_place_78, t_token_79, t_begin_80, t_bytes_81, t_value_82, t_parent, t_otherParent, d_numbers, d_syllables, d_syllableCount, d_days, d_words_83, d_parents, d_otherParents, d_kinds, d_personCount, d_hopeDays, d_hopeTenths, d_hopeCount, d_degreesTold)))))) else (if (16 : Int32) ≤ d_personCount then (some ((0 : Int32), t_place_1, t_token_2, t_begin_3, t_bytes_4, t_value_5, t_parent, t_otherParent, d_numbers, d_syllables, d_syllableCount, d_days, d_words, d_parents, d_otherParents, d_kinds, d_personCount, d_hopeDays, d_hopeTenths, d_hopeCount, d_degreesTold)) else zz_b8 (f_X3_readParents N t_text t_length t_place_1 t_parent t_otherParent d_personCount) (fun r_53 t_place_54 t_token_55 t_begin_56 t_bytes_57 t_value_58 t_parent_59 t_otherParent_60 => (if r_53 = 0 then (some ((0 : Int32), t_place_54, t_token_55, t_begin_56, t_bytes_57, t_value_58, t_parent_59, t_otherParent_60, d_numbers, d_syllables, d_syllableCount, d_days, d_words, d_parents, d_otherParents, d_kinds, d_personCount, d_hopeDays, d_hopeTenths, d_hopeCount, d_degreesTold)) else zz_b12 (f_X3_readBirth N t_text t_length t_place_54 t_parent_59 t_otherParent_60 d_days d_words d_parents d_otherParents d_kinds d_personCount) (fun r_62 t_place_63 t_token_64 t_begin_65 t_bytes_66 t_value_67 d_days_68 d_words_69 d_parents_70 d_otherParents_71 d_kinds_72 d_personCount_73 => (if r_62 = 0 then (some ((0 : Int32), t_place_63, t_token_64, t_begin_65, t_bytes_66, t_value_67, t_parent_59, t_otherParent_60, d_numbers, d_syllables, d_syllableCount, d_days_68, d_words_69, d_parents_70, d_otherParents_71, d_kinds_72, d_personCount_73, d_hopeDays, d_hopeTenths, d_hopeCount, d_degreesTold)) else (some ((1 : Int32), t_place_63, t_token_64, t_begin_65, t_bytes_66, t_value_67, t_parent_59, t_otherParent_60, d_numbers, d_syllables, d_syllableCount, d_days_68, d_words_69, d_parents_70, d_otherParents_71, d_kinds_72, d_personCount_73, d_hopeDays, d_hopeTenths, d_hopeCount, d_degreesTold))))))))) else (if (16 : Int32) ≤ d_personCount then (some ((0 : Int32), t_place_1, t_token_2, t_begin_3, t_bytes_4, t_value_5, t_parent, t_otherParent, d_numbers, d_syllables, d_syllableCount, d_days, d_words, d_parents, d_otherParents, d_kinds, d_personCount, d_hopeDays, d_hopeTenths, d_hopeCount, d_degreesTold)) else zz_b3 (f_X3_readNoParents N) (fun r_33 t_parent_34 t_otherParent_35 => (if r_33 = 0 then (some ((0 : Int32), t_place_1, t_token_2, t_begin_3, t_bytes_4, t_value_5, t_parent_34, t_otherParent_35, d_numbers, d_syllables, d_syllableCount, d_days, d_words, d_parents, d_otherParents, d_kinds, d_personCount, d_hopeDays, d_hopeTenths, d_hopeCount, d_degreesTold)) else zz_b12 (f_X3_readBirth N t_text t_length t_place_1 t_parent_34 t_otherParent_35 d_days d_words d_parents d_otherParents d_kinds d_personCount) (fun r_37 t_place_38 t_token_39 t_begin_40 t_bytes_41 t_value_42 d_days_43 d_words_44 d_parents_45 d_otherParents_46 d_kinds_47 d_personCount_48 => (if r_37 = 0 then (some ((0 : Int32), t_place_38, t_token_39, t_begin_40, t_bytes_41, t_value_42, t_parent_34, t_otherParent_35, d_numbers, d_syllables, d_syllableCount, d_days_43, d_words_44, d_parents_45, d_otherParents_46, d_kinds_47, d_personCount_48, d_hopeDays, d_hopeTenths, d_hopeCount, d_degreesTold)) else (some ((1 : Int32), t_place_38, t_token_39, t_begin_40, t_bytes_41, t_value_42, t_parent_34, t_otherParent_35, d_numbers, d_syllables, d_syllableCount, d_days_43, d_words_44, d_parents_45, d_otherParents_46, d_kinds_47, d_personCount_48, d_hopeDays, d_hopeTenths, d_hopeCount, d_degreesTold))))))))) else zz_b6 (f_X3_readWord N t_text t_length t_place_1 (3 : Int32)) (fun r_19 t_place_20 t_token_21 t_begin_22 t_bytes_23 t_value_24 => (if r_19 = 0 then (some ((0 : Int32), t_place_20, t_token_21, t_begin_22, t_bytes_23, t_value_24, t_parent, t_otherParent, d_numbers, d_syllables, d_syllableCount, d_days, d_words, d_parents, d_otherParents, d_kinds, d_personCount, d_hopeDays, d_hopeTenths, d_hopeCount, d_degreesTold)) else zz_b3 (f_X5_addSyllable N d_syllables d_syllableCount t_value_24) (fun r_26 d_syllables_27 d_syllableCount_28 => (if r_26 = 0 then (some ((0 : Int32), t_place_20, t_token_21, t_begin_22, t_bytes_23, t_value_24, t_parent, t_otherParent, d_numbers, d_syllables_27, d_syllableCount_28, d_days, d_words, d_parents, d_otherParents, d_kinds, d_personCount, d_hopeDays, d_hopeTenths, d_hopeCount, d_degreesTold)) else (some ((1 : Int32), t_place_20, t_token_21, t_begin_22, t_bytes_23, t_value_24, t_parent, t_otherParent, d_numbers, d_syllables_27, d_syllableCount_28, d_days, d_words, d_parents, d_otherParents, d_kinds, d_personCount, d_hopeDays, d_hopeTenths, d_hopeCount, d_degreesTold)))))))) else zz_b7 (f_X3_readLetter N t_text t_length t_place_1 d_numbers) (fun r_9 t_place_10 t_token_11 t_begin_12 t_bytes_13 t_value_14 d_numbers_15 => zz_gd (zz_isB r_9) ((some (r_9, t_place_10, t_token_11, t_begin_12, t_bytes_13, t_value_14, t_parent, t_otherParent, d_numbers_15, d_syllables, d_syllableCount, d_days, d_words, d_parents, d_otherParents, d_kinds, d_personCount, d_hopeDays, d_hopeTenths, d_hopeCount, d_degreesTold)))))) else (some ((0 : Int32), t_place_1, t_token_2, t_begin_3, t_bytes_4, t_value_5, t_parent, t_otherParent, d_numbers, d_syllables, d_syllableCount, d_days, d_words, d_parents, d_otherParents, d_kinds, d_personCount, d_hopeDays, d_hopeTenths, d_hopeCount, d_degreesTold))))
abbrev rm_X3_readLine : Room := { frames := 5, cells := 0, slots := 0, locals := 163 }
theorem mi_X3_readLine : zMI RX3 yX3_readLine cX3_readLine 1 (some .boolean) 0 := ⟨⟨tw_2_64, ts_X3_readLine, tw_1_3, tw_2_65⟩, by decide +kernel, by decide +kernel, by decide +kernel⟩
set_option maxHeartbeats 4000000 in
set_option maxRecDepth 100000 in
theorem k_X3_readLine (l : Launch) (D : va_G) (c : Nat → ClassId) (N : Nat) (t0 : Nat) (tA_text : Nat) (d0 : Nat) (t_text : Nat → Int32) (t_length : Int32) (t_lines : Int32) (t_place : Int32) (t_token : Int32) (t_begin : Int32) (t_bytes : Int32) (t_value : Int64) (t_parent : Int32) (t_otherParent : Int32) (d0_x : Nat) (dA_numbers : Nat) (dA_syllables : Nat) (dA_days : Nat) (dA_words : Nat) (dA_parents : Nat) (dA_otherParents : Nat) (dA_kinds : Nat) (dA_hopeDays : Nat) (dA_hopeTenths : Nat) (d_numbers : Nat → Int32) (d_syllables : Nat → Int64) (d_syllableCount : Int32) (d_days : Nat → Int32) (d_words : Nat → Int64) (d_parents : Nat → Int32) (d_otherParents : Nat → Int32) (d_kinds : Nat → Int32) (d_personCount : Int32) (d_hopeDays : Nat → Int32) (d_hopeTenths : Nat → Int32) (d_hopeCount : Int32) (d_degreesTold : Int32)  (o : Int32) (o_t_place : Int32) (o_t_token : Int32) (o_t_begin : Int32) (o_t_bytes : Int32) (o_t_value : Int64) (o_t_parent : Int32) (o_t_otherParent : Int32) (o_d_numbers : Nat → Int32) (o_d_syllables : Nat → Int64) (o_d_syllableCount : Int32) (o_d_days : Nat → Int32) (o_d_words : Nat → Int64) (o_d_parents : Nat → Int32) (o_d_otherParents : Nat → Int32) (o_d_kinds : Nat → Int32) (o_d_personCount : Int32) (o_d_hopeDays : Nat → Int32) (o_d_hopeTenths : Nat → Int32) (o_d_hopeCount : Int32) (o_d_degreesTold : Int32) (hf : f_X3_readLine N t_text t_length t_place t_parent t_otherParent d_numbers d_syllables d_syllableCount d_days d_words d_parents d_otherParents d_kinds d_personCount d_hopeDays d_hopeTenths d_hopeCount d_degreesTold = some (o, o_t_place, o_t_token, o_t_begin, o_t_bytes, o_t_value, o_t_parent, o_t_otherParent, o_d_numbers, o_d_syllables, o_d_syllableCount, o_d_days, o_d_words, o_d_parents, o_d_otherParents, o_d_kinds, o_d_personCount, o_d_hopeDays, o_d_hopeTenths, o_d_hopeCount, o_d_degreesTold)) : zMWi l D c yX3_readLine cX3_readLine 1 (some .boolean) rm_X3_readLine (wX3 c t0 tA_text d0 t_text t_length t_lines t_place t_token t_begin t_bytes t_value t_parent t_otherParent ++ wX5 c d0 dA_numbers dA_syllables dA_days dA_words dA_parents dA_otherParents dA_kinds dA_hopeDays dA_hopeTenths d_numbers d_syllables d_syllableCount d_days d_words d_parents d_otherParents d_kinds d_personCount d_hopeDays d_hopeTenths d_hopeCount d_degreesTold) (wX3 c t0 tA_text d0 t_text t_length t_lines o_t_place o_t_token o_t_begin o_t_bytes o_t_value o_t_parent o_t_otherParent ++ wX5 c d0 dA_numbers dA_syllables dA_days dA_words dA_parents dA_otherParents dA_kinds dA_hopeDays dA_hopeTenths o_d_numbers o_d_syllables o_d_syllableCount o_d_days o_d_words o_d_parents o_d_otherParents o_d_kinds o_d_personCount o_d_hopeDays o_d_hopeTenths o_d_hopeCount o_d_degreesTold) [.ref t0] o := by
  intro sz
  refine zIW (by decide) (Nat.le_of_ble_eq_true rfl) ?_
  intro p e s m args below meth c0 Q A hAe hQ hx hb hr hlk hml hts hown hP hE hD hS hA hsz hmn hX ls hl
  rw [← hAe] at hQ
  have S : CallFix p m c0 cX3_readLine 1 s args zT RX3 := ⟨hx, hb, hml, hown, hts⟩
  have hl : lv_has ls 1 [(0, .ref t0)] := hl
  unfold f_X3_readLine at hf
  refine lv_aload_n hx hb dX3_readLine_0 rfl (lv_at hl 0 rfl) ?_
  obtain ⟨t_place_1, t_token_2, t_begin_3, t_bytes_4, t_value_5, he_5, hf⟩ := zz_b5_use hf
  refine zwVv (As := []) (rest := []) (wr := []) (wX3 c t0 tA_text d0 t_text t_length t_lines t_place_1 t_token_2 t_begin_3 t_bytes_4 t_value_5 t_parent t_otherParent ++ wX5 c d0 dA_numbers dA_syllables dA_days dA_words dA_parents dA_otherParents dA_kinds dA_hopeDays dA_hopeTenths d_numbers d_syllables d_syllableCount d_days d_words d_parents d_otherParents d_kinds d_personCount d_hopeDays d_hopeTenths d_hopeCount d_degreesTold) [0, 1, 2, 3, 4, 5, 6, 7, 8, 9, 10, 11] [] [0, 1, 2, 3, 4, 5, 6, 7, 8, 9, 10, 11] S (k_X3_readToken l D c N t0 tA_text d0 t_text t_length t_lines t_place t_token t_begin t_bytes t_value t_parent t_otherParent d0 dA_numbers dA_syllables dA_days dA_words dA_parents dA_otherParents dA_kinds dA_hopeDays dA_hopeTenths d_numbers d_syllables d_syllableCount d_days d_words d_parents d_otherParents d_kinds d_personCount d_hopeDays d_hopeTenths d_hopeCount d_degreesTold  t_place_1 t_token_2 t_begin_3 t_bytes_4 t_value_5 he_5) mi_X3_readToken tw_2_66 ⟨(Nat.le_of_ble_eq_true rfl), (Nat.le_of_ble_eq_true rfl)⟩ ⟨rfl, rfl⟩ hP hD hS hA rfl rfl rfl rfl (by decide) rfl rfl hE hX (ci := 3) rfl rfl (q0 := 0) rfl rfl hl.1 rfl (Nat.le_of_ble_eq_true rfl) dX3_readLine_1 ⟨(Nat.le_of_ble_eq_true rfl), (Nat.le_of_ble_eq_true rfl)⟩ (fun H locs hP hD hS => ?_)
  refine lv_aload_n hx hb dX3_readLine_4 rfl (lv_at hl 0 rfl) ?_
  refine zget S uw_X3 hE hP 0 5 rfl rfl (by decide) tw_1_113 rfl rfl dX3_readLine_5 ?_
  refine lv_iconst (v := (1 : Int32)) hx hb dX3_readLine_8 (by decide) ?_
  refine lv_icmp_eq (tgt := 14) hx hb dX3_readLine_9 (by decide) (fun hc_6 => ?_) (fun hc_6 => ?_)
  · have hf := zz_it hf hc_6
    refine lv_aload_n hx hb dX3_readLine_14 rfl (lv_at hl 0 rfl) ?_
    refine va_ldcS (q := c (110 + 0)) (tx := "letter") hx hb hown (hX.2.2.2.1 (66, "letter", 0) (List.mem_of_getElem? (i := 0) rfl)) dX3_readLine_15 ?_
    obtain ⟨r_7, he_7, hf⟩ := zz_b1_use hf
    refine zcVi (As := [.ref (c (110 + 0))]) (rest := []) S (k_X3_says l D c N t0 tA_text d0 t_text t_length t_lines t_place_1 t_token_2 t_begin_3 t_bytes_4 t_value_5 t_parent t_otherParent d0 dA_numbers dA_syllables dA_days dA_words dA_parents dA_otherParents dA_kinds dA_hopeDays dA_hopeTenths d_numbers d_syllables d_syllableCount d_days d_words d_parents d_otherParents d_kinds d_personCount d_hopeDays d_hopeTenths d_hopeCount d_degreesTold 0 (by decide)  r_7 he_7) mi_X3_says tw_2_83 ⟨(Nat.le_of_ble_eq_true rfl), (Nat.le_of_ble_eq_true rfl)⟩ ⟨rfl, rfl⟩ hP hE hX hS (ci := 3) rfl rfl (q0 := 0) rfl rfl hl.1 rfl (Nat.le_of_ble_eq_true rfl) dX3_readLine_17 ⟨(Nat.le_of_ble_eq_true rfl), (Nat.le_of_ble_eq_true rfl)⟩ ?_
    refine lv_if_eq (tgt := 28) hx hb dX3_readLine_20 (by decide) (fun hc_8 => ?_) (fun hc_8 => ?_)
    · have hf := zz_it hf hc_8
      refine lv_aload_n hx hb dX3_readLine_28 rfl (lv_at hl 0 rfl) ?_
      refine va_ldcS (q := c (110 + 1)) (tx := "syl") hx hb hown (hX.2.2.2.1 (75, "syl", 1) (List.mem_of_getElem? (i := 1) rfl)) dX3_readLine_29 ?_
      obtain ⟨r_17, he_17, hf⟩ := zz_b1_use hf
      refine zcVi (As := [.ref (c (110 + 1))]) (rest := []) S (k_X3_says l D c N t0 tA_text d0 t_text t_length t_lines t_place_1 t_token_2 t_begin_3 t_bytes_4 t_value_5 t_parent t_otherParent d0 dA_numbers dA_syllables dA_days dA_words dA_parents dA_otherParents dA_kinds dA_hopeDays dA_hopeTenths d_numbers d_syllables d_syllableCount d_days d_words d_parents d_otherParents d_kinds d_personCount d_hopeDays d_hopeTenths d_hopeCount d_degreesTold 1 (by decide)  r_17 he_17) mi_X3_says tw_2_83 ⟨(Nat.le_of_ble_eq_true rfl), (Nat.le_of_ble_eq_true rfl)⟩ ⟨rfl, rfl⟩ hP hE hX hS (ci := 3) rfl rfl (q0 := 0) rfl rfl hl.1 rfl (Nat.le_of_ble_eq_true rfl) dX3_readLine_31 ⟨(Nat.le_of_ble_eq_true rfl), (Nat.le_of_ble_eq_true rfl)⟩ ?_
      refine lv_if_eq (tgt := 65) hx hb dX3_readLine_34 (by decide) (fun hc_18 => ?_) (fun hc_18 => ?_)
      · have hf := zz_it hf hc_18
        refine lv_aload_n hx hb dX3_readLine_65 rfl (lv_at hl 0 rfl) ?_
        refine va_ldcS (q := c (110 + 2)) (tx := "first") hx hb hown (hX.2.2.2.1 (85, "first", 2) (List.mem_of_getElem? (i := 2) rfl)) dX3_readLine_66 ?_
        obtain ⟨r_30, he_30, hf⟩ := zz_b1_use hf
        refine zcVi (As := [.ref (c (110 + 2))]) (rest := []) S (k_X3_says l D c N t0 tA_text d0 t_text t_length t_lines t_place_1 t_token_2 t_begin_3 t_bytes_4 t_value_5 t_parent t_otherParent d0 dA_numbers dA_syllables dA_days dA_words dA_parents dA_otherParents dA_kinds dA_hopeDays dA_hopeTenths d_numbers d_syllables d_syllableCount d_days d_words d_parents d_otherParents d_kinds d_personCount d_hopeDays d_hopeTenths d_hopeCount d_degreesTold 2 (by decide)  r_30 he_30) mi_X3_says tw_2_83 ⟨(Nat.le_of_ble_eq_true rfl), (Nat.le_of_ble_eq_true rfl)⟩ ⟨rfl, rfl⟩ hP hE hX hS (ci := 3) rfl rfl (q0 := 0) rfl rfl hl.1 rfl (Nat.le_of_ble_eq_true rfl) dX3_readLine_68 ⟨(Nat.le_of_ble_eq_true rfl), (Nat.le_of_ble_eq_true rfl)⟩ ?_
        refine lv_if_eq (tgt := 106) hx hb dX3_readLine_71 (by decide) (fun hc_31 => ?_) (fun hc_31 => ?_)
        · have hf := zz_it hf hc_31
          refine lv_aload_n hx hb dX3_readLine_106 rfl (lv_at hl 0 rfl) ?_
          refine va_ldcS (q := c (110 + 3)) (tx := "child") hx hb hown (hX.2.2.2.1 (96, "child", 3) (List.mem_of_getElem? (i := 3) rfl)) dX3_readLine_107 ?_
          obtain ⟨r_50, he_50, hf⟩ := zz_b1_use hf
          refine zcVi (As := [.ref (c (110 + 3))]) (rest := []) S (k_X3_says l D c N t0 tA_text d0 t_text t_length t_lines t_place_1 t_token_2 t_begin_3 t_bytes_4 t_value_5 t_parent t_otherParent d0 dA_numbers dA_syllables dA_days dA_words dA_parents dA_otherParents dA_kinds dA_hopeDays dA_hopeTenths d_numbers d_syllables d_syllableCount d_days d_words d_parents d_otherParents d_kinds d_personCount d_hopeDays d_hopeTenths d_hopeCount d_degreesTold 3 (by decide)  r_50 he_50) mi_X3_says tw_2_83 ⟨(Nat.le_of_ble_eq_true rfl), (Nat.le_of_ble_eq_true rfl)⟩ ⟨rfl, rfl⟩ hP hE hX hS (ci := 3) rfl rfl (q0 := 0) rfl rfl hl.1 rfl (Nat.le_of_ble_eq_true rfl) dX3_readLine_109 ⟨(Nat.le_of_ble_eq_true rfl), (Nat.le_of_ble_eq_true rfl)⟩ ?_
          refine lv_if_eq (tgt := 147) hx hb dX3_readLine_112 (by decide) (fun hc_51 => ?_) (fun hc_51 => ?_)
          · have hf := zz_it hf hc_51
            refine lv_aload_n hx hb dX3_readLine_147 rfl (lv_at hl 0 rfl) ?_
            refine va_ldcS (q := c (110 + 4)) (tx := "call") hx hb hown (hX.2.2.2.1 (101, "call", 4) (List.mem_of_getElem? (i := 4) rfl)) dX3_readLine_148 ?_
            obtain ⟨r_75, he_75, hf⟩ := zz_b1_use hf
            refine zcVi (As := [.ref (c (110 + 4))]) (rest := []) S (k_X3_says l D c N t0 tA_text d0 t_text t_length t_lines t_place_1 t_token_2 t_begin_3 t_bytes_4 t_value_5 t_parent t_otherParent d0 dA_numbers dA_syllables dA_days dA_words dA_parents dA_otherParents dA_kinds dA_hopeDays dA_hopeTenths d_numbers d_syllables d_syllableCount d_days d_words d_parents d_otherParents d_kinds d_personCount d_hopeDays d_hopeTenths d_hopeCount d_degreesTold 4 (by decide)  r_75 he_75) mi_X3_says tw_2_83 ⟨(Nat.le_of_ble_eq_true rfl), (Nat.le_of_ble_eq_true rfl)⟩ ⟨rfl, rfl⟩ hP hE hX hS (ci := 3) rfl rfl (q0 := 0) rfl rfl hl.1 rfl (Nat.le_of_ble_eq_true rfl) dX3_readLine_150 ⟨(Nat.le_of_ble_eq_true rfl), (Nat.le_of_ble_eq_true rfl)⟩ ?_
            refine lv_if_eq (tgt := 161) hx hb dX3_readLine_153 (by decide) (fun hc_76 => ?_) (fun hc_76 => ?_)
            · have hf := zz_it hf hc_76
              refine lv_aload_n hx hb dX3_readLine_161 rfl (lv_at hl 0 rfl) ?_
              refine va_ldcS (q := c (110 + 5)) (tx := "hope") hx hb hown (hX.2.2.2.1 (106, "hope", 5) (List.mem_of_getElem? (i := 5) rfl)) dX3_readLine_162 ?_
              obtain ⟨r_85, he_85, hf⟩ := zz_b1_use hf
              refine zcVi (As := [.ref (c (110 + 5))]) (rest := []) S (k_X3_says l D c N t0 tA_text d0 t_text t_length t_lines t_place_1 t_token_2 t_begin_3 t_bytes_4 t_value_5 t_parent t_otherParent d0 dA_numbers dA_syllables dA_days dA_words dA_parents dA_otherParents dA_kinds dA_hopeDays dA_hopeTenths d_numbers d_syllables d_syllableCount d_days d_words d_parents d_otherParents d_kinds d_personCount d_hopeDays d_hopeTenths d_hopeCount d_degreesTold 5 (by decide)  r_85 he_85) mi_X3_says tw_2_83 ⟨(Nat.le_of_ble_eq_true rfl), (Nat.le_of_ble_eq_true rfl)⟩ ⟨rfl, rfl⟩ hP hE hX hS (ci := 3) rfl rfl (q0 := 0) rfl rfl hl.1 rfl (Nat.le_of_ble_eq_true rfl) dX3_readLine_164 ⟨(Nat.le_of_ble_eq_true rfl), (Nat.le_of_ble_eq_true rfl)⟩ ?_
              refine lv_if_eq (tgt := 175) hx hb dX3_readLine_167 (by decide) (fun hc_86 => ?_) (fun hc_86 => ?_)
              · have hf := zz_it hf hc_86
                refine lv_aload_n hx hb dX3_readLine_175 rfl (lv_at hl 0 rfl) ?_
                refine va_ldcS (q := c (110 + 6)) (tx := "degrees") hx hb hown (hX.2.2.2.1 (111, "degrees", 6) (List.mem_of_getElem? (i := 6) rfl)) dX3_readLine_176 ?_
                obtain ⟨r_97, he_97, hf⟩ := zz_b1_use hf
                refine zcVi (As := [.ref (c (110 + 6))]) (rest := []) S (k_X3_says l D c N t0 tA_text d0 t_text t_length t_lines t_place_1 t_token_2 t_begin_3 t_bytes_4 t_value_5 t_parent t_otherParent d0 dA_numbers dA_syllables dA_days dA_words dA_parents dA_otherParents dA_kinds dA_hopeDays dA_hopeTenths d_numbers d_syllables d_syllableCount d_days d_words d_parents d_otherParents d_kinds d_personCount d_hopeDays d_hopeTenths d_hopeCount d_degreesTold 6 (by decide)  r_97 he_97) mi_X3_says tw_2_83 ⟨(Nat.le_of_ble_eq_true rfl), (Nat.le_of_ble_eq_true rfl)⟩ ⟨rfl, rfl⟩ hP hE hX hS (ci := 3) rfl rfl (q0 := 0) rfl rfl hl.1 rfl (Nat.le_of_ble_eq_true rfl) dX3_readLine_178 ⟨(Nat.le_of_ble_eq_true rfl), (Nat.le_of_ble_eq_true rfl)⟩ ?_
                refine lv_if_eq (tgt := 189) hx hb dX3_readLine_181 (by decide) (fun hc_98 => ?_) (fun hc_98 => ?_)
                · have hf := zz_it hf hc_98
                  refine lv_aload_n hx hb dX3_readLine_189 rfl (lv_at hl 0 rfl) ?_
                  refine va_ldcS (q := c (110 + 7)) (tx := "forget") hx hb hown (hX.2.2.2.1 (116, "forget", 7) (List.mem_of_getElem? (i := 7) rfl)) dX3_readLine_190 ?_
                  obtain ⟨r_107, he_107, hf⟩ := zz_b1_use hf
                  refine zcVi (As := [.ref (c (110 + 7))]) (rest := []) S (k_X3_says l D c N t0 tA_text d0 t_text t_length t_lines t_place_1 t_token_2 t_begin_3 t_bytes_4 t_value_5 t_parent t_otherParent d0 dA_numbers dA_syllables dA_days dA_words dA_parents dA_otherParents dA_kinds dA_hopeDays dA_hopeTenths d_numbers d_syllables d_syllableCount d_days d_words d_parents d_otherParents d_kinds d_personCount d_hopeDays d_hopeTenths d_hopeCount d_degreesTold 7 (by decide)  r_107 he_107) mi_X3_says tw_2_83 ⟨(Nat.le_of_ble_eq_true rfl), (Nat.le_of_ble_eq_true rfl)⟩ ⟨rfl, rfl⟩ hP hE hX hS (ci := 3) rfl rfl (q0 := 0) rfl rfl hl.1 rfl (Nat.le_of_ble_eq_true rfl) dX3_readLine_192 ⟨(Nat.le_of_ble_eq_true rfl), (Nat.le_of_ble_eq_true rfl)⟩ ?_
                  refine lv_if_eq (tgt := 209) hx hb dX3_readLine_195 (by decide) (fun hc_108 => ?_) (fun hc_108 => ?_)
                  · have hf := zz_it hf hc_108
                    refine lv_iconst (v := (0 : Int32)) hx hb dX3_readLine_209 (by decide) ?_
                    cases hf
                    exact zRWz hQ hx hb hr hlk rfl rfl hP hD hS dX3_readLine_210
                  · have hf := zz_if hf hc_108
                    refine lv_aload_n hx hb dX3_readLine_198 rfl (lv_at hl 0 rfl) ?_
                    obtain ⟨r_109, d_syllableCount_110, d_personCount_111, d_hopeCount_112, he_112, hf⟩ := zz_b4_use hf
                    refine zwVi (As := []) (rest := []) (wr := []) (wX3 c t0 tA_text d0 t_text t_length t_lines t_place_1 t_token_2 t_begin_3 t_bytes_4 t_value_5 t_parent t_otherParent ++ wX5 c d0 dA_numbers dA_syllables dA_days dA_words dA_parents dA_otherParents dA_kinds dA_hopeDays dA_hopeTenths d_numbers d_syllables d_syllableCount_110 d_days d_words d_parents d_otherParents d_kinds d_personCount_111 d_hopeDays d_hopeTenths d_hopeCount_112 d_degreesTold) [0, 1, 2, 3, 4, 5, 6, 7, 8, 9, 10, 11] [] [0, 1, 2, 3, 4, 5, 6, 7, 8, 9, 10, 11] S (k_X3_readForget l D c N t0 tA_text d0 t_text t_length t_lines t_place_1 t_token_2 t_begin_3 t_bytes_4 t_value_5 t_parent t_otherParent d0 dA_numbers dA_syllables dA_days dA_words dA_parents dA_otherParents dA_kinds dA_hopeDays dA_hopeTenths d_numbers d_syllables d_syllableCount d_days d_words d_parents d_otherParents d_kinds d_personCount d_hopeDays d_hopeTenths d_hopeCount d_degreesTold  r_109 d_syllableCount_110 d_personCount_111 d_hopeCount_112 he_112) mi_X3_readForget tw_2_214 ⟨(Nat.le_of_ble_eq_true rfl), (Nat.le_of_ble_eq_true rfl)⟩ ⟨rfl, rfl⟩ hP hD hS hA rfl rfl rfl rfl (by decide) rfl rfl hE hX (ci := 3) rfl rfl (q0 := 0) rfl rfl hl.1 rfl (Nat.le_of_ble_eq_true rfl) dX3_readLine_199 ⟨(Nat.le_of_ble_eq_true rfl), (Nat.le_of_ble_eq_true rfl)⟩ (fun H locs hP hD hS => ?_)
                    refine lv_if_eq (tgt := 209) hx hb dX3_readLine_202 (by decide) (fun hc_113 => ?_) (fun hc_113 => ?_)
                    · have hf := zz_it hf hc_113
                      refine lv_iconst (v := (0 : Int32)) hx hb dX3_readLine_209 (by decide) ?_
                      cases hf
                      exact zRWz hQ hx hb hr hlk rfl rfl hP hD hS dX3_readLine_210
                    · have hf := zz_if hf hc_113
                      refine lv_iconst (v := (1 : Int32)) hx hb dX3_readLine_205 (by decide) ?_
                      refine lv_goto (tgt := 210) hx hb dX3_readLine_206 (by decide) ?_
                      cases hf
                      exact zRWz hQ hx hb hr hlk rfl rfl hP hD hS dX3_readLine_210
                · have hf := zz_if hf hc_98
                  refine lv_aload_n hx hb dX3_readLine_184 rfl (lv_at hl 0 rfl) ?_
                  obtain ⟨r_99, t_place_100, t_token_101, t_begin_102, t_bytes_103, t_value_104, d_degreesTold_105, he_105, hf⟩ := zz_b7_use hf
                  refine zwVi (As := []) (rest := []) (wr := []) (wX3 c t0 tA_text d0 t_text t_length t_lines t_place_100 t_token_101 t_begin_102 t_bytes_103 t_value_104 t_parent t_otherParent ++ wX5 c d0 dA_numbers dA_syllables dA_days dA_words dA_parents dA_otherParents dA_kinds dA_hopeDays dA_hopeTenths d_numbers d_syllables d_syllableCount d_days d_words d_parents d_otherParents d_kinds d_personCount d_hopeDays d_hopeTenths d_hopeCount d_degreesTold_105) [0, 1, 2, 3, 4, 5, 6, 7, 8, 9, 10, 11] [] [0, 1, 2, 3, 4, 5, 6, 7, 8, 9, 10, 11] S (k_X3_readDegrees l D c N t0 tA_text d0 t_text t_length t_lines t_place_1 t_token_2 t_begin_3 t_bytes_4 t_value_5 t_parent t_otherParent d0 dA_numbers dA_syllables dA_days dA_words dA_parents dA_otherParents dA_kinds dA_hopeDays dA_hopeTenths d_numbers d_syllables d_syllableCount d_days d_words d_parents d_otherParents d_kinds d_personCount d_hopeDays d_hopeTenths d_hopeCount d_degreesTold  r_99 t_place_100 t_token_101 t_begin_102 t_bytes_103 t_value_104 d_degreesTold_105 he_105) mi_X3_readDegrees tw_2_209 ⟨(Nat.le_of_ble_eq_true rfl), (Nat.le_of_ble_eq_true rfl)⟩ ⟨rfl, rfl⟩ hP hD hS hA rfl rfl rfl rfl (by decide) rfl rfl hE hX (ci := 3) rfl rfl (q0 := 0) rfl rfl hl.1 rfl (Nat.le_of_ble_eq_true rfl) dX3_readLine_185 ⟨(Nat.le_of_ble_eq_true rfl), (Nat.le_of_ble_eq_true rfl)⟩ (fun H locs hP hD hS => ?_)
                  obtain ⟨hb_106, hf⟩ := zz_gd_use hf
                  cases hf
                  exact zRWz hQ hx hb hr hlk (zz_isB_ok hb_106) rfl hP hD hS dX3_readLine_188
              · have hf := zz_if hf hc_86
                refine lv_aload_n hx hb dX3_readLine_170 rfl (lv_at hl 0 rfl) ?_
                obtain ⟨r_87, t_place_88, t_token_89, t_begin_90, t_bytes_91, t_value_92, d_hopeDays_93, d_hopeTenths_94, d_hopeCount_95, he_95, hf⟩ := zz_b9_use hf
                refine zwVi (As := []) (rest := []) (wr := []) (wX3 c t0 tA_text d0 t_text t_length t_lines t_place_88 t_token_89 t_begin_90 t_bytes_91 t_value_92 t_parent t_otherParent ++ wX5 c d0 dA_numbers dA_syllables dA_days dA_words dA_parents dA_otherParents dA_kinds dA_hopeDays dA_hopeTenths d_numbers d_syllables d_syllableCount d_days d_words d_parents d_otherParents d_kinds d_personCount d_hopeDays_93 d_hopeTenths_94 d_hopeCount_95 d_degreesTold) [0, 1, 2, 3, 4, 5, 6, 7, 8, 9, 10, 11] [] [0, 1, 2, 3, 4, 5, 6, 7, 8, 9, 10, 11] S (k_X3_readHope l D c N t0 tA_text d0 t_text t_length t_lines t_place_1 t_token_2 t_begin_3 t_bytes_4 t_value_5 t_parent t_otherParent d0 dA_numbers dA_syllables dA_days dA_words dA_parents dA_otherParents dA_kinds dA_hopeDays dA_hopeTenths d_numbers d_syllables d_syllableCount d_days d_words d_parents d_otherParents d_kinds d_personCount d_hopeDays d_hopeTenths d_hopeCount d_degreesTold  r_87 t_place_88 t_token_89 t_begin_90 t_bytes_91 t_value_92 d_hopeDays_93 d_hopeTenths_94 d_hopeCount_95 he_95) mi_X3_readHope tw_2_200 ⟨(Nat.le_of_ble_eq_true rfl), (Nat.le_of_ble_eq_true rfl)⟩ ⟨rfl, rfl⟩ hP hD hS hA rfl rfl rfl rfl (by decide) rfl rfl hE hX (ci := 3) rfl rfl (q0 := 0) rfl rfl hl.1 rfl (Nat.le_of_ble_eq_true rfl) dX3_readLine_171 ⟨(Nat.le_of_ble_eq_true rfl), (Nat.le_of_ble_eq_true rfl)⟩ (fun H locs hP hD hS => ?_)
                obtain ⟨hb_96, hf⟩ := zz_gd_use hf
                cases hf
                exact zRWz hQ hx hb hr hlk (zz_isB_ok hb_96) rfl hP hD hS dX3_readLine_174
            · have hf := zz_if hf hc_76
              refine lv_aload_n hx hb dX3_readLine_156 rfl (lv_at hl 0 rfl) ?_
              obtain ⟨r_77, t_place_78, t_token_79, t_begin_80, t_bytes_81, t_value_82, d_words_83, he_83, hf⟩ := zz_b7_use hf
              refine zwVi (As := []) (rest := []) (wr := []) (wX3 c t0 tA_text d0 t_text t_length t_lines t_place_78 t_token_79 t_begin_80 t_bytes_81 t_value_82 t_parent t_otherParent ++ wX5 c d0 dA_numbers dA_syllables dA_days dA_words dA_parents dA_otherParents dA_kinds dA_hopeDays dA_hopeTenths d_numbers d_syllables d_syllableCount d_days d_words_83 d_parents d_otherParents d_kinds d_personCount d_hopeDays d_hopeTenths d_hopeCount d_degreesTold) [0, 1, 2, 3, 4, 5, 6, 7, 8, 9, 10, 11] [] [0, 1, 2, 3, 4, 5, 6, 7, 8, 9, 10, 11] S (k_X3_readCall l D c N t0 tA_text d0 t_text t_length t_lines t_place_1 t_token_2 t_begin_3 t_bytes_4 t_value_5 t_parent t_otherParent d0 dA_numbers dA_syllables dA_days dA_words dA_parents dA_otherParents dA_kinds dA_hopeDays dA_hopeTenths d_numbers d_syllables d_syllableCount d_days d_words d_parents d_otherParents d_kinds d_personCount d_hopeDays d_hopeTenths d_hopeCount d_degreesTold  r_77 t_place_78 t_token_79 t_begin_80 t_bytes_81 t_value_82 d_words_83 he_83) mi_X3_readCall tw_2_195 ⟨(Nat.le_of_ble_eq_true rfl), (Nat.le_of_ble_eq_true rfl)⟩ ⟨rfl, rfl⟩ hP hD hS hA rfl rfl rfl rfl (by decide) rfl rfl hE hX (ci := 3) rfl rfl (q0 := 0) rfl rfl hl.1 rfl (Nat.le_of_ble_eq_true rfl) dX3_readLine_157 ⟨(Nat.le_of_ble_eq_true rfl), (Nat.le_of_ble_eq_true rfl)⟩ (fun H locs hP hD hS => ?_)
              obtain ⟨hb_84, hf⟩ := zz_gd_use hf
              cases hf
              exact zRWz hQ hx hb hr hlk (zz_isB_ok hb_84) rfl hP hD hS dX3_readLine_160
          · have hf := zz_if hf hc_51
            refine lv_aload_n hx hb dX3_readLine_115 rfl (lv_at hl 0 rfl) ?_
            refine zget S uw_X3 hE hP 0 2 rfl rfl (by decide) tw_1_108 rfl rfl dX3_readLine_116 ?_
            refine zget S uw_X5 hE hP 2 8 rfl rfl (by decide) tw_1_55 rfl rfl dX3_readLine_119 ?_
            refine lv_bipush (v := (16 : Int32)) hx hb dX3_readLine_122 (by decide) ?_
            refine lv_icmp_ge (tgt := 145) hx hb dX3_readLine_124 (by decide) (fun hc_52 => ?_) (fun hc_52 => ?_)
            · have hf := zz_it hf hc_52
              refine lv_iconst (v := (0 : Int32)) hx hb dX3_readLine_145 (by decide) ?_
              cases hf
              exact zRWz hQ hx hb hr hlk rfl rfl hP hD hS dX3_readLine_146
            · have hf := zz_if hf hc_52
              refine lv_aload_n hx hb dX3_readLine_127 rfl (lv_at hl 0 rfl) ?_
              obtain ⟨r_53, t_place_54, t_token_55, t_begin_56, t_bytes_57, t_value_58, t_parent_59, t_otherParent_60, he_60, hf⟩ := zz_b8_use hf
              refine zwVi (As := []) (rest := []) (wr := []) (wX3 c t0 tA_text d0 t_text t_length t_lines t_place_54 t_token_55 t_begin_56 t_bytes_57 t_value_58 t_parent_59 t_otherParent_60 ++ wX5 c d0 dA_numbers dA_syllables dA_days dA_words dA_parents dA_otherParents dA_kinds dA_hopeDays dA_hopeTenths d_numbers d_syllables d_syllableCount d_days d_words d_parents d_otherParents d_kinds d_personCount d_hopeDays d_hopeTenths d_hopeCount d_degreesTold) [0, 1, 2, 3, 4, 5, 6, 7, 8, 9, 10, 11] [] [0, 1, 2, 3, 4, 5, 6, 7, 8, 9, 10, 11] S (k_X3_readParents l D c N t0 tA_text d0 t_text t_length t_lines t_place_1 t_token_2 t_begin_3 t_bytes_4 t_value_5 t_parent t_otherParent d0 dA_numbers dA_syllables dA_days dA_words dA_parents dA_otherParents dA_kinds dA_hopeDays dA_hopeTenths d_numbers d_syllables d_syllableCount d_days d_words d_parents d_otherParents d_kinds d_personCount d_hopeDays d_hopeTenths d_hopeCount d_degreesTold  r_53 t_place_54 t_token_55 t_begin_56 t_bytes_57 t_value_58 t_parent_59 t_otherParent_60 he_60) mi_X3_readParents tw_2_186 ⟨(Nat.le_of_ble_eq_true rfl), (Nat.le_of_ble_eq_true rfl)⟩ ⟨rfl, rfl⟩ hP hD hS hA rfl rfl rfl rfl (by decide) rfl rfl hE hX (ci := 3) rfl rfl (q0 := 0) rfl rfl hl.1 rfl (Nat.le_of_ble_eq_true rfl) dX3_readLine_128 ⟨(Nat.le_of_ble_eq_true rfl), (Nat.le_of_ble_eq_true rfl)⟩ (fun H locs hP hD hS => ?_)
              refine lv_if_eq (tgt := 145) hx hb dX3_readLine_131 (by decide) (fun hc_61 => ?_) (fun hc_61 => ?_)
              · have hf := zz_it hf hc_61
                refine lv_iconst (v := (0 : Int32)) hx hb dX3_readLine_145 (by decide) ?_
                cases hf
                exact zRWz hQ hx hb hr hlk rfl rfl hP hD hS dX3_readLine_146
              · have hf := zz_if hf hc_61
                refine lv_aload_n hx hb dX3_readLine_134 rfl (lv_at hl 0 rfl) ?_
                obtain ⟨r_62, t_place_63, t_token_64, t_begin_65, t_bytes_66, t_value_67, d_days_68, d_words_69, d_parents_70, d_otherParents_71, d_kinds_72, d_personCount_73, he_73, hf⟩ := zz_b12_use hf
                refine zwVi (As := []) (rest := []) (wr := []) (wX3 c t0 tA_text d0 t_text t_length t_lines t_place_63 t_token_64 t_begin_65 t_bytes_66 t_value_67 t_parent_59 t_otherParent_60 ++ wX5 c d0 dA_numbers dA_syllables dA_days dA_words dA_parents dA_otherParents dA_kinds dA_hopeDays dA_hopeTenths d_numbers d_syllables d_syllableCount d_days_68 d_words_69 d_parents_70 d_otherParents_71 d_kinds_72 d_personCount_73 d_hopeDays d_hopeTenths d_hopeCount d_degreesTold) [0, 1, 2, 3, 4, 5, 6, 7, 8, 9, 10, 11] [] [0, 1, 2, 3, 4, 5, 6, 7, 8, 9, 10, 11] S (k_X3_readBirth l D c N t0 tA_text d0 t_text t_length t_lines t_place_54 t_token_55 t_begin_56 t_bytes_57 t_value_58 t_parent_59 t_otherParent_60 d0 dA_numbers dA_syllables dA_days dA_words dA_parents dA_otherParents dA_kinds dA_hopeDays dA_hopeTenths d_numbers d_syllables d_syllableCount d_days d_words d_parents d_otherParents d_kinds d_personCount d_hopeDays d_hopeTenths d_hopeCount d_degreesTold  r_62 t_place_63 t_token_64 t_begin_65 t_bytes_66 t_value_67 d_days_68 d_words_69 d_parents_70 d_otherParents_71 d_kinds_72 d_personCount_73 he_73) mi_X3_readBirth tw_2_168 ⟨(Nat.le_of_ble_eq_true rfl), (Nat.le_of_ble_eq_true rfl)⟩ ⟨rfl, rfl⟩ hP hD hS hA rfl rfl rfl rfl (by decide) rfl rfl hE hX (ci := 3) rfl rfl (q0 := 0) rfl rfl hl.1 rfl (Nat.le_of_ble_eq_true rfl) dX3_readLine_135 ⟨(Nat.le_of_ble_eq_true rfl), (Nat.le_of_ble_eq_true rfl)⟩ (fun H locs hP hD hS => ?_)
                refine lv_if_eq (tgt := 145) hx hb dX3_readLine_138 (by decide) (fun hc_74 => ?_) (fun hc_74 => ?_)
                · have hf := zz_it hf hc_74
                  refine lv_iconst (v := (0 : Int32)) hx hb dX3_readLine_145 (by decide) ?_
                  cases hf
                  exact zRWz hQ hx hb hr hlk rfl rfl hP hD hS dX3_readLine_146
                · have hf := zz_if hf hc_74
                  refine lv_iconst (v := (1 : Int32)) hx hb dX3_readLine_141 (by decide) ?_
                  refine lv_goto (tgt := 146) hx hb dX3_readLine_142 (by decide) ?_
                  cases hf
                  exact zRWz hQ hx hb hr hlk rfl rfl hP hD hS dX3_readLine_146
        · have hf := zz_if hf hc_31
          refine lv_aload_n hx hb dX3_readLine_74 rfl (lv_at hl 0 rfl) ?_
          refine zget S uw_X3 hE hP 0 2 rfl rfl (by decide) tw_1_108 rfl rfl dX3_readLine_75 ?_
          refine zget S uw_X5 hE hP 2 8 rfl rfl (by decide) tw_1_55 rfl rfl dX3_readLine_78 ?_
          refine lv_bipush (v := (16 : Int32)) hx hb dX3_readLine_81 (by decide) ?_
          refine lv_icmp_ge (tgt := 104) hx hb dX3_readLine_83 (by decide) (fun hc_32 => ?_) (fun hc_32 => ?_)
          · have hf := zz_it hf hc_32
            refine lv_iconst (v := (0 : Int32)) hx hb dX3_readLine_104 (by decide) ?_
            cases hf
            exact zRWz hQ hx hb hr hlk rfl rfl hP hD hS dX3_readLine_105
          · have hf := zz_if hf hc_32
            refine lv_aload_n hx hb dX3_readLine_86 rfl (lv_at hl 0 rfl) ?_
            obtain ⟨r_33, t_parent_34, t_otherParent_35, he_35, hf⟩ := zz_b3_use hf
            refine zwVi (As := []) (rest := []) (wr := []) (wX3 c t0 tA_text d0 t_text t_length t_lines t_place_1 t_token_2 t_begin_3 t_bytes_4 t_value_5 t_parent_34 t_otherParent_35 ++ wX5 c d0 dA_numbers dA_syllables dA_days dA_words dA_parents dA_otherParents dA_kinds dA_hopeDays dA_hopeTenths d_numbers d_syllables d_syllableCount d_days d_words d_parents d_otherParents d_kinds d_personCount d_hopeDays d_hopeTenths d_hopeCount d_degreesTold) [0, 1, 2, 3, 4, 5, 6, 7, 8, 9, 10, 11] [] [0, 1, 2, 3, 4, 5, 6, 7, 8, 9, 10, 11] S (k_X3_readNoParents l D c N t0 tA_text d0 t_text t_length t_lines t_place_1 t_token_2 t_begin_3 t_bytes_4 t_value_5 t_parent t_otherParent d0 dA_numbers dA_syllables dA_days dA_words dA_parents dA_otherParents dA_kinds dA_hopeDays dA_hopeTenths d_numbers d_syllables d_syllableCount d_days d_words d_parents d_otherParents d_kinds d_personCount d_hopeDays d_hopeTenths d_hopeCount d_degreesTold  r_33 t_parent_34 t_otherParent_35 he_35) mi_X3_readNoParents tw_2_164 ⟨(Nat.le_of_ble_eq_true rfl), (Nat.le_of_ble_eq_true rfl)⟩ ⟨rfl, rfl⟩ hP hD hS hA rfl rfl rfl rfl (by decide) rfl rfl hE hX (ci := 3) rfl rfl (q0 := 0) rfl rfl hl.1 rfl (Nat.le_of_ble_eq_true rfl) dX3_readLine_87 ⟨(Nat.le_of_ble_eq_true rfl), (Nat.le_of_ble_eq_true rfl)⟩ (fun H locs hP hD hS => ?_)
            refine lv_if_eq (tgt := 104) hx hb dX3_readLine_90 (by decide) (fun hc_36 => ?_) (fun hc_36 => ?_)
            · have hf := zz_it hf hc_36
              refine lv_iconst (v := (0 : Int32)) hx hb dX3_readLine_104 (by decide) ?_
              cases hf
              exact zRWz hQ hx hb hr hlk rfl rfl hP hD hS dX3_readLine_105
            · have hf := zz_if hf hc_36
              refine lv_aload_n hx hb dX3_readLine_93 rfl (lv_at hl 0 rfl) ?_
              obtain ⟨r_37, t_place_38, t_token_39, t_begin_40, t_bytes_41, t_value_42, d_days_43, d_words_44, d_parents_45, d_otherParents_46, d_kinds_47, d_personCount_48, he_48, hf⟩ := zz_b12_use hf
              refine zwVi (As := []) (rest := []) (wr := []) (wX3 c t0 tA_text d0 t_text t_length t_lines t_place_38 t_token_39 t_begin_40 t_bytes_41 t_value_42 t_parent_34 t_otherParent_35 ++ wX5 c d0 dA_numbers dA_syllables dA_days dA_words dA_parents dA_otherParents dA_kinds dA_hopeDays dA_hopeTenths d_numbers d_syllables d_syllableCount d_days_43 d_words_44 d_parents_45 d_otherParents_46 d_kinds_47 d_personCount_48 d_hopeDays d_hopeTenths d_hopeCount d_degreesTold) [0, 1, 2, 3, 4, 5, 6, 7, 8, 9, 10, 11] [] [0, 1, 2, 3, 4, 5, 6, 7, 8, 9, 10, 11] S (k_X3_readBirth l D c N t0 tA_text d0 t_text t_length t_lines t_place_1 t_token_2 t_begin_3 t_bytes_4 t_value_5 t_parent_34 t_otherParent_35 d0 dA_numbers dA_syllables dA_days dA_words dA_parents dA_otherParents dA_kinds dA_hopeDays dA_hopeTenths d_numbers d_syllables d_syllableCount d_days d_words d_parents d_otherParents d_kinds d_personCount d_hopeDays d_hopeTenths d_hopeCount d_degreesTold  r_37 t_place_38 t_token_39 t_begin_40 t_bytes_41 t_value_42 d_days_43 d_words_44 d_parents_45 d_otherParents_46 d_kinds_47 d_personCount_48 he_48) mi_X3_readBirth tw_2_168 ⟨(Nat.le_of_ble_eq_true rfl), (Nat.le_of_ble_eq_true rfl)⟩ ⟨rfl, rfl⟩ hP hD hS hA rfl rfl rfl rfl (by decide) rfl rfl hE hX (ci := 3) rfl rfl (q0 := 0) rfl rfl hl.1 rfl (Nat.le_of_ble_eq_true rfl) dX3_readLine_94 ⟨(Nat.le_of_ble_eq_true rfl), (Nat.le_of_ble_eq_true rfl)⟩ (fun H locs hP hD hS => ?_)
              refine lv_if_eq (tgt := 104) hx hb dX3_readLine_97 (by decide) (fun hc_49 => ?_) (fun hc_49 => ?_)
              · have hf := zz_it hf hc_49
                refine lv_iconst (v := (0 : Int32)) hx hb dX3_readLine_104 (by decide) ?_
                cases hf
                exact zRWz hQ hx hb hr hlk rfl rfl hP hD hS dX3_readLine_105
              · have hf := zz_if hf hc_49
                refine lv_iconst (v := (1 : Int32)) hx hb dX3_readLine_100 (by decide) ?_
                refine lv_goto (tgt := 105) hx hb dX3_readLine_101 (by decide) ?_
                cases hf
                exact zRWz hQ hx hb hr hlk rfl rfl hP hD hS dX3_readLine_105
      · have hf := zz_if hf hc_18
        refine lv_aload_n hx hb dX3_readLine_37 rfl (lv_at hl 0 rfl) ?_
        refine lv_iconst (v := (3 : Int32)) hx hb dX3_readLine_38 (by decide) ?_
        obtain ⟨r_19, t_place_20, t_token_21, t_begin_22, t_bytes_23, t_value_24, he_24, hf⟩ := zz_b6_use hf
        refine zwVi (As := [.int (3 : Int32)]) (rest := []) (wr := []) (wX3 c t0 tA_text d0 t_text t_length t_lines t_place_20 t_token_21 t_begin_22 t_bytes_23 t_value_24 t_parent t_otherParent ++ wX5 c d0 dA_numbers dA_syllables dA_days dA_words dA_parents dA_otherParents dA_kinds dA_hopeDays dA_hopeTenths d_numbers d_syllables d_syllableCount d_days d_words d_parents d_otherParents d_kinds d_personCount d_hopeDays d_hopeTenths d_hopeCount d_degreesTold) [0, 1, 2, 3, 4, 5, 6, 7, 8, 9, 10, 11] [] [0, 1, 2, 3, 4, 5, 6, 7, 8, 9, 10, 11] S (k_X3_readWord l D c N t0 tA_text d0 t_text t_length t_lines t_place_1 t_token_2 t_begin_3 t_bytes_4 t_value_5 t_parent t_otherParent d0 dA_numbers dA_syllables dA_days dA_words dA_parents dA_otherParents dA_kinds dA_hopeDays dA_hopeTenths d_numbers d_syllables d_syllableCount d_days d_words d_parents d_otherParents d_kinds d_personCount d_hopeDays d_hopeTenths d_hopeCount d_degreesTold (3 : Int32) r_19 t_place_20 t_token_21 t_begin_22 t_bytes_23 t_value_24 he_24) mi_X3_readWord tw_2_139 ⟨(Nat.le_of_ble_eq_true rfl), (Nat.le_of_ble_eq_true rfl)⟩ ⟨rfl, rfl⟩ hP hD hS hA rfl rfl rfl rfl (by decide) rfl rfl hE hX (ci := 3) rfl rfl (q0 := 0) rfl rfl hl.1 rfl (Nat.le_of_ble_eq_true rfl) dX3_readLine_39 ⟨(Nat.le_of_ble_eq_true rfl), (Nat.le_of_ble_eq_true rfl)⟩ (fun H locs hP hD hS => ?_)
        refine lv_if_eq (tgt := 63) hx hb dX3_readLine_42 (by decide) (fun hc_25 => ?_) (fun hc_25 => ?_)
        · have hf := zz_it hf hc_25
          refine lv_iconst (v := (0 : Int32)) hx hb dX3_readLine_63 (by decide) ?_
          cases hf
          exact zRWz hQ hx hb hr hlk rfl rfl hP hD hS dX3_readLine_64
        · have hf := zz_if hf hc_25
          refine lv_aload_n hx hb dX3_readLine_45 rfl (lv_at hl 0 rfl) ?_
          refine zget S uw_X3 hE hP 0 2 rfl rfl (by decide) tw_1_108 rfl rfl dX3_readLine_46 ?_
          refine lv_aload_n hx hb dX3_readLine_49 rfl (lv_at hl 0 rfl) ?_
          refine zget S uw_X3 hE hP 0 8 rfl rfl (by decide) tw_1_116 rfl rfl dX3_readLine_50 ?_
          obtain ⟨r_26, d_syllables_27, d_syllableCount_28, he_28, hf⟩ := zz_b3_use hf
          refine zwVi (As := [.long t_value_24]) (rest := []) (wr := (wX3 c t0 tA_text d0 t_text t_length t_lines t_place_20 t_token_21 t_begin_22 t_bytes_23 t_value_24 t_parent t_otherParent)) (wX3 c t0 tA_text d0 t_text t_length t_lines t_place_20 t_token_21 t_begin_22 t_bytes_23 t_value_24 t_parent t_otherParent ++ wX5 c d0 dA_numbers dA_syllables dA_days dA_words dA_parents dA_otherParents dA_kinds dA_hopeDays dA_hopeTenths d_numbers d_syllables_27 d_syllableCount_28 d_days d_words d_parents d_otherParents d_kinds d_personCount d_hopeDays d_hopeTenths d_hopeCount d_degreesTold) [2, 3, 4, 5, 6, 7, 8, 9, 10, 11] [0, 1] [0, 1, 2, 3, 4, 5, 6, 7, 8, 9, 10, 11] S (k_X5_addSyllable l D c N d0 dA_numbers dA_syllables dA_days dA_words dA_parents dA_otherParents dA_kinds dA_hopeDays dA_hopeTenths d_numbers d_syllables d_syllableCount d_days d_words d_parents d_otherParents d_kinds d_personCount d_hopeDays d_hopeTenths d_hopeCount d_degreesTold t_value_24 r_26 d_syllables_27 d_syllableCount_28 he_28) mi_X5_addSyllable tw_2_155 ⟨(Nat.le_of_ble_eq_true rfl), (Nat.le_of_ble_eq_true rfl)⟩ ⟨rfl, rfl⟩ hP hD hS hA rfl rfl rfl rfl (by decide) rfl rfl hE hX (ci := 5) rfl rfl (q0 := 0) rfl rfl hl.1 rfl (Nat.le_of_ble_eq_true rfl) dX3_readLine_53 ⟨(Nat.le_of_ble_eq_true rfl), (Nat.le_of_ble_eq_true rfl)⟩ (fun H locs hP hD hS => ?_)
          refine lv_if_eq (tgt := 63) hx hb dX3_readLine_56 (by decide) (fun hc_29 => ?_) (fun hc_29 => ?_)
          · have hf := zz_it hf hc_29
            refine lv_iconst (v := (0 : Int32)) hx hb dX3_readLine_63 (by decide) ?_
            cases hf
            exact zRWz hQ hx hb hr hlk rfl rfl hP hD hS dX3_readLine_64
          · have hf := zz_if hf hc_29
            refine lv_iconst (v := (1 : Int32)) hx hb dX3_readLine_59 (by decide) ?_
            refine lv_goto (tgt := 64) hx hb dX3_readLine_60 (by decide) ?_
            cases hf
            exact zRWz hQ hx hb hr hlk rfl rfl hP hD hS dX3_readLine_64
    · have hf := zz_if hf hc_8
      refine lv_aload_n hx hb dX3_readLine_23 rfl (lv_at hl 0 rfl) ?_
      obtain ⟨r_9, t_place_10, t_token_11, t_begin_12, t_bytes_13, t_value_14, d_numbers_15, he_15, hf⟩ := zz_b7_use hf
      refine zwVi (As := []) (rest := []) (wr := []) (wX3 c t0 tA_text d0 t_text t_length t_lines t_place_10 t_token_11 t_begin_12 t_bytes_13 t_value_14 t_parent t_otherParent ++ wX5 c d0 dA_numbers dA_syllables dA_days dA_words dA_parents dA_otherParents dA_kinds dA_hopeDays dA_hopeTenths d_numbers_15 d_syllables d_syllableCount d_days d_words d_parents d_otherParents d_kinds d_personCount d_hopeDays d_hopeTenths d_hopeCount d_degreesTold) [0, 1, 2, 3, 4, 5, 6, 7, 8, 9, 10, 11] [] [0, 1, 2, 3, 4, 5, 6, 7, 8, 9, 10, 11] S (k_X3_readLetter l D c N t0 tA_text d0 t_text t_length t_lines t_place_1 t_token_2 t_begin_3 t_bytes_4 t_value_5 t_parent t_otherParent d0 dA_numbers dA_syllables dA_days dA_words dA_parents dA_otherParents dA_kinds dA_hopeDays dA_hopeTenths d_numbers d_syllables d_syllableCount d_days d_words d_parents d_otherParents d_kinds d_personCount d_hopeDays d_hopeTenths d_hopeCount d_degreesTold  r_9 t_place_10 t_token_11 t_begin_12 t_bytes_13 t_value_14 d_numbers_15 he_15) mi_X3_readLetter tw_2_135 ⟨(Nat.le_of_ble_eq_true rfl), (Nat.le_of_ble_eq_true rfl)⟩ ⟨rfl, rfl⟩ hP hD hS hA rfl rfl rfl rfl (by decide) rfl rfl hE hX (ci := 3) rfl rfl (q0 := 0) rfl rfl hl.1 rfl (Nat.le_of_ble_eq_true rfl) dX3_readLine_24 ⟨(Nat.le_of_ble_eq_true rfl), (Nat.le_of_ble_eq_true rfl)⟩ (fun H locs hP hD hS => ?_)
      obtain ⟨hb_16, hf⟩ := zz_gd_use hf
      cases hf
      exact zRWz hQ hx hb hr hlk (zz_isB_ok hb_16) rfl hP hD hS dX3_readLine_27
  · have hf := zz_if hf hc_6
    refine lv_iconst (v := (0 : Int32)) hx hb dX3_readLine_12 (by decide) ?_
    cases hf
    exact zRWz hQ hx hb hr hlk rfl rfl hP hD hS dX3_readLine_13
def f_X3_read_L15 (N : Nat) (k_14 : (Int32) → (Int32) → (Int32) → (Int32) → (Int32) → (Int64) → (Int32) → (Int32) → (Nat → Int32) → (Nat → Int64) → (Int32) → (Nat → Int32) → (Nat → Int64) → (Nat → Int32) → (Nat → Int32) → (Nat → Int32) → (Int32) → (Nat → Int32) → (Nat → Int32) → (Int32) → (Int32) → Option (Int32 × (Int32) × (Int32) × (Int32) × (Int32) × (Int32) × (Int64) × (Int32) × (Int32) × (Nat → Int32) × (Nat → Int64) × (Int32) × (Nat → Int32) × (Nat → Int64) × (Nat → Int32) × (Nat → Int32) × (Nat → Int32) × (Int32) × (Nat → Int32) × (Nat → Int32) × (Int32) × (Int32))) (t_text : Nat → Int32) (t_length : Int32) : Nat → (Int32) → (Int32) → (Int32) → (Int32) → (Int32) → (Int32) → (Int64) → (Int32) → (Int32) → (Nat → Int32) → (Nat → Int64) → (Int32) → (Nat → Int32) → (Nat → Int64) → (Nat → Int32) → (Nat → Int32) → (Nat → Int32) → (Int32) → (Nat → Int32) → (Nat → Int32) → (Int32) → (Int32) → Option (Int32 × (Int32) × (Int32) × (Int32) × (Int32) × (Int32) × (Int64) × (Int32) × (Int32) × (Nat → Int32) × (Nat → Int64) × (Int32) × (Nat → Int32) × (Nat → Int64) × (Nat → Int32) × (Nat → Int32) × (Nat → Int32) × (Int32) × (Nat → Int32) × (Nat → Int32) × (Int32) × (Int32))
  | 0, _, _, _, _, _, _, _, _, _, _, _, _, _, _, _, _, _, _, _, _, _, _ => none
  | n_14 + 1, v2_15, t_lines_16, t_place_17, t_token_18, t_begin_19, t_bytes_20, t_value_21, t_parent_22, t_otherParent_23, d_numbers_24, d_syllables_25, d_syllableCount_26, d_days_27, d_words_28, d_parents_29, d_otherParents_30, d_kinds_31, d_personCount_32, d_hopeDays_33, d_hopeTenths_34, d_hopeCount_35, d_degreesTold_36 => (if (8 : Int32) < v2_15 then (k_14 t_lines_16 t_place_17 t_token_18 t_begin_19 t_bytes_20 t_value_21 t_parent_22 t_otherParent_23 d_numbers_24 d_syllables_25 d_syllableCount_26 d_days_27 d_words_28 d_parents_29 d_otherParents_30 d_kinds_31 d_personCount_32 d_hopeDays_33 d_hopeTenths_34 d_hopeCount_35 d_degreesTold_36) else zz_b21 (f_X3_readLine N t_text t_length t_place_17 t_parent_22 t_otherParent_23 d_numbers_24 d_syllables_25 d_syllableCount_26 d_days_27 d_words_28 d_parents_29 d_otherParents_30 d_kinds_31 d_personCount_32 d_hopeDays_33 d_hopeTenths_34 d_hopeCount_35 d_degreesTold_36) (fun r_38 t_place_39 t_token_40 t_begin_41 t_bytes_42 t_value_43 t_parent_44 t_otherParent_45 d_numbers_46 d_syllables_47 d_syllableCount_48 d_days_49 d_words_50 d_parents_51 d_otherParents_52 d_kinds_53 d_personCount_54 d_hopeDays_55 d_hopeTenths_56 d_hopeCount_57 d_degreesTold_58 => (if r_38 = 0 then (some (t_begin_41, t_lines_16, t_place_39, t_token_40, t_begin_41, t_bytes_42, t_value_43, t_parent_44, t_otherParent_45, d_numbers_46, d_syllables_47, d_syllableCount_48, d_days_49, d_words_50, d_parents_51, d_otherParents_52, d_kinds_53, d_personCount_54, d_hopeDays_55, d_hopeTenths_56, d_hopeCount_57, d_degreesTold_58)) else zz_b5 (f_X3_readToken N t_text t_length t_place_39) (fun t_place_60 t_token_61 t_begin_62 t_bytes_63 t_value_64 => (if t_token_61 = 0 then (some ((-1 : Int32), v2_15, t_place_60, t_token_61, t_begin_62, t_bytes_63, t_value_64, t_parent_44, t_otherParent_45, d_numbers_46, d_syllables_47, d_syllableCount_48, d_days_49, d_words_50, d_parents_51, d_otherParents_52, d_kinds_53, d_personCount_54, d_hopeDays_55, d_hopeTenths_56, d_hopeCount_57, d_degreesTold_58)) else (if t_token_61 = (3 : Int32) then (if t_value_64 = (59 : Int64) then zz_let (v2_15 + (1 : Int32)) (fun v2_68 => (f_X3_read_L15 N k_14 t_text t_length n_14 v2_68 v2_15 t_place_60 t_token_61 t_begin_62 t_bytes_63 t_value_64 t_parent_44 t_otherParent_45 d_numbers_46 d_syllables_47 d_syllableCount_48 d_days_49 d_words_50 d_parents_51 d_otherParents_52 d_kinds_53 d_personCount_54 d_hopeDays_55 d_hopeTenths_56 d_hopeCount_57 d_degreesTold_58)) else (some (t_begin_62, v2_15, t_place_60, t_token_61, t_begin_62, t_bytes_63, t_value_64, t_parent_44, t_otherParent_45, d_numbers_46, d_syllables_47, d_syllableCount_48, d_days_49, d_words_50, d_parents_51, d_otherParents_52, d_kinds_53, d_personCount_54, d_hopeDays_55, d_hopeTenths_56, d_hopeCount_57, d_degreesTold_58))) else (some (t_begin_62, v2_15, t_place_60, t_token_61, t_begin_62, t_bytes_63, t_value_64, t_parent_44, t_otherParent_45, d_numbers_46, d_syllables_47, d_syllableCount_48, d_days_49, d_words_50, d_parents_51, d_otherParents_52, d_kinds_53, d_personCount_54, d_hopeDays_55, d_hopeTenths_56, d_hopeCount_57, d_degreesTold_58))))))))
theorem f_X3_read_L15_s (N : Nat) (k_14 : (Int32) → (Int32) → (Int32) → (Int32) → (Int32) → (Int64) → (Int32) → (Int32) → (Nat → Int32) → (Nat → Int64) → (Int32) → (Nat → Int32) → (Nat → Int64) → (Nat → Int32) → (Nat → Int32) → (Nat → Int32) → (Int32) → (Nat → Int32) → (Nat → Int32) → (Int32) → (Int32) → Option (Int32 × (Int32) × (Int32) × (Int32) × (Int32) × (Int32) × (Int64) × (Int32) × (Int32) × (Nat → Int32) × (Nat → Int64) × (Int32) × (Nat → Int32) × (Nat → Int64) × (Nat → Int32) × (Nat → Int32) × (Nat → Int32) × (Int32) × (Nat → Int32) × (Nat → Int32) × (Int32) × (Int32))) (t_text : Nat → Int32) (t_length : Int32) (n_14 : Nat) (v2_15 : Int32) (t_lines_16 : Int32) (t_place_17 : Int32) (t_token_18 : Int32) (t_begin_19 : Int32) (t_bytes_20 : Int32) (t_value_21 : Int64) (t_parent_22 : Int32) (t_otherParent_23 : Int32) (d_numbers_24 : Nat → Int32) (d_syllables_25 : Nat → Int64) (d_syllableCount_26 : Int32) (d_days_27 : Nat → Int32) (d_words_28 : Nat → Int64) (d_parents_29 : Nat → Int32) (d_otherParents_30 : Nat → Int32) (d_kinds_31 : Nat → Int32) (d_personCount_32 : Int32) (d_hopeDays_33 : Nat → Int32) (d_hopeTenths_34 : Nat → Int32) (d_hopeCount_35 : Int32) (d_degreesTold_36 : Int32) : f_X3_read_L15 N k_14 t_text t_length (n_14 + 1) v2_15 t_lines_16 t_place_17 t_token_18 t_begin_19 t_bytes_20 t_value_21 t_parent_22 t_otherParent_23 d_numbers_24 d_syllables_25 d_syllableCount_26 d_days_27 d_words_28 d_parents_29 d_otherParents_30 d_kinds_31 d_personCount_32 d_hopeDays_33 d_hopeTenths_34 d_hopeCount_35 d_degreesTold_36 = (if (8 : Int32) < v2_15 then (k_14 t_lines_16 t_place_17 t_token_18 t_begin_19 t_bytes_20 t_value_21 t_parent_22 t_otherParent_23 d_numbers_24 d_syllables_25 d_syllableCount_26 d_days_27 d_words_28 d_parents_29 d_otherParents_30 d_kinds_31 d_personCount_32 d_hopeDays_33 d_hopeTenths_34 d_hopeCount_35 d_degreesTold_36) else zz_b21 (f_X3_readLine N t_text t_length t_place_17 t_parent_22 t_otherParent_23 d_numbers_24 d_syllables_25 d_syllableCount_26 d_days_27 d_words_28 d_parents_29 d_otherParents_30 d_kinds_31 d_personCount_32 d_hopeDays_33 d_hopeTenths_34 d_hopeCount_35 d_degreesTold_36) (fun r_38 t_place_39 t_token_40 t_begin_41 t_bytes_42 t_value_43 t_parent_44 t_otherParent_45 d_numbers_46 d_syllables_47 d_syllableCount_48 d_days_49 d_words_50 d_parents_51 d_otherParents_52 d_kinds_53 d_personCount_54 d_hopeDays_55 d_hopeTenths_56 d_hopeCount_57 d_degreesTold_58 => (if r_38 = 0 then (some (t_begin_41, t_lines_16, t_place_39, t_token_40, t_begin_41, t_bytes_42, t_value_43, t_parent_44, t_otherParent_45, d_numbers_46, d_syllables_47, d_syllableCount_48, d_days_49, d_words_50, d_parents_51, d_otherParents_52, d_kinds_53, d_personCount_54, d_hopeDays_55, d_hopeTenths_56, d_hopeCount_57, d_degreesTold_58)) else zz_b5 (f_X3_readToken N t_text t_length t_place_39) (fun t_place_60 t_token_61 t_begin_62 t_bytes_63 t_value_64 => (if t_token_61 = 0 then (some ((-1 : Int32), v2_15, t_place_60, t_token_61, t_begin_62, t_bytes_63, t_value_64, t_parent_44, t_otherParent_45, d_numbers_46, d_syllables_47, d_syllableCount_48, d_days_49, d_words_50, d_parents_51, d_otherParents_52, d_kinds_53, d_personCount_54, d_hopeDays_55, d_hopeTenths_56, d_hopeCount_57, d_degreesTold_58)) else (if t_token_61 = (3 : Int32) then (if t_value_64 = (59 : Int64) then zz_let (v2_15 + (1 : Int32)) (fun v2_68 => (f_X3_read_L15 N k_14 t_text t_length n_14 v2_68 v2_15 t_place_60 t_token_61 t_begin_62 t_bytes_63 t_value_64 t_parent_44 t_otherParent_45 d_numbers_46 d_syllables_47 d_syllableCount_48 d_days_49 d_words_50 d_parents_51 d_otherParents_52 d_kinds_53 d_personCount_54 d_hopeDays_55 d_hopeTenths_56 d_hopeCount_57 d_degreesTold_58)) else (some (t_begin_62, v2_15, t_place_60, t_token_61, t_begin_62, t_bytes_63, t_value_64, t_parent_44, t_otherParent_45, d_numbers_46, d_syllables_47, d_syllableCount_48, d_days_49, d_words_50, d_parents_51, d_otherParents_52, d_kinds_53, d_personCount_54, d_hopeDays_55, d_hopeTenths_56, d_hopeCount_57, d_degreesTold_58))) else (some (t_begin_62, v2_15, t_place_60, t_token_61, t_begin_62, t_bytes_63, t_value_64, t_parent_44, t_otherParent_45, d_numbers_46, d_syllables_47, d_syllableCount_48, d_days_49, d_words_50, d_parents_51, d_otherParents_52, d_kinds_53, d_personCount_54, d_hopeDays_55, d_hopeTenths_56, d_hopeCount_57, d_degreesTold_58)))))))) := rfl
def f_X3_read (N : Nat) (t_text : Nat → Int32) (t_length : Int32) (t_lines : Int32) (t_token : Int32) (t_begin : Int32) (t_bytes : Int32) (t_value : Int64) (t_parent : Int32) (t_otherParent : Int32) (d_numbers : Nat → Int32) (d_syllables : Nat → Int64) (d_days : Nat → Int32) (d_words : Nat → Int64) (d_parents : Nat → Int32) (d_otherParents : Nat → Int32) (d_kinds : Nat → Int32) (d_hopeDays : Nat → Int32) (d_hopeTenths : Nat → Int32) (w_numbers : Nat → Int32) (w_syllables : Nat → Int64) (w_syllableCount : Int32) (w_days : Nat → Int32) (w_words : Nat → Int64) (w_parents : Nat → Int32) (w_otherParents : Nat → Int32) (w_kinds : Nat → Int32) (w_personCount : Int32) (w_hopeDays : Nat → Int32) (w_hopeTenths : Nat → Int32) (w_hopeCount : Int32) (w_degreesTold : Int32) : Option (Int32 × (Int32) × (Int32) × (Int32) × (Int32) × (Int32) × (Int64) × (Int32) × (Int32) × (Nat → Int32) × (Nat → Int64) × (Int32) × (Nat → Int32) × (Nat → Int64) × (Nat → Int32) × (Nat → Int32) × (Nat → Int32) × (Int32) × (Nat → Int32) × (Nat → Int32) × (Int32) × (Int32)) := zz_b13 (f_X5_takeFrom N d_numbers d_syllables d_days d_words d_parents d_otherParents d_kinds d_hopeDays d_hopeTenths w_numbers w_syllables w_syllableCount w_days w_words w_parents w_otherParents w_kinds w_personCount w_hopeDays w_hopeTenths w_hopeCount w_degreesTold) (fun d_numbers_1 d_syllables_2 d_syllableCount_3 d_days_4 d_words_5 d_parents_6 d_otherParents_7 d_kinds_8 d_personCount_9 d_hopeDays_10 d_hopeTenths_11 d_hopeCount_12 d_degreesTold_13 => zz_let (fun (t_lines_69 : Int32) (t_place_70 : Int32) (t_token_71 : Int32) (t_begin_72 : Int32) (t_bytes_73 : Int32) (t_value_74 : Int64) (t_parent_75 : Int32) (t_otherParent_76 : Int32) (d_numbers_77 : Nat → Int32) (d_syllables_78 : Nat → Int64) (d_syllableCount_79 : Int32) (d_days_80 : Nat → Int32) (d_words_81 : Nat → Int64) (d_parents_82 : Nat → Int32) (d_otherParents_83 : Nat → Int32) (d_kinds_84 : Nat → Int32) (d_personCount_85 : Int32) (d_hopeDays_86 : Nat → Int32) (d_hopeTenths_87 : Nat → Int32) (d_hopeCount_88 : Int32) (d_degreesTold_89 : Int32) => (some (t_begin_72, t_lines_69, t_place_70, t_token_71, t_begin_72, t_bytes_73, t_value_74, t_parent_75, t_otherParent_76, d_numbers_77, d_syllables_78, d_syllableCount_79, d_days_80, d_words_81, d_parents_82, d_otherParents_83, d_kinds_84, d_personCount_85, d_hopeDays_86, d_hopeTenths_87, d_hopeCount_88, d_degreesTold_89))) (fun k_14 => f_X3_read_L15 N k_14 t_text t_length N (1 : Int32) t_lines (0 : Int32) t_token t_begin t_bytes t_value t_parent t_otherParent d_numbers_1 d_syllables_2 d_syllableCount_3 d_days_4 d_words_5 d_parents_6 d_otherParents_7 d_kinds_8 d_personCount_9 d_hopeDays_10 d_hopeTenths_11 d_hopeCount_12 d_degreesTold_13))
abbrev rm_X3_read : Room := { frames := 6, cells := 0, slots := 0, locals := 183 }
theorem mi_X3_read : zMI RX3 yX3_read cX3_read 3 (some .int) 1 := ⟨⟨tw_2_52, tw_2_53, tw_1_3, tw_2_54⟩, by decide +kernel, by decide +kernel, by decide +kernel⟩
set_option maxHeartbeats 4000000 in
set_option maxRecDepth 100000 in
theorem k_X3_read (l : Launch) (D : va_G) (c : Nat → ClassId) (N : Nat) (t0 : Nat) (tA_text : Nat) (d0 : Nat) (t_text : Nat → Int32) (t_length : Int32) (t_lines : Int32) (t_place : Int32) (t_token : Int32) (t_begin : Int32) (t_bytes : Int32) (t_value : Int64) (t_parent : Int32) (t_otherParent : Int32) (d0_x : Nat) (dA_numbers : Nat) (dA_syllables : Nat) (dA_days : Nat) (dA_words : Nat) (dA_parents : Nat) (dA_otherParents : Nat) (dA_kinds : Nat) (dA_hopeDays : Nat) (dA_hopeTenths : Nat) (d_numbers : Nat → Int32) (d_syllables : Nat → Int64) (d_syllableCount : Int32) (d_days : Nat → Int32) (d_words : Nat → Int64) (d_parents : Nat → Int32) (d_otherParents : Nat → Int32) (d_kinds : Nat → Int32) (d_personCount : Int32) (d_hopeDays : Nat → Int32) (d_hopeTenths : Nat → Int32) (d_hopeCount : Int32) (d_degreesTold : Int32) (w0 : Nat) (wA_numbers : Nat) (wA_syllables : Nat) (wA_days : Nat) (wA_words : Nat) (wA_parents : Nat) (wA_otherParents : Nat) (wA_kinds : Nat) (wA_hopeDays : Nat) (wA_hopeTenths : Nat) (w_numbers : Nat → Int32) (w_syllables : Nat → Int64) (w_syllableCount : Int32) (w_days : Nat → Int32) (w_words : Nat → Int64) (w_parents : Nat → Int32) (w_otherParents : Nat → Int32) (w_kinds : Nat → Int32) (w_personCount : Int32) (w_hopeDays : Nat → Int32) (w_hopeTenths : Nat → Int32) (w_hopeCount : Int32) (w_degreesTold : Int32)  (o : Int32) (o_t_lines : Int32) (o_t_place : Int32) (o_t_token : Int32) (o_t_begin : Int32) (o_t_bytes : Int32) (o_t_value : Int64) (o_t_parent : Int32) (o_t_otherParent : Int32) (o_d_numbers : Nat → Int32) (o_d_syllables : Nat → Int64) (o_d_syllableCount : Int32) (o_d_days : Nat → Int32) (o_d_words : Nat → Int64) (o_d_parents : Nat → Int32) (o_d_otherParents : Nat → Int32) (o_d_kinds : Nat → Int32) (o_d_personCount : Int32) (o_d_hopeDays : Nat → Int32) (o_d_hopeTenths : Nat → Int32) (o_d_hopeCount : Int32) (o_d_degreesTold : Int32) (hf : f_X3_read N t_text t_length t_lines t_token t_begin t_bytes t_value t_parent t_otherParent d_numbers d_syllables d_days d_words d_parents d_otherParents d_kinds d_hopeDays d_hopeTenths w_numbers w_syllables w_syllableCount w_days w_words w_parents w_otherParents w_kinds w_personCount w_hopeDays w_hopeTenths w_hopeCount w_degreesTold = some (o, o_t_lines, o_t_place, o_t_token, o_t_begin, o_t_bytes, o_t_value, o_t_parent, o_t_otherParent, o_d_numbers, o_d_syllables, o_d_syllableCount, o_d_days, o_d_words, o_d_parents, o_d_otherParents, o_d_kinds, o_d_personCount, o_d_hopeDays, o_d_hopeTenths, o_d_hopeCount, o_d_degreesTold)) : zMWi l D c yX3_read cX3_read 3 (some .int) rm_X3_read (wX3 c t0 tA_text d0 t_text t_length t_lines t_place t_token t_begin t_bytes t_value t_parent t_otherParent ++ wX5 c d0 dA_numbers dA_syllables dA_days dA_words dA_parents dA_otherParents dA_kinds dA_hopeDays dA_hopeTenths d_numbers d_syllables d_syllableCount d_days d_words d_parents d_otherParents d_kinds d_personCount d_hopeDays d_hopeTenths d_hopeCount d_degreesTold ++ wX5 c w0 wA_numbers wA_syllables wA_days wA_words wA_parents wA_otherParents wA_kinds wA_hopeDays wA_hopeTenths w_numbers w_syllables w_syllableCount w_days w_words w_parents w_otherParents w_kinds w_personCount w_hopeDays w_hopeTenths w_hopeCount w_degreesTold) (wX3 c t0 tA_text d0 t_text t_length o_t_lines o_t_place o_t_token o_t_begin o_t_bytes o_t_value o_t_parent o_t_otherParent ++ wX5 c d0 dA_numbers dA_syllables dA_days dA_words dA_parents dA_otherParents dA_kinds dA_hopeDays dA_hopeTenths o_d_numbers o_d_syllables o_d_syllableCount o_d_days o_d_words o_d_parents o_d_otherParents o_d_kinds o_d_personCount o_d_hopeDays o_d_hopeTenths o_d_hopeCount o_d_degreesTold ++ wX5 c w0 wA_numbers wA_syllables wA_days wA_words wA_parents wA_otherParents wA_kinds wA_hopeDays wA_hopeTenths w_numbers w_syllables w_syllableCount w_days w_words w_parents w_otherParents w_kinds w_personCount w_hopeDays w_hopeTenths w_hopeCount w_degreesTold) [.ref t0, .ref w0] o := by
  intro sz
  refine zIW (by decide) (Nat.le_of_ble_eq_true rfl) ?_
  intro p e s m args below meth c0 Q A hAe hQ hx hb hr hlk hml hts hown hP hE hD hS hA hsz hmn hX ls hl
  rw [← hAe] at hQ
  have S : CallFix p m c0 cX3_read 3 s args zT RX3 := ⟨hx, hb, hml, hown, hts⟩
  have hl : lv_has ls 3 [(0, .ref t0), (1, .ref w0)] := hl
  unfold f_X3_read at hf
  refine lv_aload_n hx hb dX3_read_0 rfl (lv_at hl 0 rfl) ?_
  refine zget S uw_X3 hE hP 0 2 rfl rfl (by decide) tw_1_108 rfl rfl dX3_read_1 ?_
  refine lv_aload_n hx hb dX3_read_4 rfl (lv_at hl 1 rfl) ?_
  obtain ⟨d_numbers_1, d_syllables_2, d_syllableCount_3, d_days_4, d_words_5, d_parents_6, d_otherParents_7, d_kinds_8, d_personCount_9, d_hopeDays_10, d_hopeTenths_11, d_hopeCount_12, d_degreesTold_13, he_13, hf⟩ := zz_b13_use hf
  refine zwVv (As := [.ref w0]) (rest := []) (wr := (wX3 c t0 tA_text d0 t_text t_length t_lines t_place t_token t_begin t_bytes t_value t_parent t_otherParent)) (wX3 c t0 tA_text d0 t_text t_length t_lines t_place t_token t_begin t_bytes t_value t_parent t_otherParent ++ wX5 c d0 dA_numbers dA_syllables dA_days dA_words dA_parents dA_otherParents dA_kinds dA_hopeDays dA_hopeTenths d_numbers_1 d_syllables_2 d_syllableCount_3 d_days_4 d_words_5 d_parents_6 d_otherParents_7 d_kinds_8 d_personCount_9 d_hopeDays_10 d_hopeTenths_11 d_hopeCount_12 d_degreesTold_13 ++ wX5 c w0 wA_numbers wA_syllables wA_days wA_words wA_parents wA_otherParents wA_kinds wA_hopeDays wA_hopeTenths w_numbers w_syllables w_syllableCount w_days w_words w_parents w_otherParents w_kinds w_personCount w_hopeDays w_hopeTenths w_hopeCount w_degreesTold) [2, 3, 4, 5, 6, 7, 8, 9, 10, 11, 12, 13, 14, 15, 16, 17, 18, 19, 20, 21] [0, 1] [0, 1, 2, 3, 4, 5, 6, 7, 8, 9, 10, 11, 12, 13, 14, 15, 16, 17, 18, 19, 20, 21] S (k_X5_takeFrom l D c N d0 dA_numbers dA_syllables dA_days dA_words dA_parents dA_otherParents dA_kinds dA_hopeDays dA_hopeTenths d_numbers d_syllables d_syllableCount d_days d_words d_parents d_otherParents d_kinds d_personCount d_hopeDays d_hopeTenths d_hopeCount d_degreesTold w0 wA_numbers wA_syllables wA_days wA_words wA_parents wA_otherParents wA_kinds wA_hopeDays wA_hopeTenths w_numbers w_syllables w_syllableCount w_days w_words w_parents w_otherParents w_kinds w_personCount w_hopeDays w_hopeTenths w_hopeCount w_degreesTold  d_numbers_1 d_syllables_2 d_syllableCount_3 d_days_4 d_words_5 d_parents_6 d_otherParents_7 d_kinds_8 d_personCount_9 d_hopeDays_10 d_hopeTenths_11 d_hopeCount_12 d_degreesTold_13 he_13) mi_X5_takeFrom tw_2_55 ⟨(Nat.le_of_ble_eq_true rfl), (Nat.le_of_ble_eq_true rfl)⟩ ⟨rfl, rfl⟩ hP hD hS hA rfl rfl rfl rfl (by decide) rfl rfl hE hX (ci := 5) rfl rfl (q0 := 0) rfl rfl hl.1 rfl (Nat.le_of_ble_eq_true rfl) dX3_read_5 ⟨(Nat.le_of_ble_eq_true rfl), (Nat.le_of_ble_eq_true rfl)⟩ (fun H locs hP hD hS => ?_)
  refine lv_aload_n hx hb dX3_read_8 rfl (lv_at hl 0 rfl) ?_
  refine lv_iconst (v := (0 : Int32)) hx hb dX3_read_9 (by decide) ?_
  refine zput S uw_X3 tyX3_ok nmX3 hE hP hD hS 0 4 (ty := .int) (wX3 c t0 tA_text d0 t_text t_length t_lines (0 : Int32) t_token t_begin t_bytes t_value t_parent t_otherParent ++ wX5 c d0 dA_numbers dA_syllables dA_days dA_words dA_parents dA_otherParents dA_kinds dA_hopeDays dA_hopeTenths d_numbers_1 d_syllables_2 d_syllableCount_3 d_days_4 d_words_5 d_parents_6 d_otherParents_7 d_kinds_8 d_personCount_9 d_hopeDays_10 d_hopeTenths_11 d_hopeCount_12 d_degreesTold_13 ++ wX5 c w0 wA_numbers wA_syllables wA_days wA_words wA_parents wA_otherParents wA_kinds wA_hopeDays wA_hopeTenths w_numbers w_syllables w_syllableCount w_days w_words w_parents w_otherParents w_kinds w_personCount w_hopeDays w_hopeTenths w_hopeCount w_degreesTold) rfl rfl (by decide) tw_1_112 rfl rfl (by decide +kernel) rfl rfl (Nat.le_of_ble_eq_true rfl) rfl dX3_read_10 (fun H locs hP hD hS => ?_)
  refine lv_iconst (v := (1 : Int32)) hx hb dX3_read_13 (by decide) ?_
  refine lv_istore_n (lv' := [(2, .int (1 : Int32)), (0, .ref t0), (1, .ref w0)]) hx hb dX3_read_14 rfl hl (by decide) rfl (fun ls hl => ?_)
  obtain ⟨k_14, hk_14, hf⟩ := zz_let_use hf
  have hX_14 : ∀ (t_lines_69 : Int32) (t_place_70 : Int32) (t_token_71 : Int32) (t_begin_72 : Int32) (t_bytes_73 : Int32) (t_value_74 : Int64) (t_parent_75 : Int32) (t_otherParent_76 : Int32) (d_numbers_77 : Nat → Int32) (d_syllables_78 : Nat → Int64) (d_syllableCount_79 : Int32) (d_days_80 : Nat → Int32) (d_words_81 : Nat → Int64) (d_parents_82 : Nat → Int32) (d_otherParents_83 : Nat → Int32) (d_kinds_84 : Nat → Int32) (d_personCount_85 : Int32) (d_hopeDays_86 : Nat → Int32) (d_hopeTenths_87 : Nat → Int32) (d_hopeCount_88 : Int32) (d_degreesTold_89 : Int32) (H : Heap) (locs : List Loc) (ls : Array Slot), k_14 t_lines_69 t_place_70 t_token_71 t_begin_72 t_bytes_73 t_value_74 t_parent_75 t_otherParent_76 d_numbers_77 d_syllables_78 d_syllableCount_79 d_days_80 d_words_81 d_parents_82 d_otherParents_83 d_kinds_84 d_personCount_85 d_hopeDays_86 d_hopeTenths_87 d_hopeCount_88 d_degreesTold_89 = some (o, o_t_lines, o_t_place, o_t_token, o_t_begin, o_t_bytes, o_t_value, o_t_parent, o_t_otherParent, o_d_numbers, o_d_syllables, o_d_syllableCount, o_d_days, o_d_words, o_d_parents, o_d_otherParents, o_d_kinds, o_d_personCount, o_d_hopeDays, o_d_hopeTenths, o_d_hopeCount, o_d_degreesTold) → va_P D vwCl (wX3 c t0 tA_text d0 t_text t_length t_lines_69 t_place_70 t_token_71 t_begin_72 t_bytes_73 t_value_74 t_parent_75 t_otherParent_76 ++ wX5 c d0 dA_numbers dA_syllables dA_days dA_words dA_parents dA_otherParents dA_kinds dA_hopeDays dA_hopeTenths d_numbers_77 d_syllables_78 d_syllableCount_79 d_days_80 d_words_81 d_parents_82 d_otherParents_83 d_kinds_84 d_personCount_85 d_hopeDays_86 d_hopeTenths_87 d_hopeCount_88 d_degreesTold_89 ++ wX5 c w0 wA_numbers wA_syllables wA_days wA_words wA_parents wA_otherParents wA_kinds wA_hopeDays wA_hopeTenths w_numbers w_syllables w_syllableCount w_days w_words w_parents w_otherParents w_kinds w_personCount w_hopeDays w_hopeTenths w_hopeCount w_degreesTold) H → va_D A (wX3 c t0 tA_text d0 t_text t_length t_lines_69 t_place_70 t_token_71 t_begin_72 t_bytes_73 t_value_74 t_parent_75 t_otherParent_76 ++ wX5 c d0 dA_numbers dA_syllables dA_days dA_words dA_parents dA_otherParents dA_kinds dA_hopeDays dA_hopeTenths d_numbers_77 d_syllables_78 d_syllableCount_79 d_days_80 d_words_81 d_parents_82 d_otherParents_83 d_kinds_84 d_personCount_85 d_hopeDays_86 d_hopeTenths_87 d_hopeCount_88 d_degreesTold_89 ++ wX5 c w0 wA_numbers wA_syllables wA_days wA_words wA_parents wA_otherParents wA_kinds wA_hopeDays wA_hopeTenths w_numbers w_syllables w_syllableCount w_days w_words w_parents w_otherParents w_kinds w_personCount w_hopeDays w_hopeTenths w_hopeCount w_degreesTold) → va_S A s.heap H locs → lv_has ls 3 [(0, .ref t0)] → W p l e rm_X3_read s m args below meth c0 H locs 0 0 Q (F0 m 81 ls []) := by
    intro t_lines_69 t_place_70 t_token_71 t_begin_72 t_bytes_73 t_value_74 t_parent_75 t_otherParent_76 d_numbers_77 d_syllables_78 d_syllableCount_79 d_days_80 d_words_81 d_parents_82 d_otherParents_83 d_kinds_84 d_personCount_85 d_hopeDays_86 d_hopeTenths_87 d_hopeCount_88 d_degreesTold_89 H locs ls hf hP hD hS hl
    subst hk_14
    refine lv_aload_n hx hb dX3_read_81 rfl (lv_at hl 0 rfl) ?_
    refine zget S uw_X3 hE hP 0 6 rfl rfl (by decide) tw_1_114 rfl rfl dX3_read_82 ?_
    cases hf
    exact zRWi hQ hx hb hr hlk rfl hP hD hS dX3_read_85
  have hL_14 : ∀ (n_14 : Nat) (v2_15 : Int32) (t_lines_16 : Int32) (t_place_17 : Int32) (t_token_18 : Int32) (t_begin_19 : Int32) (t_bytes_20 : Int32) (t_value_21 : Int64) (t_parent_22 : Int32) (t_otherParent_23 : Int32) (d_numbers_24 : Nat → Int32) (d_syllables_25 : Nat → Int64) (d_syllableCount_26 : Int32) (d_days_27 : Nat → Int32) (d_words_28 : Nat → Int64) (d_parents_29 : Nat → Int32) (d_otherParents_30 : Nat → Int32) (d_kinds_31 : Nat → Int32) (d_personCount_32 : Int32) (d_hopeDays_33 : Nat → Int32) (d_hopeTenths_34 : Nat → Int32) (d_hopeCount_35 : Int32) (d_degreesTold_36 : Int32) (H : Heap) (locs : List Loc) (ls : Array Slot), f_X3_read_L15 N k_14 t_text t_length n_14 v2_15 t_lines_16 t_place_17 t_token_18 t_begin_19 t_bytes_20 t_value_21 t_parent_22 t_otherParent_23 d_numbers_24 d_syllables_25 d_syllableCount_26 d_days_27 d_words_28 d_parents_29 d_otherParents_30 d_kinds_31 d_personCount_32 d_hopeDays_33 d_hopeTenths_34 d_hopeCount_35 d_degreesTold_36 = some (o, o_t_lines, o_t_place, o_t_token, o_t_begin, o_t_bytes, o_t_value, o_t_parent, o_t_otherParent, o_d_numbers, o_d_syllables, o_d_syllableCount, o_d_days, o_d_words, o_d_parents, o_d_otherParents, o_d_kinds, o_d_personCount, o_d_hopeDays, o_d_hopeTenths, o_d_hopeCount, o_d_degreesTold) → va_P D vwCl (wX3 c t0 tA_text d0 t_text t_length t_lines_16 t_place_17 t_token_18 t_begin_19 t_bytes_20 t_value_21 t_parent_22 t_otherParent_23 ++ wX5 c d0 dA_numbers dA_syllables dA_days dA_words dA_parents dA_otherParents dA_kinds dA_hopeDays dA_hopeTenths d_numbers_24 d_syllables_25 d_syllableCount_26 d_days_27 d_words_28 d_parents_29 d_otherParents_30 d_kinds_31 d_personCount_32 d_hopeDays_33 d_hopeTenths_34 d_hopeCount_35 d_degreesTold_36 ++ wX5 c w0 wA_numbers wA_syllables wA_days wA_words wA_parents wA_otherParents wA_kinds wA_hopeDays wA_hopeTenths w_numbers w_syllables w_syllableCount w_days w_words w_parents w_otherParents w_kinds w_personCount w_hopeDays w_hopeTenths w_hopeCount w_degreesTold) H → va_D A (wX3 c t0 tA_text d0 t_text t_length t_lines_16 t_place_17 t_token_18 t_begin_19 t_bytes_20 t_value_21 t_parent_22 t_otherParent_23 ++ wX5 c d0 dA_numbers dA_syllables dA_days dA_words dA_parents dA_otherParents dA_kinds dA_hopeDays dA_hopeTenths d_numbers_24 d_syllables_25 d_syllableCount_26 d_days_27 d_words_28 d_parents_29 d_otherParents_30 d_kinds_31 d_personCount_32 d_hopeDays_33 d_hopeTenths_34 d_hopeCount_35 d_degreesTold_36 ++ wX5 c w0 wA_numbers wA_syllables wA_days wA_words wA_parents wA_otherParents wA_kinds wA_hopeDays wA_hopeTenths w_numbers w_syllables w_syllableCount w_days w_words w_parents w_otherParents w_kinds w_personCount w_hopeDays w_hopeTenths w_hopeCount w_degreesTold) → va_S A s.heap H locs → lv_has ls 3 [(0, .ref t0), (2, .int v2_15)] → W p l e rm_X3_read s m args below meth c0 H locs 0 0 Q (F0 m 15 ls []) := by
    intro n_14
    induction n_14 with
    | zero => intro v2_15 t_lines_16 t_place_17 t_token_18 t_begin_19 t_bytes_20 t_value_21 t_parent_22 t_otherParent_23 d_numbers_24 d_syllables_25 d_syllableCount_26 d_days_27 d_words_28 d_parents_29 d_otherParents_30 d_kinds_31 d_personCount_32 d_hopeDays_33 d_hopeTenths_34 d_hopeCount_35 d_degreesTold_36 H locs ls hf hP hD hS hl; exact zz_none hf
    | succ n_14 ih_14 =>
      intro v2_15 t_lines_16 t_place_17 t_token_18 t_begin_19 t_bytes_20 t_value_21 t_parent_22 t_otherParent_23 d_numbers_24 d_syllables_25 d_syllableCount_26 d_days_27 d_words_28 d_parents_29 d_otherParents_30 d_kinds_31 d_personCount_32 d_hopeDays_33 d_hopeTenths_34 d_hopeCount_35 d_degreesTold_36 H locs ls hf hP hD hS hl
      rw [f_X3_read_L15_s] at hf
      refine lv_iload_n hx hb dX3_read_15 rfl (lv_at hl 1 rfl) ?_
      refine lv_bipush (v := (8 : Int32)) hx hb dX3_read_16 (by decide) ?_
      refine lv_icmp_gt (tgt := 81) hx hb dX3_read_18 (by decide) (fun hc_37 => ?_) (fun hc_37 => ?_)
      · have hf := zz_it hf hc_37
        exact hX_14 t_lines_16 t_place_17 t_token_18 t_begin_19 t_bytes_20 t_value_21 t_parent_22 t_otherParent_23 d_numbers_24 d_syllables_25 d_syllableCount_26 d_days_27 d_words_28 d_parents_29 d_otherParents_30 d_kinds_31 d_personCount_32 d_hopeDays_33 d_hopeTenths_34 d_hopeCount_35 d_degreesTold_36 H locs ls hf hP hD hS (lv_sub hl [0] rfl)
      · have hf := zz_if hf hc_37
        refine lv_aload_n hx hb dX3_read_21 rfl (lv_at hl 0 rfl) ?_
        obtain ⟨r_38, t_place_39, t_token_40, t_begin_41, t_bytes_42, t_value_43, t_parent_44, t_otherParent_45, d_numbers_46, d_syllables_47, d_syllableCount_48, d_days_49, d_words_50, d_parents_51, d_otherParents_52, d_kinds_53, d_personCount_54, d_hopeDays_55, d_hopeTenths_56, d_hopeCount_57, d_degreesTold_58, he_58, hf⟩ := zz_b21_use hf
        refine zwVi (As := []) (rest := []) (wr := (wX5 c w0 wA_numbers wA_syllables wA_days wA_words wA_parents wA_otherParents wA_kinds wA_hopeDays wA_hopeTenths w_numbers w_syllables w_syllableCount w_days w_words w_parents w_otherParents w_kinds w_personCount w_hopeDays w_hopeTenths w_hopeCount w_degreesTold)) (wX3 c t0 tA_text d0 t_text t_length t_lines_16 t_place_39 t_token_40 t_begin_41 t_bytes_42 t_value_43 t_parent_44 t_otherParent_45 ++ wX5 c d0 dA_numbers dA_syllables dA_days dA_words dA_parents dA_otherParents dA_kinds dA_hopeDays dA_hopeTenths d_numbers_46 d_syllables_47 d_syllableCount_48 d_days_49 d_words_50 d_parents_51 d_otherParents_52 d_kinds_53 d_personCount_54 d_hopeDays_55 d_hopeTenths_56 d_hopeCount_57 d_degreesTold_58 ++ wX5 c w0 wA_numbers wA_syllables wA_days wA_words wA_parents wA_otherParents wA_kinds wA_hopeDays wA_hopeTenths w_numbers w_syllables w_syllableCount w_days w_words w_parents w_otherParents w_kinds w_personCount w_hopeDays w_hopeTenths w_hopeCount w_degreesTold) [0, 1, 2, 3, 4, 5, 6, 7, 8, 9, 10, 11] [12, 13, 14, 15, 16, 17, 18, 19, 20, 21] [10, 11, 12, 13, 14, 15, 16, 17, 18, 19, 20, 21, 0, 1, 2, 3, 4, 5, 6, 7, 8, 9] S (k_X3_readLine l D c N t0 tA_text d0 t_text t_length t_lines_16 t_place_17 t_token_18 t_begin_19 t_bytes_20 t_value_21 t_parent_22 t_otherParent_23 d0 dA_numbers dA_syllables dA_days dA_words dA_parents dA_otherParents dA_kinds dA_hopeDays dA_hopeTenths d_numbers_24 d_syllables_25 d_syllableCount_26 d_days_27 d_words_28 d_parents_29 d_otherParents_30 d_kinds_31 d_personCount_32 d_hopeDays_33 d_hopeTenths_34 d_hopeCount_35 d_degreesTold_36  r_38 t_place_39 t_token_40 t_begin_41 t_bytes_42 t_value_43 t_parent_44 t_otherParent_45 d_numbers_46 d_syllables_47 d_syllableCount_48 d_days_49 d_words_50 d_parents_51 d_otherParents_52 d_kinds_53 d_personCount_54 d_hopeDays_55 d_hopeTenths_56 d_hopeCount_57 d_degreesTold_58 he_58) mi_X3_readLine tw_2_62 ⟨(Nat.le_of_ble_eq_true rfl), (Nat.le_of_ble_eq_true rfl)⟩ ⟨rfl, rfl⟩ hP hD hS hA rfl rfl rfl rfl (by decide) rfl rfl hE hX (ci := 3) rfl rfl (q0 := 0) rfl rfl hl.1 rfl (Nat.le_of_ble_eq_true rfl) dX3_read_22 ⟨(Nat.le_of_ble_eq_true rfl), (Nat.le_of_ble_eq_true rfl)⟩ (fun H locs hP hD hS => ?_)
        refine lv_if_ne (tgt := 33) hx hb dX3_read_25 (by decide) (fun hc_59 => ?_) (fun hc_59 => ?_)
        · have hf := zz_if hf hc_59
          refine lv_aload_n hx hb dX3_read_33 rfl (lv_at hl 0 rfl) ?_
          refine lv_iload_n hx hb dX3_read_34 rfl (lv_at hl 1 rfl) ?_
          refine zput S uw_X3 tyX3_ok nmX3 hE hP hD hS 0 3 (ty := .int) (wX3 c t0 tA_text d0 t_text t_length v2_15 t_place_39 t_token_40 t_begin_41 t_bytes_42 t_value_43 t_parent_44 t_otherParent_45 ++ wX5 c d0 dA_numbers dA_syllables dA_days dA_words dA_parents dA_otherParents dA_kinds dA_hopeDays dA_hopeTenths d_numbers_46 d_syllables_47 d_syllableCount_48 d_days_49 d_words_50 d_parents_51 d_otherParents_52 d_kinds_53 d_personCount_54 d_hopeDays_55 d_hopeTenths_56 d_hopeCount_57 d_degreesTold_58 ++ wX5 c w0 wA_numbers wA_syllables wA_days wA_words wA_parents wA_otherParents wA_kinds wA_hopeDays wA_hopeTenths w_numbers w_syllables w_syllableCount w_days w_words w_parents w_otherParents w_kinds w_personCount w_hopeDays w_hopeTenths w_hopeCount w_degreesTold) rfl rfl (by decide) tw_1_110 rfl rfl (by decide +kernel) rfl rfl (Nat.le_of_ble_eq_true rfl) rfl dX3_read_35 (fun H locs hP hD hS => ?_)
          refine lv_aload_n hx hb dX3_read_38 rfl (lv_at hl 0 rfl) ?_
          obtain ⟨t_place_60, t_token_61, t_begin_62, t_bytes_63, t_value_64, he_64, hf⟩ := zz_b5_use hf
          refine zwVv (As := []) (rest := []) (wr := (wX5 c w0 wA_numbers wA_syllables wA_days wA_words wA_parents wA_otherParents wA_kinds wA_hopeDays wA_hopeTenths w_numbers w_syllables w_syllableCount w_days w_words w_parents w_otherParents w_kinds w_personCount w_hopeDays w_hopeTenths w_hopeCount w_degreesTold)) (wX3 c t0 tA_text d0 t_text t_length v2_15 t_place_60 t_token_61 t_begin_62 t_bytes_63 t_value_64 t_parent_44 t_otherParent_45 ++ wX5 c d0 dA_numbers dA_syllables dA_days dA_words dA_parents dA_otherParents dA_kinds dA_hopeDays dA_hopeTenths d_numbers_46 d_syllables_47 d_syllableCount_48 d_days_49 d_words_50 d_parents_51 d_otherParents_52 d_kinds_53 d_personCount_54 d_hopeDays_55 d_hopeTenths_56 d_hopeCount_57 d_degreesTold_58 ++ wX5 c w0 wA_numbers wA_syllables wA_days wA_words wA_parents wA_otherParents wA_kinds wA_hopeDays wA_hopeTenths w_numbers w_syllables w_syllableCount w_days w_words w_parents w_otherParents w_kinds w_personCount w_hopeDays w_hopeTenths w_hopeCount w_degreesTold) [0, 1, 2, 3, 4, 5, 6, 7, 8, 9, 10, 11] [12, 13, 14, 15, 16, 17, 18, 19, 20, 21] [10, 11, 12, 13, 14, 15, 16, 17, 18, 19, 20, 21, 0, 1, 2, 3, 4, 5, 6, 7, 8, 9] S (k_X3_readToken l D c N t0 tA_text d0 t_text t_length v2_15 t_place_39 t_token_40 t_begin_41 t_bytes_42 t_value_43 t_parent_44 t_otherParent_45 d0 dA_numbers dA_syllables dA_days dA_words dA_parents dA_otherParents dA_kinds dA_hopeDays dA_hopeTenths d_numbers_46 d_syllables_47 d_syllableCount_48 d_days_49 d_words_50 d_parents_51 d_otherParents_52 d_kinds_53 d_personCount_54 d_hopeDays_55 d_hopeTenths_56 d_hopeCount_57 d_degreesTold_58  t_place_60 t_token_61 t_begin_62 t_bytes_63 t_value_64 he_64) mi_X3_readToken tw_2_66 ⟨(Nat.le_of_ble_eq_true rfl), (Nat.le_of_ble_eq_true rfl)⟩ ⟨rfl, rfl⟩ hP hD hS hA rfl rfl rfl rfl (by decide) rfl rfl hE hX (ci := 3) rfl rfl (q0 := 0) rfl rfl hl.1 rfl (Nat.le_of_ble_eq_true rfl) dX3_read_39 ⟨(Nat.le_of_ble_eq_true rfl), (Nat.le_of_ble_eq_true rfl)⟩ (fun H locs hP hD hS => ?_)
          refine lv_aload_n hx hb dX3_read_42 rfl (lv_at hl 0 rfl) ?_
          refine zget S uw_X3 hE hP 0 5 rfl rfl (by decide) tw_1_113 rfl rfl dX3_read_43 ?_
          refine lv_if_ne (tgt := 51) hx hb dX3_read_46 (by decide) (fun hc_65 => ?_) (fun hc_65 => ?_)
          · have hf := zz_if hf hc_65
            refine lv_aload_n hx hb dX3_read_51 rfl (lv_at hl 0 rfl) ?_
            refine zget S uw_X3 hE hP 0 5 rfl rfl (by decide) tw_1_113 rfl rfl dX3_read_52 ?_
            refine lv_iconst (v := (3 : Int32)) hx hb dX3_read_55 (by decide) ?_
            refine lv_icmp_ne (tgt := 70) hx hb dX3_read_56 (by decide) (fun hc_66 => ?_) (fun hc_66 => ?_)
            · have hf := zz_if hf hc_66
              refine lv_aload_n hx hb dX3_read_70 rfl (lv_at hl 0 rfl) ?_
              refine zget S uw_X3 hE hP 0 6 rfl rfl (by decide) tw_1_114 rfl rfl dX3_read_71 ?_
              cases hf
              exact zRWi hQ hx hb hr hlk rfl hP hD hS dX3_read_74
            · have hf := zz_it hf hc_66
              refine lv_aload_n hx hb dX3_read_59 rfl (lv_at hl 0 rfl) ?_
              refine zget S uw_X3 hE hP 0 8 rfl rfl (by decide) tw_1_116 rfl rfl dX3_read_60 ?_
              refine lv_ldc2 (v := (59 : Int64)) hx hb hown (hts _ tw_2_222) dX3_read_63 ?_
              refine zlc_eq (tgt := 75) hx hb dX3_read_66 dX3_read_67 (by decide) (fun hc_67 => ?_) (fun hc_67 => ?_)
              · have hf := zz_it hf hc_67
                obtain ⟨v2_68, ev2_68, hf⟩ := zz_let_use hf
                refine lv_iinc (v := v2_68) (lv' := [(2, .int v2_68), (0, .ref t0)]) hx hb dX3_read_75 hl (k := 1) rfl (by rw [← ev2_68]; rfl) (by decide) rfl (fun ls hl => ?_)
                refine lv_goto (tgt := 15) hx hb dX3_read_78 (by decide) ?_
                exact ih_14 v2_68 v2_15 t_place_60 t_token_61 t_begin_62 t_bytes_63 t_value_64 t_parent_44 t_otherParent_45 d_numbers_46 d_syllables_47 d_syllableCount_48 d_days_49 d_words_50 d_parents_51 d_otherParents_52 d_kinds_53 d_personCount_54 d_hopeDays_55 d_hopeTenths_56 d_hopeCount_57 d_degreesTold_58 H locs ls hf hP hD hS (lv_sub hl [1, 0] rfl)
              · have hf := zz_if hf hc_67
                refine lv_aload_n hx hb dX3_read_70 rfl (lv_at hl 0 rfl) ?_
                refine zget S uw_X3 hE hP 0 6 rfl rfl (by decide) tw_1_114 rfl rfl dX3_read_71 ?_
                cases hf
                exact zRWi hQ hx hb hr hlk rfl hP hD hS dX3_read_74
          · have hf := zz_it hf hc_65
            refine lv_iconst (v := (-1 : Int32)) hx hb dX3_read_49 (by decide) ?_
            cases hf
            exact zRWi hQ hx hb hr hlk rfl hP hD hS dX3_read_50
        · have hf := zz_it hf hc_59
          refine lv_aload_n hx hb dX3_read_28 rfl (lv_at hl 0 rfl) ?_
          refine zget S uw_X3 hE hP 0 6 rfl rfl (by decide) tw_1_114 rfl rfl dX3_read_29 ?_
          cases hf
          exact zRWi hQ hx hb hr hlk rfl hP hD hS dX3_read_32
  exact hL_14 N (1 : Int32) t_lines (0 : Int32) t_token t_begin t_bytes t_value t_parent t_otherParent d_numbers_1 d_syllables_2 d_syllableCount_3 d_days_4 d_words_5 d_parents_6 d_otherParents_7 d_kinds_8 d_personCount_9 d_hopeDays_10 d_hopeTenths_11 d_hopeCount_12 d_degreesTold_13 H locs ls hf hP hD hS (lv_sub hl [1, 0] rfl)
