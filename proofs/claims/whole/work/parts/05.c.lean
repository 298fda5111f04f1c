def f_X0_dropLike_L4 (N : Nat) (k_1 : (Int32) → (Nat → Int64) → Option ((Nat → Int64) × (Int32))) (t_size : Int32) : Nat → (Int32) → (Int32) → (Nat → Int64) → Option ((Nat → Int64) × (Int32))
  | 0, _, _, _ => none
  | n_1 + 1, v1_2, v2_3, t_codes_4 => (if t_size ≤ v2_3 then (k_1 v1_2 t_codes_4) else zz_let (fun (v1_18 : Int32) (t_codes_19 : Nat → Int64) => zz_let (v2_3 + (1 : Int32)) (fun v2_20 => (f_X0_dropLike_L4 N k_1 t_size n_1 v1_18 v2_20 t_codes_19))) (fun k_17 => (if v1_2 = 0 then zz_gd (zz_in v2_3 1110) (zz_gd (zz_in v1_2 1110) (zz_let (vp_updL t_codes_4 v1_2.toNatClampNeg (t_codes_4 v2_3.toNatClampNeg)) (fun t_codes_9 => zz_let (v1_2 + (1 : Int32)) (fun v1_10 => (k_17 v1_10 t_codes_9))))) else zz_gd (zz_in (v1_2 - (1 : Int32)) 1110) (zz_gd (zz_in v2_3 1110) ((if (t_codes_4 (v1_2 - (1 : Int32)).toNatClampNeg) = (t_codes_4 v2_3.toNatClampNeg) then (k_17 v1_2 t_codes_4) else zz_gd (zz_in v1_2 1110) (zz_let (vp_updL t_codes_4 v1_2.toNatClampNeg (t_codes_4 v2_3.toNatClampNeg)) (fun t_codes_15 => zz_let (v1_2 + (1 : Int32)) (fun v1_16 => (k_17 v1_16 t_codes_15))))))))))
theorem f_X0_dropLike_L4_s (N : Nat) (k_1 : (Int32) → (Nat → Int64) → Option ((Nat → Int64) × (Int32))) (t_size : Int32) (n_1 : Nat) (v1_2 : Int32) (v2_3 : Int32) (t_codes_4 : Nat → Int64) : f_X0_dropLike_L4 N k_1 t_size (n_1 + 1) v1_2 v2_3 t_codes_4 = (if t_size ≤ v2_3 then (k_1 v1_2 t_codes_4) else zz_let (fun (v1_18 : Int32) (t_codes_19 : Nat → Int64) => zz_let (v2_3 + (1 : Int32)) (fun v2_20 => (f_X0_dropLike_L4 N k_1 t_size n_1 v1_18 v2_20 t_codes_19))) (fun k_17 => (if v1_2 = 0 then zz_gd (zz_in v2_3 1110) (zz_gd (zz_in v1_2 1110) (zz_let (vp_updL t_codes_4 v1_2.toNatClampNeg (t_codes_4 v2_3.toNatClampNeg)) (fun t_codes_9 => zz_let (v1_2 + (1 : Int32)) (fun v1_10 => (k_17 v1_10 t_codes_9))))) else zz_gd (zz_in (v1_2 - (1 : Int32)) 1110) (zz_gd (zz_in v2_3 1110) ((if (t_codes_4 (v1_2 - (1 : Int32)).toNatClampNeg) = (t_codes_4 v2_3.toNatClampNeg) then (k_17 v1_2 t_codes_4) else zz_gd (zz_in v1_2 1110) (zz_let (vp_updL t_codes_4 v1_2.toNatClampNeg (t_codes_4 v2_3.toNatClampNeg)) (fun t_codes_15 => zz_let (v1_2 + (1 : Int32)) (fun v1_16 => (k_17 v1_16 t_codes_15)))))))))) := rfl
def f_X0_dropLike (N : Nat) (t_codes : Nat → Int64) (t_size : Int32) : Option ((Nat → Int64) × (Int32)) := zz_let (fun (v1_21 : Int32) (t_codes_22 : Nat → Int64) => (some (t_codes_22, v1_21))) (fun k_1 => f_X0_dropLike_L4 N k_1 t_size N (0 : Int32) (0 : Int32) t_codes)
abbrev rm_X0_dropLike : Room := { frames := 0, cells := 0, slots := 0, locals := 0 }
theorem mi_X0_dropLike : zMI RX0 yX0_dropLike cX0_dropLike 3 none 0 := ⟨⟨tw_3_131, ts_X0_dropLike, tw_1_4, tw_3_132⟩, by decide +kernel, by decide +kernel, by decide +kernel⟩
set_option maxHeartbeats 4000000 in
set_option maxRecDepth 100000 in
theorem k_X0_dropLike (l : Launch) (D : va_G) (c : Nat → ClassId) (N : Nat) (t0 : Nat) (tA_codes : Nat) (tA_partCodes : Nat) (tA_partShifts : Nat) (tA_partSums : Nat) (t_codes : Nat → Int64) (t_size : Int32) (t_partCodes : Nat → Int64) (t_partShifts : Nat → Int64) (t_partSums : Nat → Int32) (t_partCount : Int32) (t_wantedDay : Int32) (t_divisorsWanted : Int32)  (o_t_codes : Nat → Int64) (o_t_size : Int32) (hf : f_X0_dropLike N t_codes t_size = some (o_t_codes, o_t_size)) : zMWv l D c yX0_dropLike cX0_dropLike 3 none rm_X0_dropLike (wX0 c t0 tA_codes tA_partCodes tA_partShifts tA_partSums t_codes t_size t_partCodes t_partShifts t_partSums t_partCount t_wantedDay t_divisorsWanted) (wX0 c t0 tA_codes tA_partCodes tA_partShifts tA_partSums o_t_codes o_t_size t_partCodes t_partShifts t_partSums t_partCount t_wantedDay t_divisorsWanted) [.ref t0] := by
  intro sz
  refine zIW (by decide) (Nat.le_of_ble_eq_true rfl) ?_
  intro p e s m args below meth c0 Q A hAe hQ hx hb hr hlk hml hts hown hP hE hD hS hA hsz hmn hX ls hl
  rw [← hAe] at hQ
  have S : CallFix p m c0 cX0_dropLike 3 s args zT RX0 := ⟨hx, hb, hml, hown, hts⟩
  have hl : lv_has ls 3 [(0, .ref t0)] := hl
  unfold f_X0_dropLike at hf
  refine lv_iconst (v := (0 : Int32)) hx hb dX0_dropLike_0 (by decide) ?_
  refine lv_istore_n (lv' := [(1, .int (0 : Int32)), (0, .ref t0)]) hx hb dX0_dropLike_1 rfl hl (by decide) rfl (fun ls hl => ?_)
  refine lv_iconst (v := (0 : Int32)) hx hb dX0_dropLike_2 (by decide) ?_
  refine lv_istore_n (lv' := [(2, .int (0 : Int32)), (1, .int (0 : Int32)), (0, .ref t0)]) hx hb dX0_dropLike_3 rfl hl (by decide) rfl (fun ls hl => ?_)
  obtain ⟨k_1, hk_1, hf⟩ := zz_let_use hf
  have hX_1 : ∀ (v1_21 : Int32) (t_codes_22 : Nat → Int64) (H : Heap) (locs : List Loc) (ls : Array Slot), k_1 v1_21 t_codes_22 = some (o_t_codes, o_t_size) → va_P D vwCl (wX0 c t0 tA_codes tA_partCodes tA_partShifts tA_partSums t_codes_22 t_size t_partCodes t_partShifts t_partSums t_partCount t_wantedDay t_divisorsWanted) H → va_D A (wX0 c t0 tA_codes tA_partCodes tA_partShifts tA_partSums t_codes_22 t_size t_partCodes t_partShifts t_partSums t_partCount t_wantedDay t_divisorsWanted) → va_S A s.heap H locs → lv_has ls 3 [(0, .ref t0), (1, .int v1_21)] → W p l e rm_X0_dropLike s m args below meth c0 H locs 0 0 Q (F0 m 55 ls []) := by
    intro v1_21 t_codes_22 H locs ls hf hP hD hS hl
    subst hk_1
    refine lv_aload_n hx hb dX0_dropLike_55 rfl (lv_at hl 0 rfl) ?_
    refine lv_iload_n hx hb dX0_dropLike_56 rfl (lv_at hl 1 rfl) ?_
    refine zput S uw_X0 tyX0_ok nmX0 hE hP hD hS 0 1 (ty := .int) (wX0 c t0 tA_codes tA_partCodes tA_partShifts tA_partSums t_codes_22 v1_21 t_partCodes t_partShifts t_partSums t_partCount t_wantedDay t_divisorsWanted) rfl rfl (by decide) tw_1_150 rfl rfl (by decide +kernel) rfl rfl (Nat.le_of_ble_eq_true rfl) rfl dX0_dropLike_57 (fun H locs hP hD hS => ?_)
    cases hf
    exact zRWv hQ hx hb hr hlk hP hD hS dX0_dropLike_60
  have hL_1 : ∀ (n_1 : Nat) (v1_2 : Int32) (v2_3 : Int32) (t_codes_4 : Nat → Int64) (H : Heap) (locs : List Loc) (ls : Array Slot), f_X0_dropLike_L4 N k_1 t_size n_1 v1_2 v2_3 t_codes_4 = some (o_t_codes, o_t_size) → va_P D vwCl (wX0 c t0 tA_codes tA_partCodes tA_partShifts tA_partSums t_codes_4 t_size t_partCodes t_partShifts t_partSums t_partCount t_wantedDay t_divisorsWanted) H → va_D A (wX0 c t0 tA_codes tA_partCodes tA_partShifts tA_partSums t_codes_4 t_size t_partCodes t_partShifts t_partSums t_partCount t_wantedDay t_divisorsWanted) → va_S A s.heap H locs → lv_has ls 3 [(0, .ref t0), (1, .int v1_2), (2, .int v2_3)] → W p l e rm_X0_dropLike s m args below meth c0 H locs 0 0 Q (F0 m 4 ls []) := by
    intro n_1
    induction n_1 with
    | zero => intro v1_2 v2_3 t_codes_4 H locs ls hf hP hD hS hl; exact zz_none hf
    | succ n_1 ih_1 =>
      intro v1_2 v2_3 t_codes_4 H locs ls hf hP hD hS hl
      rw [f_X0_dropLike_L4_s] at hf
      refine lv_iload_n hx hb dX0_dropLike_4 rfl (lv_at hl 2 rfl) ?_
      refine lv_aload_n hx hb dX0_dropLike_5 rfl (lv_at hl 0 rfl) ?_
      refine zget S uw_X0 hE hP 0 1 rfl rfl (by decide) tw_1_150 rfl rfl dX0_dropLike_6 ?_
      refine lv_icmp_ge (tgt := 55) hx hb dX0_dropLike_9 (by decide) (fun hc_5 => ?_) (fun hc_5 => ?_)
      · have hf := zz_it hf hc_5
        exact hX_1 v1_2 t_codes_4 H locs ls hf hP hD hS (lv_sub hl [0, 1] rfl)
      · have hf := zz_if hf hc_5
        refine lv_iload_n hx hb dX0_dropLike_12 rfl (lv_at hl 1 rfl) ?_
        obtain ⟨k_17, hk_17, hf⟩ := zz_let_use hf
        have hJ_17 : ∀ (v1_18 : Int32) (t_codes_19 : Nat → Int64) (H : Heap) (locs : List Loc) (ls : Array Slot), k_17 v1_18 t_codes_19 = some (o_t_codes, o_t_size) → va_P D vwCl (wX0 c t0 tA_codes tA_partCodes tA_partShifts tA_partSums t_codes_19 t_size t_partCodes t_partShifts t_partSums t_partCount t_wantedDay t_divisorsWanted) H → va_D A (wX0 c t0 tA_codes tA_partCodes tA_partShifts tA_partSums t_codes_19 t_size t_partCodes t_partShifts t_partSums t_partCount t_wantedDay t_divisorsWanted) → va_S A s.heap H locs → lv_has ls 3 [(0, .ref t0), (1, .int v1_18), (2, .int v2_3)] → W p l e rm_X0_dropLike s m args below meth c0 H locs 0 0 Q (F0 m 49 ls []) := by
          intro v1_18 t_codes_19 H locs ls hf hP hD hS hl
          subst hk_17
          obtain ⟨v2_20, ev2_20, hf⟩ := zz_let_use hf
          refine lv_iinc (v := v2_20) (lv' := [(2, .int v2_20), (0, .ref t0), (1, .int v1_18)]) hx hb dX0_dropLike_49 hl (k := 2) rfl (by rw [← ev2_20]; rfl) (by decide) rfl (fun ls hl => ?_)
          refine lv_goto (tgt := 4) hx hb dX0_dropLike_52 (by decide) ?_
          exact ih_1 v1_18 v2_20 t_codes_19 H locs ls hf hP hD hS (lv_sub hl [1, 2, 0] rfl)
        refine lv_if_eq (tgt := 34) hx hb dX0_dropLike_13 (by decide) (fun hc_6 => ?_) (fun hc_6 => ?_)
        · have hf := zz_it hf hc_6
          refine lv_aload_n hx hb dX0_dropLike_34 rfl (lv_at hl 0 rfl) ?_
          refine zget S uw_X0 hE hP 0 0 rfl rfl (by decide) tw_1_148 rfl rfl dX0_dropLike_35 ?_
          refine lv_iload_n hx hb dX0_dropLike_38 rfl (lv_at hl 1 rfl) ?_
          refine lv_aload_n hx hb dX0_dropLike_39 rfl (lv_at hl 0 rfl) ?_
          refine zget S uw_X0 hE hP 0 0 rfl rfl (by decide) tw_1_148 rfl rfl dX0_dropLike_40 ?_
          refine lv_iload_n hx hb dX0_dropLike_43 rfl (lv_at hl 2 rfl) ?_
          obtain ⟨hin_7, hf⟩ := zz_gd_use hf
          refine zlld hx hb hE hP 1 rfl (zz_in_ok hin_7) dX0_dropLike_44 ?_
          obtain ⟨hin_8, hf⟩ := zz_gd_use hf
          obtain ⟨t_codes_9, et_codes_9, hf⟩ := zz_let_use hf
          refine zlst hx hb hE hP hD hS 1 (wX0 c t0 tA_codes tA_partCodes tA_partShifts tA_partSums t_codes_9 t_size t_partCodes t_partShifts t_partSums t_partCount t_wantedDay t_divisorsWanted) rfl rfl et_codes_9 (zz_in_ok hin_8) dX0_dropLike_45 (fun H locs hP hD hS => ?_)
          obtain ⟨v1_10, ev1_10, hf⟩ := zz_let_use hf
          refine lv_iinc (v := v1_10) (lv' := [(1, .int v1_10), (0, .ref t0), (2, .int v2_3)]) hx hb dX0_dropLike_46 hl (k := 1) rfl (by rw [← ev1_10]; rfl) (by decide) rfl (fun ls hl => ?_)
          exact hJ_17 v1_10 t_codes_9 H locs ls hf hP hD hS (lv_sub hl [1, 0, 2] rfl)
        · have hf := zz_if hf hc_6
          refine lv_aload_n hx hb dX0_dropLike_16 rfl (lv_at hl 0 rfl) ?_
          refine zget S uw_X0 hE hP 0 0 rfl rfl (by decide) tw_1_148 rfl rfl dX0_dropLike_17 ?_
          refine lv_iload_n hx hb dX0_dropLike_20 rfl (lv_at hl 1 rfl) ?_
          refine lv_iconst (v := (1 : Int32)) hx hb dX0_dropLike_21 (by decide) ?_
          refine lv_isub hx hb dX0_dropLike_22 ?_
          obtain ⟨hin_11, hf⟩ := zz_gd_use hf
          refine zlld hx hb hE hP 1 rfl (zz_in_ok hin_11) dX0_dropLike_23 ?_
          refine lv_aload_n hx hb dX0_dropLike_24 rfl (lv_at hl 0 rfl) ?_
          refine zget S uw_X0 hE hP 0 0 rfl rfl (by decide) tw_1_148 rfl rfl dX0_dropLike_25 ?_
          refine lv_iload_n hx hb dX0_dropLike_28 rfl (lv_at hl 2 rfl) ?_
          obtain ⟨hin_12, hf⟩ := zz_gd_use hf
          refine zlld hx hb hE hP 1 rfl (zz_in_ok hin_12) dX0_dropLike_29 ?_
          refine zlc_eq (tgt := 49) hx hb dX0_dropLike_30 dX0_dropLike_31 (by decide) (fun hc_13 => ?_) (fun hc_13 => ?_)
          · have hf := zz_it hf hc_13
            exact hJ_17 v1_2 t_codes_4 H locs ls hf hP hD hS (lv_sub hl [0, 1, 2] rfl)
          · have hf := zz_if hf hc_13
            refine lv_aload_n hx hb dX0_dropLike_34 rfl (lv_at hl 0 rfl) ?_
            refine zget S uw_X0 hE hP 0 0 rfl rfl (by decide) tw_1_148 rfl rfl dX0_dropLike_35 ?_
            refine lv_iload_n hx hb dX0_dropLike_38 rfl (lv_at hl 1 rfl) ?_
            refine lv_aload_n hx hb dX0_dropLike_39 rfl (lv_at hl 0 rfl) ?_
            refine zget S uw_X0 hE hP 0 0 rfl rfl (by decide) tw_1_148 rfl rfl dX0_dropLike_40 ?_
            refine lv_iload_n hx hb dX0_dropLike_43 rfl (lv_at hl 2 rfl) ?_
            refine zlld hx hb hE hP 1 rfl (zz_in_ok hin_12) dX0_dropLike_44 ?_
            obtain ⟨hin_14, hf⟩ := zz_gd_use hf
            obtain ⟨t_codes_15, et_codes_15, hf⟩ := zz_let_use hf
            refine zlst hx hb hE hP hD hS 1 (wX0 c t0 tA_codes tA_partCodes tA_partShifts tA_partSums t_codes_15 t_size t_partCodes t_partShifts t_partSums t_partCount t_wantedDay t_divisorsWanted) rfl rfl et_codes_15 (zz_in_ok hin_14) dX0_dropLike_45 (fun H locs hP hD hS => ?_)
            obtain ⟨v1_16, ev1_16, hf⟩ := zz_let_use hf
            refine lv_iinc (v := v1_16) (lv' := [(1, .int v1_16), (0, .ref t0), (2, .int v2_3)]) hx hb dX0_dropLike_46 hl (k := 1) rfl (by rw [← ev1_16]; rfl) (by decide) rfl (fun ls hl => ?_)
            exact hJ_17 v1_16 t_codes_15 H locs ls hf hP hD hS (lv_sub hl [1, 0, 2] rfl)
  exact hL_1 N (0 : Int32) (0 : Int32) t_codes s.heap [] ls hf hP hD hS (lv_sub hl [2, 1, 0] rfl)
def f_X0_shiftOf_L7 (N : Nat) (k_1 : (Int64) → Option (Int64)) (p0 : Int64) : Nat → (Int64) → (Int32) → Option (Int64)
  | 0, _, _ => none
  | n_1 + 1, v2_2, v4_3 => (if (3 : Int32) ≤ v4_3 then (k_1 v2_2) else (if p0 < v2_2 then (k_1 v2_2) else zz_let (v2_2 * (27 : Int64)) (fun v2_6 => zz_let (v4_3 + (1 : Int32)) (fun v4_7 => (f_X0_shiftOf_L7 N k_1 p0 n_1 v2_6 v4_7)))))
theorem f_X0_shiftOf_L7_s (N : Nat) (k_1 : (Int64) → Option (Int64)) (p0 : Int64) (n_1 : Nat) (v2_2 : Int64) (v4_3 : Int32) : f_X0_shiftOf_L7 N k_1 p0 (n_1 + 1) v2_2 v4_3 = (if (3 : Int32) ≤ v4_3 then (k_1 v2_2) else (if p0 < v2_2 then (k_1 v2_2) else zz_let (v2_2 * (27 : Int64)) (fun v2_6 => zz_let (v4_3 + (1 : Int32)) (fun v4_7 => (f_X0_shiftOf_L7 N k_1 p0 n_1 v2_6 v4_7))))) := rfl
def f_X0_shiftOf (N : Nat) (p0 : Int64) : Option (Int64) := zz_let (fun (v2_8 : Int64) => (some v2_8)) (fun k_1 => f_X0_shiftOf_L7 N k_1 p0 N (27 : Int64) (1 : Int32))
abbrev rm_X0_shiftOf : Room := { frames := 0, cells := 0, slots := 0, locals := 0 }
theorem mi_X0_shiftOf : zMS yX0_shiftOf cX0_shiftOf 5 (some .long) 1 := ⟨⟨tw_3_112, tw_1_4, tw_3_113⟩, by decide +kernel, by decide +kernel, by decide +kernel⟩
set_option maxHeartbeats 4000000 in
set_option maxRecDepth 100000 in
theorem k_X0_shiftOf (l : Launch) (D : va_G) (c : Nat → ClassId) (N : Nat)  (p0 : Int64) (o : Int64) (hf : f_X0_shiftOf N p0 = some o) : zMPl l D c yX0_shiftOf cX0_shiftOf 5 (some .long) rm_X0_shiftOf ([] : va_W) [.long p0] o := by
  refine zIP (by decide) (Nat.le_of_ble_eq_true rfl) ?_
  intro p e s m args below meth c0 Q hQ hx hb hr hlk hml hts hown hP hE hX hS ls hl
  have S : CallFix p m c0 cX0_shiftOf 5 s args zT RX0 := ⟨hx, hb, hml, hown, hts⟩
  have hl : lv_has ls 5 [(0, .long p0)] := hl
  unfold f_X0_shiftOf at hf
  refine lv_ldc2 (v := (27 : Int64)) hx hb hown (hts _ tw_3_114) dX0_shiftOf_0 ?_
  refine lv_lstore_n (lv' := [(2, .long (27 : Int64)), (0, .long p0)]) hx hb dX0_shiftOf_3 rfl hl (by decide) rfl (fun ls hl => ?_)
  refine lv_iconst (v := (1 : Int32)) hx hb dX0_shiftOf_4 (by decide) ?_
  refine lv_istore (lv' := [(4, .int (1 : Int32)), (2, .long (27 : Int64)), (0, .long p0)]) hx hb dX0_shiftOf_5 hl (by decide) rfl (fun ls hl => ?_)
  obtain ⟨k_1, hk_1, hf⟩ := zz_let_use hf
  have hX_1 : ∀ (v2_8 : Int64) (ls : Array Slot), k_1 v2_8 = some o → lv_has ls 5 [(2, .long v2_8)] → W p l e rm_X0_shiftOf s m args below meth c0 s.heap [] 0 0 Q (F0 m 31 ls []) := by
    intro v2_8 ls hf hl
    subst hk_1
    refine lv_lload_n hx hb dX0_shiftOf_31 rfl (lv_at hl 0 rfl) ?_
    exact zRPl hQ hx hb hr hlk (Option.some.inj hf) dX0_shiftOf_32
  have hL_1 : ∀ (n_1 : Nat) (v2_2 : Int64) (v4_3 : Int32) (ls : Array Slot), f_X0_shiftOf_L7 N k_1 p0 n_1 v2_2 v4_3 = some o → lv_has ls 5 [(0, .long p0), (2, .long v2_2), (4, .int v4_3)] → W p l e rm_X0_shiftOf s m args below meth c0 s.heap [] 0 0 Q (F0 m 7 ls []) := by
    intro n_1
    induction n_1 with
    | zero => intro v2_2 v4_3 ls hf hl; exact zz_none hf
    | succ n_1 ih_1 =>
      intro v2_2 v4_3 ls hf hl
      rw [f_X0_shiftOf_L7_s] at hf
      refine lv_iload hx hb dX0_shiftOf_7 (lv_at hl 2 rfl) ?_
      refine lv_iconst (v := (3 : Int32)) hx hb dX0_shiftOf_9 (by decide) ?_
      refine lv_icmp_ge (tgt := 31) hx hb dX0_shiftOf_10 (by decide) (fun hc_4 => ?_) (fun hc_4 => ?_)
      · have hf := zz_it hf hc_4
        exact hX_1 v2_2 ls hf (lv_sub hl [1] rfl)
      · have hf := zz_if hf hc_4
        refine lv_lload_n hx hb dX0_shiftOf_13 rfl (lv_at hl 1 rfl) ?_
        refine lv_lload_n hx hb dX0_shiftOf_14 rfl (lv_at hl 0 rfl) ?_
        refine zlc_gt (tgt := 31) hx hb dX0_shiftOf_15 dX0_shiftOf_16 (by decide) (fun hc_5 => ?_) (fun hc_5 => ?_)
        · have hf := zz_it hf hc_5
          exact hX_1 v2_2 ls hf (lv_sub hl [1] rfl)
        · have hf := zz_if hf hc_5
          refine lv_lload_n hx hb dX0_shiftOf_19 rfl (lv_at hl 1 rfl) ?_
          refine lv_ldc2 (v := (27 : Int64)) hx hb hown (hts _ tw_3_114) dX0_shiftOf_20 ?_
          refine lv_lmul hx hb dX0_shiftOf_23 ?_
          obtain ⟨v2_6, ev2_6, hf⟩ := zz_let_use hf
          refine ztl ev2_6 ?_
          refine lv_lstore_n (lv' := [(2, .long v2_6), (0, .long p0), (4, .int v4_3)]) hx hb dX0_shiftOf_24 rfl hl (by decide) rfl (fun ls hl => ?_)
          obtain ⟨v4_7, ev4_7, hf⟩ := zz_let_use hf
          refine lv_iinc (v := v4_7) (lv' := [(4, .int v4_7), (2, .long v2_6), (0, .long p0)]) hx hb dX0_shiftOf_25 hl (k := 2) rfl (by rw [← ev4_7]; rfl) (by decide) rfl (fun ls hl => ?_)
          refine lv_goto (tgt := 7) hx hb dX0_shiftOf_28 (by decide) ?_
          exact ih_1 v2_6 v4_7 ls hf (lv_sub hl [2, 1, 0] rfl)
  exact hL_1 N (27 : Int64) (1 : Int32) ls hf (lv_sub hl [2, 1, 0] rfl)
def f_X0_findParts_L7 (N : Nat) (k_1 : (Nat → Int64) → (Nat → Int64) → (Nat → Int32) → (Int32) → Option ((Nat → Int64) × (Nat → Int64) × (Nat → Int32) × (Int32))) (w_numbers : Nat → Int32) (w_syllables : Nat → Int64) (w_syllableCount : Int32) : Nat → (Int32) → (Nat → Int64) → (Nat → Int64) → (Nat → Int32) → (Int32) → Option ((Nat → Int64) × (Nat → Int64) × (Nat → Int32) × (Int32))
  | 0, _, _, _, _, _ => none
  | n_1 + 1, v2_2, t_partCodes_3, t_partShifts_4, t_partSums_5, t_partCount_6 => (if w_syllableCount ≤ v2_2 then (k_1 t_partCodes_3 t_partShifts_4 t_partSums_5 t_partCount_6) else zz_gd (zz_in v2_2 10) (zz_let (w_syllables v2_2.toNatClampNeg) (fun v3_9 => zz_b1 (f_X5_sumInNames N w_numbers v3_9) (fun r_10 => zz_let (fun (t_partCodes_19 : Nat → Int64) (t_partShifts_20 : Nat → Int64) (t_partSums_21 : Nat → Int32) (t_partCount_22 : Int32) => zz_let (v2_2 + (1 : Int32)) (fun v2_23 => (f_X0_findParts_L7 N k_1 w_numbers w_syllables w_syllableCount n_1 v2_23 t_partCodes_19 t_partShifts_20 t_partSums_21 t_partCount_22))) (fun k_18 => (if r_10 ≤ 0 then (k_18 t_partCodes_3 t_partShifts_4 t_partSums_5 t_partCount_6) else zz_gd (zz_in t_partCount_6 10) (zz_let (vp_updL t_partCodes_3 t_partCount_6.toNatClampNeg v3_9) (fun t_partCodes_13 => zz_b1 (f_X0_shiftOf N v3_9) (fun r_14 => zz_let (vp_updL t_partShifts_4 t_partCount_6.toNatClampNeg r_14) (fun t_partShifts_15 => zz_let (upd t_partSums_5 t_partCount_6.toNatClampNeg r_10) (fun t_partSums_16 => zz_let (t_partCount_6 + (1 : Int32)) (fun t_partCount_17 => (k_18 t_partCodes_13 t_partShifts_15 t_partSums_16 t_partCount_17)))))))))))))
theorem f_X0_findParts_L7_s (N : Nat) (k_1 : (Nat → Int64) → (Nat → Int64) → (Nat → Int32) → (Int32) → Option ((Nat → Int64) × (Nat → Int64) × (Nat → Int32) × (Int32))) (w_numbers : Nat → Int32) (w_syllables : Nat → Int64) (w_syllableCount : Int32) (n_1 : Nat) (v2_2 : Int32) (t_partCodes_3 : Nat → Int64) (t_partShifts_4 : Nat → Int64) (t_partSums_5 : Nat → Int32) (t_partCount_6 : Int32) : f_X0_findParts_L7 N k_1 w_numbers w_syllables w_syllableCount (n_1 + 1) v2_2 t_partCodes_3 t_partShifts_4 t_partSums_5 t_partCount_6 = (if w_syllableCount ≤ v2_2 then (k_1 t_partCodes_3 t_partShifts_4 t_partSums_5 t_partCount_6) else zz_gd (zz_in v2_2 10) (zz_let (w_syllables v2_2.toNatClampNeg) (fun v3_9 => zz_b1 (f_X5_sumInNames N w_numbers v3_9) (fun r_10 => zz_let (fun (t_partCodes_19 : Nat → Int64) (t_partShifts_20 : Nat → Int64) (t_partSums_21 : Nat → Int32) (t_partCount_22 : Int32) => zz_let (v2_2 + (1 : Int32)) (fun v2_23 => (f_X0_findParts_L7 N k_1 w_numbers w_syllables w_syllableCount n_1 v2_23 t_partCodes_19 t_partShifts_20 t_partSums_21 t_partCount_22))) (fun k_18 => (if r_10 ≤ 0 then (k_18 t_partCodes_3 t_partShifts_4 t_partSums_5 t_partCount_6) else zz_gd (zz_in t_partCount_6 10) (zz_let (vp_updL t_partCodes_3 t_partCount_6.toNatClampNeg v3_9) (fun t_partCodes_13 => zz_b1 (f_X0_shiftOf N v3_9) (fun r_14 => zz_let (vp_updL t_partShifts_4 t_partCount_6.toNatClampNeg r_14) (fun t_partShifts_15 => zz_let (upd t_partSums_5 t_partCount_6.toNatClampNeg r_10) (fun t_partSums_16 => zz_let (t_partCount_6 + (1 : Int32)) (fun t_partCount_17 => (k_18 t_partCodes_13 t_partShifts_15 t_partSums_16 t_partCount_17))))))))))))) := rfl
def f_X0_findParts (N : Nat) (t_partCodes : Nat → Int64) (t_partShifts : Nat → Int64) (t_partSums : Nat → Int32) (w_numbers : Nat → Int32) (w_syllables : Nat → Int64) (w_syllableCount : Int32) : Option ((Nat → Int64) × (Nat → Int64) × (Nat → Int32) × (Int32)) := zz_let (fun (t_partCodes_24 : Nat → Int64) (t_partShifts_25 : Nat → Int64) (t_partSums_26 : Nat → Int32) (t_partCount_27 : Int32) => (some (t_partCodes_24, t_partShifts_25, t_partSums_26, t_partCount_27))) (fun k_1 => f_X0_findParts_L7 N k_1 w_numbers w_syllables w_syllableCount N (0 : Int32) t_partCodes t_partShifts t_partSums (0 : Int32))
abbrev rm_X0_findParts : Room := { frames := 3, cells := 0, slots := 0, locals := 74 }
theorem mi_X0_findParts : zMI RX0 yX0_findParts cX0_findParts 6 none 1 := ⟨⟨tw_3_108, ts_X0_findParts, tw_1_4, tw_3_109⟩, by decide +kernel, by decide +kernel, by decide +kernel⟩
set_option maxHeartbeats 4000000 in
set_option maxRecDepth 100000 in
theorem k_X0_findParts (l : Launch) (D : va_G) (c : Nat → ClassId) (N : Nat) (t0 : Nat) (tA_codes : Nat) (tA_partCodes : Nat) (tA_partShifts : Nat) (tA_partSums : Nat) (t_codes : Nat → Int64) (t_size : Int32) (t_partCodes : Nat → Int64) (t_partShifts : Nat → Int64) (t_partSums : Nat → Int32) (t_partCount : Int32) (t_wantedDay : Int32) (t_divisorsWanted : Int32) (w0 : Nat) (wA_numbers : Nat) (wA_syllables : Nat) (wA_days : Nat) (wA_words : Nat) (wA_parents : Nat) (wA_otherParents : Nat) (wA_kinds : Nat) (wA_hopeDays : Nat) (wA_hopeTenths : Nat) (w_numbers : Nat → Int32) (w_syllables : Nat → Int64) (w_syllableCount : Int32) (w_days : Nat → Int32) (w_words : Nat → Int64) (w_parents : Nat → Int32) (w_otherParents : Nat → Int32) (w_kinds : Nat → Int32) (w_personCount : Int32) (w_hopeDays : Nat → Int32) (w_hopeTenths : Nat → Int32) (w_hopeCount : Int32) (w_degreesTold : Int32)  (o_t_partCodes : Nat → Int64) (o_t_partShifts : Nat → Int64) (o_t_partSums : Nat → Int32) (o_t_partCount : Int32) (hf : f_X0_findParts N t_partCodes t_partShifts t_partSums w_numbers w_syllables w_syllableCount = some (o_t_partCodes, o_t_partShifts, o_t_partSums, o_t_partCount)) : zMWv l D c yX0_findParts cX0_findParts 6 none rm_X0_findParts (wX0 c t0 tA_codes tA_partCodes tA_partShifts tA_partSums t_codes t_size t_partCodes t_partShifts t_partSums t_partCount t_wantedDay t_divisorsWanted ++ wX5 c w0 wA_numbers wA_syllables wA_days wA_words wA_parents wA_otherParents wA_kinds wA_hopeDays wA_hopeTenths w_numbers w_syllables w_syllableCount w_days w_words w_parents w_otherParents w_kinds w_personCount w_hopeDays w_hopeTenths w_hopeCount w_degreesTold) (wX0 c t0 tA_codes tA_partCodes tA_partShifts tA_partSums t_codes t_size o_t_partCodes o_t_partShifts o_t_partSums o_t_partCount t_wantedDay t_divisorsWanted ++ wX5 c w0 wA_numbers wA_syllables wA_days wA_words wA_parents wA_otherParents wA_kinds wA_hopeDays wA_hopeTenths w_numbers w_syllables w_syllableCount w_days w_words w_parents w_otherParents w_kinds w_personCount w_hopeDays w_hopeTenths w_hopeCount w_degreesTold) [.ref t0, .ref w0] := by
  intro sz
  refine zIW (by decide) (Nat.le_of_ble_eq_true rfl) ?_
  intro p e s m args below meth c0 Q A hAe hQ hx hb hr hlk hml hts hown hP hE hD hS hA hsz hmn hX ls hl
  rw [← hAe] at hQ
  have S : CallFix p m c0 cX0_findParts 6 s args zT RX0 := ⟨hx, hb, hml, hown, hts⟩
  have hl : lv_has ls 6 [(0, .ref t0), (1, .ref w0)] := hl
  unfold f_X0_findParts at hf
  refine lv_aload_n hx hb dX0_findParts_0 rfl (lv_at hl 0 rfl) ?_
  refine lv_iconst (v := (0 : Int32)) hx hb dX0_findParts_1 (by decide) ?_
  refine zput S uw_X0 tyX0_ok nmX0 hE hP hD hS 0 5 (ty := .int) (wX0 c t0 tA_codes tA_partCodes tA_partShifts tA_partSums t_codes t_size t_partCodes t_partShifts t_partSums (0 : Int32) t_wantedDay t_divisorsWanted ++ wX5 c w0 wA_numbers wA_syllables wA_days wA_words wA_parents wA_otherParents wA_kinds wA_hopeDays wA_hopeTenths w_numbers w_syllables w_syllableCount w_days w_words w_parents w_otherParents w_kinds w_personCount w_hopeDays w_hopeTenths w_hopeCount w_degreesTold) rfl rfl (by decide) tw_1_155 rfl rfl (by decide +kernel) rfl rfl (Nat.le_of_ble_eq_true rfl) rfl dX0_findParts_2 (fun H locs hP hD hS => ?_)
  refine lv_iconst (v := (0 : Int32)) hx hb dX0_findParts_5 (by decide) ?_
  refine lv_istore_n (lv' := [(2, .int (0 : Int32)), (0, .ref t0), (1, .ref w0)]) hx hb dX0_findParts_6 rfl hl (by decide) rfl (fun ls hl => ?_)
  obtain ⟨k_1, hk_1, hf⟩ := zz_let_use hf
  have hX_1 : ∀ (t_partCodes_24 : Nat → Int64) (t_partShifts_25 : Nat → Int64) (t_partSums_26 : Nat → Int32) (t_partCount_27 : Int32) (H : Heap) (locs : List Loc) (ls : Array Slot), k_1 t_partCodes_24 t_partShifts_25 t_partSums_26 t_partCount_27 = some (o_t_partCodes, o_t_partShifts, o_t_partSums, o_t_partCount) → va_P D vwCl (wX0 c t0 tA_codes tA_partCodes tA_partShifts tA_partSums t_codes t_size t_partCodes_24 t_partShifts_25 t_partSums_26 t_partCount_27 t_wantedDay t_divisorsWanted ++ wX5 c w0 wA_numbers wA_syllables wA_days wA_words wA_parents wA_otherParents wA_kinds wA_hopeDays wA_hopeTenths w_numbers w_syllables w_syllableCount w_days w_words w_parents w_otherParents w_kinds w_personCount w_hopeDays w_hopeTenths w_hopeCount w_degreesTold) H → va_D A (wX0 c t0 tA_codes tA_partCodes tA_partShifts tA_partSums t_codes t_size t_partCodes_24 t_partShifts_25 t_partSums_26 t_partCount_27 t_wantedDay t_divisorsWanted ++ wX5 c w0 wA_numbers wA_syllables wA_days wA_words wA_parents wA_otherParents wA_kinds wA_hopeDays wA_hopeTenths w_numbers w_syllables w_syllableCount w_days w_words w_parents w_otherParents w_kinds w_personCount w_hopeDays w_hopeTenths w_hopeCount w_degreesTold) → va_S A s.heap H locs → lv_has ls 6 [] → W p l e rm_X0_findParts s m args below meth c0 H locs 0 0 Q (F0 m 84 ls []) := by
    intro t_partCodes_24 t_partShifts_25 t_partSums_26 t_partCount_27 H locs ls hf hP hD hS hl
    subst hk_1
    cases hf
    exact zRWv hQ hx hb hr hlk hP hD hS dX0_findParts_84
  have hL_1 : ∀ (n_1 : Nat) (v2_2 : Int32) (t_partCodes_3 : Nat → Int64) (t_partShifts_4 : Nat → Int64) (t_partSums_5 : Nat → Int32) (t_partCount_6 : Int32) (H : Heap) (locs : List Loc) (ls : Array Slot), f_X0_findParts_L7 N k_1 w_numbers w_syllables w_syllableCount n_1 v2_2 t_partCodes_3 t_partShifts_4 t_partSums_5 t_partCount_6 = some (o_t_partCodes, o_t_partShifts, o_t_partSums, o_t_partCount) → va_P D vwCl (wX0 c t0 tA_codes tA_partCodes tA_partShifts tA_partSums t_codes t_size t_partCodes_3 t_partShifts_4 t_partSums_5 t_partCount_6 t_wantedDay t_divisorsWanted ++ wX5 c w0 wA_numbers wA_syllables wA_days wA_words wA_parents wA_otherParents wA_kinds wA_hopeDays wA_hopeTenths w_numbers w_syllables w_syllableCount w_days w_words w_parents w_otherParents w_kinds w_personCount w_hopeDays w_hopeTenths w_hopeCount w_degreesTold) H → va_D A (wX0 c t0 tA_codes tA_partCodes tA_partShifts tA_partSums t_codes t_size t_partCodes_3 t_partShifts_4 t_partSums_5 t_partCount_6 t_wantedDay t_divisorsWanted ++ wX5 c w0 wA_numbers wA_syllables wA_days wA_words wA_parents wA_otherParents wA_kinds wA_hopeDays wA_hopeTenths w_numbers w_syllables w_syllableCount w_days w_words w_parents w_otherParents w_kinds w_personCount w_hopeDays w_hopeTenths w_hopeCount w_degreesTold) → va_S A s.heap H locs → lv_has ls 6 [(0, .ref t0), (1, .ref w0), (2, .int v2_2)] → W p l e rm_X0_findParts s m args below meth c0 H locs 0 0 Q (F0 m 7 ls []) := by
    intro n_1
    induction n_1 with
    | zero => intro v2_2 t_partCodes_3 t_partShifts_4 t_partSums_5 t_partCount_6 H locs ls hf hP hD hS hl; exact zz_none hf
    | succ n_1 ih_1 =>
      intro v2_2 t_partCodes_3 t_partShifts_4 t_partSums_5 t_partCount_6 H locs ls hf hP hD hS hl
      rw [f_X0_findParts_L7_s] at hf
      refine lv_iload_n hx hb dX0_findParts_7 rfl (lv_at hl 2 rfl) ?_
      refine lv_aload_n hx hb dX0_findParts_8 rfl (lv_at hl 1 rfl) ?_
      refine zget S uw_X5 hE hP 5 2 rfl rfl (by decide) tw_1_38 rfl rfl dX0_findParts_9 ?_
      refine lv_icmp_ge (tgt := 84) hx hb dX0_findParts_12 (by decide) (fun hc_7 => ?_) (fun hc_7 => ?_)
      · have hf := zz_it hf hc_7
        exact hX_1 t_partCodes_3 t_partShifts_4 t_partSums_5 t_partCount_6 H locs ls hf hP hD hS (lv_sub hl [] rfl)
      · have hf := zz_if hf hc_7
        refine lv_aload_n hx hb dX0_findParts_15 rfl (lv_at hl 1 rfl) ?_
        refine zget S uw_X5 hE hP 5 1 rfl rfl (by decide) tw_1_35 rfl rfl dX0_findParts_16 ?_
        refine lv_iload_n hx hb dX0_findParts_19 rfl (lv_at hl 2 rfl) ?_
        obtain ⟨hin_8, hf⟩ := zz_gd_use hf
        refine zlld hx hb hE hP 7 rfl (zz_in_ok hin_8) dX0_findParts_20 ?_
        obtain ⟨v3_9, ev3_9, hf⟩ := zz_let_use hf
        refine ztl ev3_9 ?_
        refine lv_lstore_n (lv' := [(3, .long v3_9), (0, .ref t0), (1, .ref w0), (2, .int v2_2)]) hx hb dX0_findParts_21 rfl hl (by decide) rfl (fun ls hl => ?_)
        refine lv_aload_n hx hb dX0_findParts_22 rfl (lv_at hl 2 rfl) ?_
        refine lv_lload_n hx hb dX0_findParts_23 rfl (lv_at hl 0 rfl) ?_
        obtain ⟨r_10, he_10, hf⟩ := zz_b1_use hf
        refine zcVi (As := [.long v3_9]) (rest := []) S (k_X5_sumInNames l D c N w0 wA_numbers wA_syllables wA_days wA_words wA_parents wA_otherParents wA_kinds wA_hopeDays wA_hopeTenths w_numbers w_syllables w_syllableCount w_days w_words w_parents w_otherParents w_kinds w_personCount w_hopeDays w_hopeTenths w_hopeCount w_degreesTold v3_9 r_10 he_10) mi_X5_sumInNames tw_3_110 ⟨(Nat.le_of_ble_eq_true rfl), (Nat.le_of_ble_eq_true rfl)⟩ ⟨rfl, rfl⟩ (zpsub (is := [5, 6, 7, 8, 9, 10, 11, 12, 13, 14]) hP rfl) hE hX hS (ci := 5) rfl rfl (q0 := 0) rfl rfl hl.1 rfl (Nat.le_of_ble_eq_true rfl) dX0_findParts_24 ⟨(Nat.le_of_ble_eq_true rfl), (Nat.le_of_ble_eq_true rfl)⟩ ?_
        refine lv_istore (lv' := [(5, .int r_10), (3, .long v3_9), (0, .ref t0), (1, .ref w0), (2, .int v2_2)]) hx hb dX0_findParts_27 hl (by decide) rfl (fun ls hl => ?_)
        refine lv_iload hx hb dX0_findParts_29 (lv_at hl 0 rfl) ?_
        obtain ⟨k_18, hk_18, hf⟩ := zz_let_use hf
        have hJ_18 : ∀ (t_partCodes_19 : Nat → Int64) (t_partShifts_20 : Nat → Int64) (t_partSums_21 : Nat → Int32) (t_partCount_22 : Int32) (H : Heap) (locs : List Loc) (ls : Array Slot), k_18 t_partCodes_19 t_partShifts_20 t_partSums_21 t_partCount_22 = some (o_t_partCodes, o_t_partShifts, o_t_partSums, o_t_partCount) → va_P D vwCl (wX0 c t0 tA_codes tA_partCodes tA_partShifts tA_partSums t_codes t_size t_partCodes_19 t_partShifts_20 t_partSums_21 t_partCount_22 t_wantedDay t_divisorsWanted ++ wX5 c w0 wA_numbers wA_syllables wA_days wA_words wA_parents wA_otherParents wA_kinds wA_hopeDays wA_hopeTenths w_numbers w_syllables w_syllableCount w_days w_words w_parents w_otherParents w_kinds w_personCount w_hopeDays w_hopeTenths w_hopeCount w_degreesTold) H → va_D A (wX0 c t0 tA_codes tA_partCodes tA_partShifts tA_partSums t_codes t_size t_partCodes_19 t_partShifts_20 t_partSums_21 t_partCount_22 t_wantedDay t_divisorsWanted ++ wX5 c w0 wA_numbers wA_syllables wA_days wA_words wA_parents wA_otherParents wA_kinds wA_hopeDays wA_hopeTenths w_numbers w_syllables w_syllableCount w_days w_words w_parents w_otherParents w_kinds w_personCount w_hopeDays w_hopeTenths w_hopeCount w_degreesTold) → va_S A s.heap H locs → lv_has ls 6 [(0, .ref t0), (1, .ref w0), (2, .int v2_2)] → W p l e rm_X0_findParts s m args below meth c0 H locs 0 0 Q (F0 m 78 ls []) := by
          intro t_partCodes_19 t_partShifts_20 t_partSums_21 t_partCount_22 H locs ls hf hP hD hS hl
          subst hk_18
          obtain ⟨v2_23, ev2_23, hf⟩ := zz_let_use hf
          refine lv_iinc (v := v2_23) (lv' := [(2, .int v2_23), (0, .ref t0), (1, .ref w0)]) hx hb dX0_findParts_78 hl (k := 2) rfl (by rw [← ev2_23]; rfl) (by decide) rfl (fun ls hl => ?_)
          refine lv_goto (tgt := 7) hx hb dX0_findParts_81 (by decide) ?_
          exact ih_1 v2_23 t_partCodes_19 t_partShifts_20 t_partSums_21 t_partCount_22 H locs ls hf hP hD hS (lv_sub hl [1, 2, 0] rfl)
        refine lv_if_le (tgt := 78) hx hb dX0_findParts_31 (by decide) (fun hc_11 => ?_) (fun hc_11 => ?_)
        · have hf := zz_it hf hc_11
          exact hJ_18 t_partCodes_3 t_partShifts_4 t_partSums_5 t_partCount_6 H locs ls hf hP hD hS (lv_sub hl [2, 3, 4] rfl)
        · have hf := zz_if hf hc_11
          refine lv_aload_n hx hb dX0_findParts_34 rfl (lv_at hl 2 rfl) ?_
          refine zget S uw_X0 hE hP 0 2 rfl rfl (by decide) tw_1_152 rfl rfl dX0_findParts_35 ?_
          refine lv_aload_n hx hb dX0_findParts_38 rfl (lv_at hl 2 rfl) ?_
          refine zget S uw_X0 hE hP 0 5 rfl rfl (by decide) tw_1_155 rfl rfl dX0_findParts_39 ?_
          refine lv_lload_n hx hb dX0_findParts_42 rfl (lv_at hl 1 rfl) ?_
          obtain ⟨hin_12, hf⟩ := zz_gd_use hf
          obtain ⟨t_partCodes_13, et_partCodes_13, hf⟩ := zz_let_use hf
          refine zlst hx hb hE hP hD hS 2 (wX0 c t0 tA_codes tA_partCodes tA_partShifts tA_partSums t_codes t_size t_partCodes_13 t_partShifts_4 t_partSums_5 t_partCount_6 t_wantedDay t_divisorsWanted ++ wX5 c w0 wA_numbers wA_syllables wA_days wA_words wA_parents wA_otherParents wA_kinds wA_hopeDays wA_hopeTenths w_numbers w_syllables w_syllableCount w_days w_words w_parents w_otherParents w_kinds w_personCount w_hopeDays w_hopeTenths w_hopeCount w_degreesTold) rfl rfl et_partCodes_13 (zz_in_ok hin_12) dX0_findParts_43 (fun H locs hP hD hS => ?_)
          refine lv_aload_n hx hb dX0_findParts_44 rfl (lv_at hl 2 rfl) ?_
          refine zget S uw_X0 hE hP 0 3 rfl rfl (by decide) tw_1_153 rfl rfl dX0_findParts_45 ?_
          refine lv_aload_n hx hb dX0_findParts_48 rfl (lv_at hl 2 rfl) ?_
          refine zget S uw_X0 hE hP 0 5 rfl rfl (by decide) tw_1_155 rfl rfl dX0_findParts_49 ?_
          refine lv_lload_n hx hb dX0_findParts_52 rfl (lv_at hl 1 rfl) ?_
          obtain ⟨r_14, he_14, hf⟩ := zz_b1_use hf
          refine zcSl (As := [.long v3_9]) (rest := [.int t_partCount_6, .ref tA_partShifts]) S (k_X0_shiftOf l D c N  v3_9 r_14 he_14) mi_X0_shiftOf tw_3_111 ⟨(Nat.le_of_ble_eq_true rfl), (Nat.le_of_ble_eq_true rfl)⟩ ⟨rfl, rfl⟩ (zpnil) hE hX hS rfl hl.1 rfl (Nat.le_of_ble_eq_true rfl) dX0_findParts_53 ⟨(Nat.le_of_ble_eq_true rfl), (Nat.le_of_ble_eq_true rfl)⟩ ?_
          obtain ⟨t_partShifts_15, et_partShifts_15, hf⟩ := zz_let_use hf
          refine zlst hx hb hE hP hD hS 3 (wX0 c t0 tA_codes tA_partCodes tA_partShifts tA_partSums t_codes t_size t_partCodes_13 t_partShifts_15 t_partSums_5 t_partCount_6 t_wantedDay t_divisorsWanted ++ wX5 c w0 wA_numbers wA_syllables wA_days wA_words wA_parents wA_otherParents wA_kinds wA_hopeDays wA_hopeTenths w_numbers w_syllables w_syllableCount w_days w_words w_parents w_otherParents w_kinds w_personCount w_hopeDays w_hopeTenths w_hopeCount w_degreesTold) rfl rfl et_partShifts_15 (zz_in_ok hin_12) dX0_findParts_56 (fun H locs hP hD hS => ?_)
          refine lv_aload_n hx hb dX0_findParts_57 rfl (lv_at hl 2 rfl) ?_
          refine zget S uw_X0 hE hP 0 4 rfl rfl (by decide) tw_1_154 rfl rfl dX0_findParts_58 ?_
          refine lv_aload_n hx hb dX0_findParts_61 rfl (lv_at hl 2 rfl) ?_
          refine zget S uw_X0 hE hP 0 5 rfl rfl (by decide) tw_1_155 rfl rfl dX0_findParts_62 ?_
          refine lv_iload hx hb dX0_findParts_65 (lv_at hl 0 rfl) ?_
          obtain ⟨t_partSums_16, et_partSums_16, hf⟩ := zz_let_use hf
          refine zist hx hb hE hP hD hS 4 (wX0 c t0 tA_codes tA_partCodes tA_partShifts tA_partSums t_codes t_size t_partCodes_13 t_partShifts_15 t_partSums_16 t_partCount_6 t_wantedDay t_divisorsWanted ++ wX5 c w0 wA_numbers wA_syllables wA_days wA_words wA_parents wA_otherParents wA_kinds wA_hopeDays wA_hopeTenths w_numbers w_syllables w_syllableCount w_days w_words w_parents w_otherParents w_kinds w_personCount w_hopeDays w_hopeTenths w_hopeCount w_degreesTold) rfl rfl et_partSums_16 (zz_in_ok hin_12) dX0_findParts_67 (fun H locs hP hD hS => ?_)
          refine lv_aload_n hx hb dX0_findParts_68 rfl (lv_at hl 2 rfl) ?_
          refine lv_dup hx hb dX0_findParts_69 rfl ?_
          refine zget S uw_X0 hE hP 0 5 rfl rfl (by decide) tw_1_155 rfl rfl dX0_findParts_70 ?_
          refine lv_iconst (v := (1 : Int32)) hx hb dX0_findParts_73 (by decide) ?_
          refine lv_iadd hx hb dX0_findParts_74 ?_
          obtain ⟨t_partCount_17, et_partCount_17, hf⟩ := zz_let_use hf
          refine zti et_partCount_17 ?_
          refine zput S uw_X0 tyX0_ok nmX0 hE hP hD hS 0 5 (ty := .int) (wX0 c t0 tA_codes tA_partCodes tA_partShifts tA_partSums t_codes t_size t_partCodes_13 t_partShifts_15 t_partSums_16 t_partCount_17 t_wantedDay t_divisorsWanted ++ wX5 c w0 wA_numbers wA_syllables wA_days wA_words wA_parents wA_otherParents wA_kinds wA_hopeDays wA_hopeTenths w_numbers w_syllables w_syllableCount w_days w_words w_parents w_otherParents w_kinds w_personCount w_hopeDays w_hopeTenths w_hopeCount w_degreesTold) rfl rfl (by decide) tw_1_155 rfl rfl (by decide +kernel) rfl rfl (Nat.le_of_ble_eq_true rfl) rfl dX0_findParts_75 (fun H locs hP hD hS => ?_)
          exact hJ_18 t_partCodes_13 t_partShifts_15 t_partSums_16 t_partCount_17 H locs ls hf hP hD hS (lv_sub hl [2, 3, 4] rfl)
  exact hL_1 N (0 : Int32) t_partCodes t_partShifts t_partSums (0 : Int32) H locs ls hf hP hD hS (lv_sub hl [1, 2, 0] rfl)
def f_X0_addIfWanted (N : Nat) (t_codes : Nat → Int64) (t_size : Int32) (t_wantedDay : Int32) (t_divisorsWanted : Int32) (p1 : Int64) (p3 : Int32) : Option ((Nat → Int64) × (Int32)) := zz_let (fun (q_7 : Int32) => (if q_7 = 0 then (some (t_codes, t_size)) else (if (1110 : Int32) ≤ t_size then (some (t_codes, t_size)) else zz_gd (zz_in t_size 1110) (zz_let (vp_updL t_codes t_size.toNatClampNeg p1) (fun t_codes_11 => zz_let (t_size + (1 : Int32)) (fun t_size_12 => (some (t_codes_11, t_size_12)))))))) (fun k_6 => (if p3 = t_wantedDay then (k_6 (1 : Int32)) else (if t_divisorsWanted = 0 then (k_6 (0 : Int32)) else (if p3 ≤ 0 then (k_6 (0 : Int32)) else zz_gd (zz_nz p3) ((if (t_wantedDay - t_wantedDay / p3 * p3) = 0 then (k_6 (1 : Int32)) else (k_6 (0 : Int32))))))))
abbrev rm_X0_addIfWanted : Room := { frames := 0, cells := 0, slots := 0, locals := 0 }
theorem mi_X0_addIfWanted : zMI RX0 yX0_addIfWanted cX0_addIfWanted 5 none 2 := ⟨⟨tw_3_121, ts_X0_addIfWanted, tw_1_4, tw_3_122⟩, by decide +kernel, by decide +kernel, by decide +kernel⟩
set_option maxHeartbeats 4000000 in
set_option maxRecDepth 100000 in
theorem k_X0_addIfWanted (l : Launch) (D : va_G) (c : Nat → ClassId) (N : Nat) (t0 : Nat) (tA_codes : Nat) (tA_partCodes : Nat) (tA_partShifts : Nat) (tA_partSums : Nat) (t_codes : Nat → Int64) (t_size : Int32) (t_partCodes : Nat → Int64) (t_partShifts : Nat → Int64) (t_partSums : Nat → Int32) (t_partCount : Int32) (t_wantedDay : Int32) (t_divisorsWanted : Int32) (p1 : Int64) (p3 : Int32) (o_t_codes : Nat → Int64) (o_t_size : Int32) (hf : f_X0_addIfWanted N t_codes t_size t_wantedDay t_divisorsWanted p1 p3 = some (o_t_codes, o_t_size)) : zMWv l D c yX0_addIfWanted cX0_addIfWanted 5 none rm_X0_addIfWanted (wX0 c t0 tA_codes tA_partCodes tA_partShifts tA_partSums t_codes t_size t_partCodes t_partShifts t_partSums t_partCount t_wantedDay t_divisorsWanted) (wX0 c t0 tA_codes tA_partCodes tA_partShifts tA_partSums o_t_codes o_t_size t_partCodes t_partShifts t_partSums t_partCount t_wantedDay t_divisorsWanted) [.ref t0, .long p1, .int p3] := by
  intro sz
  refine zIW (by decide) (Nat.le_of_ble_eq_true rfl) ?_
  intro p e s m args below meth c0 Q A hAe hQ hx hb hr hlk hml hts hown hP hE hD hS hA hsz hmn hX ls hl
  rw [← hAe] at hQ
  have S : CallFix p m c0 cX0_addIfWanted 5 s args zT RX0 := ⟨hx, hb, hml, hown, hts⟩
  have hl : lv_has ls 5 [(0, .ref t0), (1, .long p1), (3, .int p3)] := hl
  unfold f_X0_addIfWanted at hf
  refine lv_iload_n hx hb dX0_addIfWanted_0 rfl (lv_at hl 2 rfl) ?_
  refine lv_aload_n hx hb dX0_addIfWanted_1 rfl (lv_at hl 0 rfl) ?_
  refine zget S uw_X0 hE hP 0 6 rfl rfl (by decide) tw_1_156 rfl rfl dX0_addIfWanted_2 ?_
  obtain ⟨k_6, hk_6, hf⟩ := zz_let_use hf
  have hJ_6 : ∀ (q_7 : Int32) (H : Heap) (locs : List Loc) (ls : Array Slot), k_6 q_7 = some (o_t_codes, o_t_size) → va_P D vwCl (wX0 c t0 tA_codes tA_partCodes tA_partShifts tA_partSums t_codes t_size t_partCodes t_partShifts t_partSums t_partCount t_wantedDay t_divisorsWanted) H → va_D A (wX0 c t0 tA_codes tA_partCodes tA_partShifts tA_partSums t_codes t_size t_partCodes t_partShifts t_partSums t_partCount t_wantedDay t_divisorsWanted) → va_S A s.heap H locs → lv_has ls 5 [(0, .ref t0), (1, .long p1)] → W p l e rm_X0_addIfWanted s m args below meth c0 H locs 0 0 Q (F0 m 33 ls [.int q_7]) := by
    intro q_7 H locs ls hf hP hD hS hl
    subst hk_6
    refine lv_istore (lv' := [(4, .int q_7), (0, .ref t0), (1, .long p1)]) hx hb dX0_addIfWanted_33 hl (by decide) rfl (fun ls hl => ?_)
    refine lv_iload hx hb dX0_addIfWanted_35 (lv_at hl 0 rfl) ?_
    refine lv_if_eq (tgt := 70) hx hb dX0_addIfWanted_37 (by decide) (fun hc_8 => ?_) (fun hc_8 => ?_)
    · have hf := zz_it hf hc_8
      cases hf
      exact zRWv hQ hx hb hr hlk hP hD hS dX0_addIfWanted_70
    · have hf := zz_if hf hc_8
      refine lv_aload_n hx hb dX0_addIfWanted_40 rfl (lv_at hl 1 rfl) ?_
      refine zget S uw_X0 hE hP 0 1 rfl rfl (by decide) tw_1_150 rfl rfl dX0_addIfWanted_41 ?_
      refine lv_sipush (v := (1110 : Int32)) hx hb dX0_addIfWanted_44 (by decide) ?_
      refine lv_icmp_ge (tgt := 70) hx hb dX0_addIfWanted_47 (by decide) (fun hc_9 => ?_) (fun hc_9 => ?_)
      · have hf := zz_it hf hc_9
        cases hf
        exact zRWv hQ hx hb hr hlk hP hD hS dX0_addIfWanted_70
      · have hf := zz_if hf hc_9
        refine lv_aload_n hx hb dX0_addIfWanted_50 rfl (lv_at hl 1 rfl) ?_
        refine zget S uw_X0 hE hP 0 0 rfl rfl (by decide) tw_1_148 rfl rfl dX0_addIfWanted_51 ?_
        refine lv_aload_n hx hb dX0_addIfWanted_54 rfl (lv_at hl 1 rfl) ?_
        refine zget S uw_X0 hE hP 0 1 rfl rfl (by decide) tw_1_150 rfl rfl dX0_addIfWanted_55 ?_
        refine lv_lload_n hx hb dX0_addIfWanted_58 rfl (lv_at hl 2 rfl) ?_
        obtain ⟨hin_10, hf⟩ := zz_gd_use hf
        obtain ⟨t_codes_11, et_codes_11, hf⟩ := zz_let_use hf
        refine zlst hx hb hE hP hD hS 1 (wX0 c t0 tA_codes tA_partCodes tA_partShifts tA_partSums t_codes_11 t_size t_partCodes t_partShifts t_partSums t_partCount t_wantedDay t_divisorsWanted) rfl rfl et_codes_11 (zz_in_ok hin_10) dX0_addIfWanted_59 (fun H locs hP hD hS => ?_)
        refine lv_aload_n hx hb dX0_addIfWanted_60 rfl (lv_at hl 1 rfl) ?_
        refine lv_dup hx hb dX0_addIfWanted_61 rfl ?_
        refine zget S uw_X0 hE hP 0 1 rfl rfl (by decide) tw_1_150 rfl rfl dX0_addIfWanted_62 ?_
        refine lv_iconst (v := (1 : Int32)) hx hb dX0_addIfWanted_65 (by decide) ?_
        refine lv_iadd hx hb dX0_addIfWanted_66 ?_
        obtain ⟨t_size_12, et_size_12, hf⟩ := zz_let_use hf
        refine zti et_size_12 ?_
        refine zput S uw_X0 tyX0_ok nmX0 hE hP hD hS 0 1 (ty := .int) (wX0 c t0 tA_codes tA_partCodes tA_partShifts tA_partSums t_codes_11 t_size_12 t_partCodes t_partShifts t_partSums t_partCount t_wantedDay t_divisorsWanted) rfl rfl (by decide) tw_1_150 rfl rfl (by decide +kernel) rfl rfl (Nat.le_of_ble_eq_true rfl) rfl dX0_addIfWanted_67 (fun H locs hP hD hS => ?_)
        cases hf
        exact zRWv hQ hx hb hr hlk hP hD hS dX0_addIfWanted_70
  refine lv_icmp_eq (tgt := 28) hx hb dX0_addIfWanted_5 (by decide) (fun hc_1 => ?_) (fun hc_1 => ?_)
  · have hf := zz_it hf hc_1
    refine lv_iconst (v := (1 : Int32)) hx hb dX0_addIfWanted_28 (by decide) ?_
    refine lv_goto (tgt := 33) hx hb dX0_addIfWanted_29 (by decide) ?_
    exact hJ_6 (1 : Int32) s.heap [] ls hf hP hD hS (lv_sub hl [0, 1] rfl)
  · have hf := zz_if hf hc_1
    refine lv_aload_n hx hb dX0_addIfWanted_8 rfl (lv_at hl 0 rfl) ?_
    refine zget S uw_X0 hE hP 0 7 rfl rfl (by decide) tw_1_157 rfl rfl dX0_addIfWanted_9 ?_
    refine lv_if_eq (tgt := 32) hx hb dX0_addIfWanted_12 (by decide) (fun hc_2 => ?_) (fun hc_2 => ?_)
    · have hf := zz_it hf hc_2
      refine lv_iconst (v := (0 : Int32)) hx hb dX0_addIfWanted_32 (by decide) ?_
      exact hJ_6 (0 : Int32) s.heap [] ls hf hP hD hS (lv_sub hl [0, 1] rfl)
    · have hf := zz_if hf hc_2
      refine lv_iload_n hx hb dX0_addIfWanted_15 rfl (lv_at hl 2 rfl) ?_
      refine lv_if_le (tgt := 32) hx hb dX0_addIfWanted_16 (by decide) (fun hc_3 => ?_) (fun hc_3 => ?_)
      · have hf := zz_it hf hc_3
        refine lv_iconst (v := (0 : Int32)) hx hb dX0_addIfWanted_32 (by decide) ?_
        exact hJ_6 (0 : Int32) s.heap [] ls hf hP hD hS (lv_sub hl [0, 1] rfl)
      · have hf := zz_if hf hc_3
        refine lv_aload_n hx hb dX0_addIfWanted_19 rfl (lv_at hl 0 rfl) ?_
        refine zget S uw_X0 hE hP 0 6 rfl rfl (by decide) tw_1_156 rfl rfl dX0_addIfWanted_20 ?_
        refine lv_iload_n hx hb dX0_addIfWanted_23 rfl (lv_at hl 2 rfl) ?_
        obtain ⟨hnz_4, hf⟩ := zz_gd_use hf
        refine lv_irem hx hb dX0_addIfWanted_24 (zz_nz_ok hnz_4) ?_
        refine lv_if_ne (tgt := 32) hx hb dX0_addIfWanted_25 (by decide) (fun hc_5 => ?_) (fun hc_5 => ?_)
        · have hf := zz_if hf hc_5
          refine lv_iconst (v := (0 : Int32)) hx hb dX0_addIfWanted_32 (by decide) ?_
          exact hJ_6 (0 : Int32) s.heap [] ls hf hP hD hS (lv_sub hl [0, 1] rfl)
        · have hf := zz_it hf hc_5
          refine lv_iconst (v := (1 : Int32)) hx hb dX0_addIfWanted_28 (by decide) ?_
          refine lv_goto (tgt := 33) hx hb dX0_addIfWanted_29 (by decide) ?_
          exact hJ_6 (1 : Int32) s.heap [] ls hf hP hD hS (lv_sub hl [0, 1] rfl)
def f_X0_join_L9 (N : Nat) (k_2 : (Nat → Int64) → (Int32) → Option ((Nat → Int64) × (Int32))) (self : (Nat → Int64) → (Int32) → (Nat → Int64) → (Nat → Int64) → (Nat → Int32) → (Int32) → (Int32) → (Int32) → (Int64) → (Int32) → (Int32) → Option ((Nat → Int64) × (Int32))) (t_partCodes : Nat → Int64) (t_partShifts : Nat → Int64) (t_partSums : Nat → Int32) (t_partCount : Int32) (t_wantedDay : Int32) (t_divisorsWanted : Int32) (p1 : Int64) (p3 : Int32) (p4 : Int32) : Nat → (Int32) → (Nat → Int64) → (Int32) → Option ((Nat → Int64) × (Int32))
  | 0, _, _, _ => none
  | n_2 + 1, v5_3, t_codes_4, t_size_5 => (if t_partCount ≤ v5_3 then (k_2 t_codes_4 t_size_5) else zz_gd (zz_in v5_3 10) (zz_let (p3 + (t_partSums v5_3.toNatClampNeg)) (fun v6_8 => zz_let (fun (t_codes_16 : Nat → Int64) (t_size_17 : Int32) => zz_let (v5_3 + (1 : Int32)) (fun v5_18 => (f_X0_join_L9 N k_2 self t_partCodes t_partShifts t_partSums t_partCount t_wantedDay t_divisorsWanted p1 p3 p4 n_2 v5_18 t_codes_16 t_size_17))) (fun k_15 => (if t_wantedDay < v6_8 then (k_15 t_codes_4 t_size_5) else zz_let ((p1 * (t_partShifts v5_3.toNatClampNeg)) + (t_partCodes v5_3.toNatClampNeg)) (fun v7_10 => zz_b2 (f_X0_addIfWanted N t_codes_4 t_size_5 t_wantedDay t_divisorsWanted v7_10 v6_8) (fun t_codes_11 t_size_12 => zz_b2 (self t_codes_11 t_size_12 t_partCodes t_partShifts t_partSums t_partCount t_wantedDay t_divisorsWanted v7_10 v6_8 (p4 - (1 : Int32))) (fun t_codes_13 t_size_14 => (k_15 t_codes_13 t_size_14)))))))))
theorem f_X0_join_L9_s (N : Nat) (k_2 : (Nat → Int64) → (Int32) → Option ((Nat → Int64) × (Int32))) (self : (Nat → Int64) → (Int32) → (Nat → Int64) → (Nat → Int64) → (Nat → Int32) → (Int32) → (Int32) → (Int32) → (Int64) → (Int32) → (Int32) → Option ((Nat → Int64) × (Int32))) (t_partCodes : Nat → Int64) (t_partShifts : Nat → Int64) (t_partSums : Nat → Int32) (t_partCount : Int32) (t_wantedDay : Int32) (t_divisorsWanted : Int32) (p1 : Int64) (p3 : Int32) (p4 : Int32) (n_2 : Nat) (v5_3 : Int32) (t_codes_4 : Nat → Int64) (t_size_5 : Int32) : f_X0_join_L9 N k_2 self t_partCodes t_partShifts t_partSums t_partCount t_wantedDay t_divisorsWanted p1 p3 p4 (n_2 + 1) v5_3 t_codes_4 t_size_5 = (if t_partCount ≤ v5_3 then (k_2 t_codes_4 t_size_5) else zz_gd (zz_in v5_3 10) (zz_let (p3 + (t_partSums v5_3.toNatClampNeg)) (fun v6_8 => zz_let (fun (t_codes_16 : Nat → Int64) (t_size_17 : Int32) => zz_let (v5_3 + (1 : Int32)) (fun v5_18 => (f_X0_join_L9 N k_2 self t_partCodes t_partShifts t_partSums t_partCount t_wantedDay t_divisorsWanted p1 p3 p4 n_2 v5_18 t_codes_16 t_size_17))) (fun k_15 => (if t_wantedDay < v6_8 then (k_15 t_codes_4 t_size_5) else zz_let ((p1 * (t_partShifts v5_3.toNatClampNeg)) + (t_partCodes v5_3.toNatClampNeg)) (fun v7_10 => zz_b2 (f_X0_addIfWanted N t_codes_4 t_size_5 t_wantedDay t_divisorsWanted v7_10 v6_8) (fun t_codes_11 t_size_12 => zz_b2 (self t_codes_11 t_size_12 t_partCodes t_partShifts t_partSums t_partCount t_wantedDay t_divisorsWanted v7_10 v6_8 (p4 - (1 : Int32))) (fun t_codes_13 t_size_14 => (k_15 t_codes_13 t_size_14))))))))) := rfl
def f_X0_join (N : Nat) : Nat → (Nat → Int64) → (Int32) → (Nat → Int64) → (Nat → Int64) → (Nat → Int32) → (Int32) → (Int32) → (Int32) → (Int64) → (Int32) → (Int32) → Option ((Nat → Int64) × (Int32))
  | 0, _, _, _, _, _, _, _, _, _, _, _ => none
  | dd + 1, t_codes, t_size, t_partCodes, t_partShifts, t_partSums, t_partCount, t_wantedDay, t_divisorsWanted, p1, p3, p4 => (if p4 = 0 then (some (t_codes, t_size)) else zz_let (fun (t_codes_19 : Nat → Int64) (t_size_20 : Int32) => (some (t_codes_19, t_size_20))) (fun k_2 => f_X0_join_L9 N k_2 (f_X0_join N dd) t_partCodes t_partShifts t_partSums t_partCount t_wantedDay t_divisorsWanted p1 p3 p4 N (0 : Int32) t_codes t_size))
theorem f_X0_join_s (N dd : Nat) (t_codes : Nat → Int64) (t_size : Int32) (t_partCodes : Nat → Int64) (t_partShifts : Nat → Int64) (t_partSums : Nat → Int32) (t_partCount : Int32) (t_wantedDay : Int32) (t_divisorsWanted : Int32) (p1 : Int64) (p3 : Int32) (p4 : Int32) : f_X0_join N (dd + 1) t_codes t_size t_partCodes t_partShifts t_partSums t_partCount t_wantedDay t_divisorsWanted p1 p3 p4 = (if p4 = 0 then (some (t_codes, t_size)) else zz_let (fun (t_codes_19 : Nat → Int64) (t_size_20 : Int32) => (some (t_codes_19, t_size_20))) (fun k_2 => f_X0_join_L9 N k_2 (f_X0_join N dd) t_partCodes t_partShifts t_partSums t_partCount t_wantedDay t_divisorsWanted p1 p3 p4 N (0 : Int32) t_codes t_size)) := rfl
abbrev rm_X0_join (dd : Nat) : Room := { frames := dd + 1, cells := 0, slots := 0, locals := dd * 28 + 24 }
theorem mi_X0_join : zMI RX0 yX0_join cX0_join 9 none 3 := ⟨⟨tw_3_117, ts_X0_join, tw_1_4, tw_3_118⟩, by decide +kernel, by decide +kernel, by decide +kernel⟩
set_option maxHeartbeats 4000000 in
set_option maxRecDepth 100000 in
theorem k_X0_join (l : Launch) (D : va_G) (c : Nat → ClassId) (N : Nat) : ∀ (dd : Nat) (t0 : Nat) (tA_codes : Nat) (tA_partCodes : Nat) (tA_partShifts : Nat) (tA_partSums : Nat) (t_codes : Nat → Int64) (t_size : Int32) (t_partCodes : Nat → Int64) (t_partShifts : Nat → Int64) (t_partSums : Nat → Int32) (t_partCount : Int32) (t_wantedDay : Int32) (t_divisorsWanted : Int32) (p1 : Int64) (p3 : Int32) (p4 : Int32) (o_t_codes : Nat → Int64) (o_t_size : Int32) (hf : f_X0_join N dd t_codes t_size t_partCodes t_partShifts t_partSums t_partCount t_wantedDay t_divisorsWanted p1 p3 p4 = some (o_t_codes, o_t_size)), zMWv l D c yX0_join cX0_join 9 none (rm_X0_join dd) (wX0 c t0 tA_codes tA_partCodes tA_partShifts tA_partSums t_codes t_size t_partCodes t_partShifts t_partSums t_partCount t_wantedDay t_divisorsWanted) (wX0 c t0 tA_codes tA_partCodes tA_partShifts tA_partSums o_t_codes o_t_size t_partCodes t_partShifts t_partSums t_partCount t_wantedDay t_divisorsWanted) [.ref t0, .long p1, .int p3, .int p4] := by
  intro dd
  induction dd with
  | zero => intro t0 tA_codes tA_partCodes tA_partShifts tA_partSums t_codes t_size t_partCodes t_partShifts t_partSums t_partCount t_wantedDay t_divisorsWanted p1 p3 p4 o_t_codes o_t_size hf; exact zz_none hf
  | succ dd ihd =>
    intro t0 tA_codes tA_partCodes tA_partShifts tA_partSums t_codes t_size t_partCodes t_partShifts t_partSums t_partCount t_wantedDay t_divisorsWanted p1 p3 p4 o_t_codes o_t_size hf
    intro sz
    refine zIW (by decide) (Nat.le_of_ble_eq_true rfl) ?_
    intro p e s m args below meth c0 Q A hAe hQ hx hb hr hlk hml hts hown hP hE hD hS hA hsz hmn hX ls hl
    rw [← hAe] at hQ
    have S : CallFix p m c0 cX0_join 9 s args zT RX0 := ⟨hx, hb, hml, hown, hts⟩
    have hl : lv_has ls 9 [(0, .ref t0), (1, .long p1), (3, .int p3), (4, .int p4)] := hl
    rw [f_X0_join_s] at hf
    refine lv_iload hx hb dX0_join_0 (lv_at hl 3 rfl) ?_
    refine lv_if_ne (tgt := 6) hx hb dX0_join_2 (by decide) (fun hc_1 => ?_) (fun hc_1 => ?_)
    · have hf := zz_if hf hc_1
      refine lv_iconst (v := (0 : Int32)) hx hb dX0_join_6 (by decide) ?_
      refine lv_istore (lv' := [(5, .int (0 : Int32)), (0, .ref t0), (1, .long p1), (3, .int p3), (4, .int p4)]) hx hb dX0_join_7 hl (by decide) rfl (fun ls hl => ?_)
      obtain ⟨k_2, hk_2, hf⟩ := zz_let_use hf
      have hX_2 : ∀ (t_codes_19 : Nat → Int64) (t_size_20 : Int32) (H : Heap) (locs : List Loc) (ls : Array Slot), k_2 t_codes_19 t_size_20 = some (o_t_codes, o_t_size) → va_P D vwCl (wX0 c t0 tA_codes tA_partCodes tA_partShifts tA_partSums t_codes_19 t_size_20 t_partCodes t_partShifts t_partSums t_partCount t_wantedDay t_divisorsWanted) H → va_D A (wX0 c t0 tA_codes tA_partCodes tA_partShifts tA_partSums t_codes_19 t_size_20 t_partCodes t_partShifts t_partSums t_partCount t_wantedDay t_divisorsWanted) → va_S A s.heap H locs → lv_has ls 9 [] → W p l e (rm_X0_join (dd + 1)) s m args below meth c0 H locs 0 0 Q (F0 m 83 ls []) := by
        intro t_codes_19 t_size_20 H locs ls hf hP hD hS hl
        subst hk_2
        cases hf
        exact zRWv hQ hx hb hr hlk hP hD hS dX0_join_83
      have hL_2 : ∀ (n_2 : Nat) (v5_3 : Int32) (t_codes_4 : Nat → Int64) (t_size_5 : Int32) (H : Heap) (locs : List Loc) (ls : Array Slot), f_X0_join_L9 N k_2 (f_X0_join N dd) t_partCodes t_partShifts t_partSums t_partCount t_wantedDay t_divisorsWanted p1 p3 p4 n_2 v5_3 t_codes_4 t_size_5 = some (o_t_codes, o_t_size) → va_P D vwCl (wX0 c t0 tA_codes tA_partCodes tA_partShifts tA_partSums t_codes_4 t_size_5 t_partCodes t_partShifts t_partSums t_partCount t_wantedDay t_divisorsWanted) H → va_D A (wX0 c t0 tA_codes tA_partCodes tA_partShifts tA_partSums t_codes_4 t_size_5 t_partCodes t_partShifts t_partSums t_partCount t_wantedDay t_divisorsWanted) → va_S A s.heap H locs → lv_has ls 9 [(0, .ref t0), (1, .long p1), (3, .int p3), (4, .int p4), (5, .int v5_3)] → W p l e (rm_X0_join (dd + 1)) s m args below meth c0 H locs 0 0 Q (F0 m 9 ls []) := by
        intro n_2
        induction n_2 with
        | zero => intro v5_3 t_codes_4 t_size_5 H locs ls hf hP hD hS hl; exact zz_none hf
        | succ n_2 ih_2 =>
          intro v5_3 t_codes_4 t_size_5 H locs ls hf hP hD hS hl
          rw [f_X0_join_L9_s] at hf
          refine lv_iload hx hb dX0_join_9 (lv_at hl 4 rfl) ?_
          refine lv_aload_n hx hb dX0_join_11 rfl (lv_at hl 0 rfl) ?_
          refine zget S uw_X0 hE hP 0 5 rfl rfl (by decide) tw_1_155 rfl rfl dX0_join_12 ?_
          refine lv_icmp_ge (tgt := 83) hx hb dX0_join_15 (by decide) (fun hc_6 => ?_) (fun hc_6 => ?_)
          · have hf := zz_it hf hc_6
            exact hX_2 t_codes_4 t_size_5 H locs ls hf hP hD hS (lv_sub hl [] rfl)
          · have hf := zz_if hf hc_6
            refine lv_iload_n hx hb dX0_join_18 rfl (lv_at hl 2 rfl) ?_
            refine lv_aload_n hx hb dX0_join_19 rfl (lv_at hl 0 rfl) ?_
            refine zget S uw_X0 hE hP 0 4 rfl rfl (by decide) tw_1_154 rfl rfl dX0_join_20 ?_
            refine lv_iload hx hb dX0_join_23 (lv_at hl 4 rfl) ?_
            obtain ⟨hin_7, hf⟩ := zz_gd_use hf
            refine zild hx hb hE hP 4 rfl (zz_in_ok hin_7) dX0_join_25 ?_
            refine lv_iadd hx hb dX0_join_26 ?_
            obtain ⟨v6_8, ev6_8, hf⟩ := zz_let_use hf
            refine zti ev6_8 ?_
            refine lv_istore (lv' := [(6, .int v6_8), (0, .ref t0), (1, .long p1), (3, .int p3), (4, .int p4), (5, .int v5_3)]) hx hb dX0_join_27 hl (by decide) rfl (fun ls hl => ?_)
            refine lv_iload hx hb dX0_join_29 (lv_at hl 0 rfl) ?_
            refine lv_aload_n hx hb dX0_join_31 rfl (lv_at hl 1 rfl) ?_
            refine zget S uw_X0 hE hP 0 6 rfl rfl (by decide) tw_1_156 rfl rfl dX0_join_32 ?_
            obtain ⟨k_15, hk_15, hf⟩ := zz_let_use hf
            have hJ_15 : ∀ (t_codes_16 : Nat → Int64) (t_size_17 : Int32) (H : Heap) (locs : List Loc) (ls : Array Slot), k_15 t_codes_16 t_size_17 = some (o_t_codes, o_t_size) → va_P D vwCl (wX0 c t0 tA_codes tA_partCodes tA_partShifts tA_partSums t_codes_16 t_size_17 t_partCodes t_partShifts t_partSums t_partCount t_wantedDay t_divisorsWanted) H → va_D A (wX0 c t0 tA_codes tA_partCodes tA_partShifts tA_partSums t_codes_16 t_size_17 t_partCodes t_partShifts t_partSums t_partCount t_wantedDay t_divisorsWanted) → va_S A s.heap H locs → lv_has ls 9 [(0, .ref t0), (1, .long p1), (3, .int p3), (4, .int p4), (5, .int v5_3)] → W p l e (rm_X0_join (dd + 1)) s m args below meth c0 H locs 0 0 Q (F0 m 77 ls []) := by
              intro t_codes_16 t_size_17 H locs ls hf hP hD hS hl
              subst hk_15
              obtain ⟨v5_18, ev5_18, hf⟩ := zz_let_use hf
              refine lv_iinc (v := v5_18) (lv' := [(5, .int v5_18), (0, .ref t0), (1, .long p1), (3, .int p3), (4, .int p4)]) hx hb dX0_join_77 hl (k := 4) rfl (by rw [← ev5_18]; rfl) (by decide) rfl (fun ls hl => ?_)
              refine lv_goto (tgt := 9) hx hb dX0_join_80 (by decide) ?_
              exact ih_2 v5_18 t_codes_16 t_size_17 H locs ls hf hP hD hS (lv_sub hl [1, 2, 3, 4, 0] rfl)
            refine lv_icmp_gt (tgt := 77) hx hb dX0_join_35 (by decide) (fun hc_9 => ?_) (fun hc_9 => ?_)
            · have hf := zz_it hf hc_9
              exact hJ_15 t_codes_4 t_size_5 H locs ls hf hP hD hS (lv_sub hl [1, 2, 3, 4, 5] rfl)
            · have hf := zz_if hf hc_9
              refine lv_lload_n hx hb dX0_join_38 rfl (lv_at hl 2 rfl) ?_
              refine lv_aload_n hx hb dX0_join_39 rfl (lv_at hl 1 rfl) ?_
              refine zget S uw_X0 hE hP 0 3 rfl rfl (by decide) tw_1_153 rfl rfl dX0_join_40 ?_
              refine lv_iload hx hb dX0_join_43 (lv_at hl 5 rfl) ?_
              refine zlld hx hb hE hP 3 rfl (zz_in_ok hin_7) dX0_join_45 ?_
              refine lv_lmul hx hb dX0_join_46 ?_
              refine lv_aload_n hx hb dX0_join_47 rfl (lv_at hl 1 rfl) ?_
              refine zget S uw_X0 hE hP 0 2 rfl rfl (by decide) tw_1_152 rfl rfl dX0_join_48 ?_
              refine lv_iload hx hb dX0_join_51 (lv_at hl 5 rfl) ?_
              refine zlld hx hb hE hP 2 rfl (zz_in_ok hin_7) dX0_join_53 ?_
              refine lv_ladd hx hb dX0_join_54 ?_
              obtain ⟨v7_10, ev7_10, hf⟩ := zz_let_use hf
              refine ztl ev7_10 ?_
              refine lv_lstore (lv' := [(7, .long v7_10), (6, .int v6_8), (0, .ref t0), (1, .long p1), (3, .int p3), (4, .int p4), (5, .int v5_3)]) hx hb dX0_join_55 hl (by decide) rfl (fun ls hl => ?_)
              refine lv_aload_n hx hb dX0_join_57 rfl (lv_at hl 2 rfl) ?_
              refine lv_lload hx hb dX0_join_58 (lv_at hl 0 rfl) ?_
              refine lv_iload hx hb dX0_join_60 (lv_at hl 1 rfl) ?_
              obtain ⟨t_codes_11, t_size_12, he_12, hf⟩ := zz_b2_use hf
              refine zwVv (As := [.long v7_10, .int v6_8]) (rest := []) (wr := []) (wX0 c t0 tA_codes tA_partCodes tA_partShifts tA_partSums t_codes_11 t_size_12 t_partCodes t_partShifts t_partSums t_partCount t_wantedDay t_divisorsWanted) [0, 1, 2, 3, 4] [] [0, 1, 2, 3, 4] S (k_X0_addIfWanted l D c N t0 tA_codes tA_partCodes tA_partShifts tA_partSums t_codes_4 t_size_5 t_partCodes t_partShifts t_partSums t_partCount t_wantedDay t_divisorsWanted v7_10 v6_8 t_codes_11 t_size_12 he_12) mi_X0_addIfWanted tw_3_119 ⟨by show 0 + 1 ≤ (dd + 1) + 1; omega, by show 8 + (5 + 11) + 0 ≤ (dd + 1) * 28 + 24; omega⟩ ⟨rfl, rfl⟩ hP hD hS hA rfl rfl rfl rfl (by decide) rfl rfl hE hX (ci := 0) rfl rfl (q0 := 0) rfl rfl hl.1 rfl (Nat.le_of_ble_eq_true rfl) dX0_join_62 ⟨(Nat.le_of_ble_eq_true rfl), (Nat.le_of_ble_eq_true rfl)⟩ (fun H locs hP hD hS => ?_)
              refine lv_aload_n hx hb dX0_join_65 rfl (lv_at hl 2 rfl) ?_
              refine lv_lload hx hb dX0_join_66 (lv_at hl 0 rfl) ?_
              refine lv_iload hx hb dX0_join_68 (lv_at hl 1 rfl) ?_
              refine lv_iload hx hb dX0_join_70 (lv_at hl 5 rfl) ?_
              refine lv_iconst (v := (1 : Int32)) hx hb dX0_join_72 (by decide) ?_
              refine lv_isub hx hb dX0_join_73 ?_
              obtain ⟨t_codes_13, t_size_14, he_14, hf⟩ := zz_b2_use hf
              refine zwVv (As := [.long v7_10, .int v6_8, .int (p4 - (1 : Int32))]) (rest := []) (wr := []) (wX0 c t0 tA_codes tA_partCodes tA_partShifts tA_partSums t_codes_13 t_size_14 t_partCodes t_partShifts t_partSums t_partCount t_wantedDay t_divisorsWanted) [0, 1, 2, 3, 4] [] [0, 1, 2, 3, 4] S (ihd t0 tA_codes tA_partCodes tA_partShifts tA_partSums t_codes_11 t_size_12 t_partCodes t_partShifts t_partSums t_partCount t_wantedDay t_divisorsWanted v7_10 v6_8 (p4 - (1 : Int32)) t_codes_13 t_size_14 he_14) mi_X0_join tw_3_115 ⟨by show (dd + 1) + 1 ≤ (dd + 1) + 1; omega, by show 8 + (9 + 11) + (dd * 28 + 24) ≤ (dd + 1) * 28 + 24; omega⟩ ⟨rfl, rfl⟩ hP hD hS hA rfl rfl rfl rfl (by decide) rfl rfl hE hX (ci := 0) rfl rfl (q0 := 0) rfl rfl hl.1 rfl (Nat.le_of_ble_eq_true rfl) dX0_join_74 ⟨(Nat.le_of_ble_eq_true rfl), (Nat.le_of_ble_eq_true rfl)⟩ (fun H locs hP hD hS => ?_)
              exact hJ_15 t_codes_13 t_size_14 H locs ls hf hP hD hS (lv_sub hl [2, 3, 4, 5, 6] rfl)
      exact hL_2 N (0 : Int32) t_codes t_size s.heap [] ls hf hP hD hS (lv_sub hl [1, 2, 3, 4, 0] rfl)
    · have hf := zz_it hf hc_1
      cases hf
      exact zRWv hQ hx hb hr hlk hP hD hS dX0_join_5
def f_X0_sort_L45 (N : Nat) (k_13 : (Int32) → (Nat → Int64) → Option ((Nat → Int64))) (v4_6 : Int32) (v6_12 : Int64) : Nat → (Int32) → (Nat → Int64) → Option ((Nat → Int64))
  | 0, _, _ => none
  | n_13 + 1, v8_14, t_codes_15 => (if v8_14 < v4_6 then (k_13 v8_14 t_codes_15) else zz_gd (zz_in (v8_14 - v4_6) 1110) ((if (t_codes_15 (v8_14 - v4_6).toNatClampNeg) ≤ v6_12 then (k_13 v8_14 t_codes_15) else zz_gd (zz_in v8_14 1110) (zz_let (vp_updL t_codes_15 v8_14.toNatClampNeg (t_codes_15 (v8_14 - v4_6).toNatClampNeg)) (fun t_codes_20 => zz_let (v8_14 - v4_6) (fun v8_21 => (f_X0_sort_L45 N k_13 v4_6 v6_12 n_13 v8_21 t_codes_20)))))))
theorem f_X0_sort_L45_s (N : Nat) (k_13 : (Int32) → (Nat → Int64) → Option ((Nat → Int64))) (v4_6 : Int32) (v6_12 : Int64) (n_13 : Nat) (v8_14 : Int32) (t_codes_15 : Nat → Int64) : f_X0_sort_L45 N k_13 v4_6 v6_12 (n_13 + 1) v8_14 t_codes_15 = (if v8_14 < v4_6 then (k_13 v8_14 t_codes_15) else zz_gd (zz_in (v8_14 - v4_6) 1110) ((if (t_codes_15 (v8_14 - v4_6).toNatClampNeg) ≤ v6_12 then (k_13 v8_14 t_codes_15) else zz_gd (zz_in v8_14 1110) (zz_let (vp_updL t_codes_15 v8_14.toNatClampNeg (t_codes_15 (v8_14 - v4_6).toNatClampNeg)) (fun t_codes_20 => zz_let (v8_14 - v4_6) (fun v8_21 => (f_X0_sort_L45 N k_13 v4_6 v6_12 n_13 v8_21 t_codes_20))))))) := rfl
def f_X0_sort_L23 (N : Nat) (k_7 : (Nat → Int64) → Option ((Nat → Int64))) (t_size : Int32) (v4_6 : Int32) : Nat → (Int32) → (Nat → Int64) → Option ((Nat → Int64))
  | 0, _, _ => none
  | n_7 + 1, v5_8, t_codes_9 => (if t_size ≤ v5_8 then (k_7 t_codes_9) else zz_gd (zz_in v5_8 1110) (zz_let (t_codes_9 v5_8.toNatClampNeg) (fun v6_12 => zz_let (fun (v8_22 : Int32) (t_codes_23 : Nat → Int64) => zz_gd (zz_in v8_22 1110) (zz_let (vp_updL t_codes_23 v8_22.toNatClampNeg v6_12) (fun t_codes_25 => zz_let (v5_8 + (1 : Int32)) (fun v5_26 => (f_X0_sort_L23 N k_7 t_size v4_6 n_7 v5_26 t_codes_25))))) (fun k_13 => f_X0_sort_L45 N k_13 v4_6 v6_12 N v5_8 t_codes_9))))
theorem f_X0_sort_L23_s (N : Nat) (k_7 : (Nat → Int64) → Option ((Nat → Int64))) (t_size : Int32) (v4_6 : Int32) (n_7 : Nat) (v5_8 : Int32) (t_codes_9 : Nat → Int64) : f_X0_sort_L23 N k_7 t_size v4_6 (n_7 + 1) v5_8 t_codes_9 = (if t_size ≤ v5_8 then (k_7 t_codes_9) else zz_gd (zz_in v5_8 1110) (zz_let (t_codes_9 v5_8.toNatClampNeg) (fun v6_12 => zz_let (fun (v8_22 : Int32) (t_codes_23 : Nat → Int64) => zz_gd (zz_in v8_22 1110) (zz_let (vp_updL t_codes_23 v8_22.toNatClampNeg v6_12) (fun t_codes_25 => zz_let (v5_8 + (1 : Int32)) (fun v5_26 => (f_X0_sort_L23 N k_7 t_size v4_6 n_7 v5_26 t_codes_25))))) (fun k_13 => f_X0_sort_L45 N k_13 v4_6 v6_12 N v5_8 t_codes_9)))) := rfl
def f_X0_sort_L9 (N : Nat) (k_1 : (Nat → Int64) → Option ((Nat → Int64))) (t_size : Int32) : Nat → (Int32) → (Nat → Int64) → Option ((Nat → Int64))
  | 0, _, _ => none
  | n_1 + 1, v3_2, t_codes_3 => (if (8 : Int32) ≤ v3_2 then (k_1 t_codes_3) else zz_gd (zz_in v3_2 8) (zz_let (zGap.getD v3_2.toNatClampNeg 0) (fun v4_6 => zz_let (fun (t_codes_27 : Nat → Int64) => zz_let (v3_2 + (1 : Int32)) (fun v3_28 => (f_X0_sort_L9 N k_1 t_size n_1 v3_28 t_codes_27))) (fun k_7 => f_X0_sort_L23 N k_7 t_size v4_6 N v4_6 t_codes_3))))
theorem f_X0_sort_L9_s (N : Nat) (k_1 : (Nat → Int64) → Option ((Nat → Int64))) (t_size : Int32) (n_1 : Nat) (v3_2 : Int32) (t_codes_3 : Nat → Int64) : f_X0_sort_L9 N k_1 t_size (n_1 + 1) v3_2 t_codes_3 = (if (8 : Int32) ≤ v3_2 then (k_1 t_codes_3) else zz_gd (zz_in v3_2 8) (zz_let (zGap.getD v3_2.toNatClampNeg 0) (fun v4_6 => zz_let (fun (t_codes_27 : Nat → Int64) => zz_let (v3_2 + (1 : Int32)) (fun v3_28 => (f_X0_sort_L9 N k_1 t_size n_1 v3_28 t_codes_27))) (fun k_7 => f_X0_sort_L23 N k_7 t_size v4_6 N v4_6 t_codes_3)))) := rfl
def f_X0_sort (N : Nat) (t_codes : Nat → Int64) (t_size : Int32) : Option ((Nat → Int64)) := zz_let (fun (t_codes_29 : Nat → Int64) => (some t_codes_29)) (fun k_1 => f_X0_sort_L9 N k_1 t_size N (0 : Int32) t_codes)
abbrev rm_X0_sort : Room := { frames := 0, cells := 0, slots := 0, locals := 0 }
theorem mi_X0_sort : zMI RX0 yX0_sort cX0_sort 9 none 0 := ⟨⟨tw_3_125, ts_X0_sort, tw_1_4, tw_3_126⟩, by decide +kernel, by decide +kernel, by decide +kernel⟩
set_option maxHeartbeats 4000000 in
set_option maxRecDepth 100000 in
theorem k_X0_sort (l : Launch) (D : va_G) (c : Nat → ClassId) (N : Nat) (t0 : Nat) (tA_codes : Nat) (tA_partCodes : Nat) (tA_partShifts : Nat) (tA_partSums : Nat) (t_codes : Nat → Int64) (t_size : Int32) (t_partCodes : Nat → Int64) (t_partShifts : Nat → Int64) (t_partSums : Nat → Int32) (t_partCount : Int32) (t_wantedDay : Int32) (t_divisorsWanted : Int32)  (o_t_codes : Nat → Int64) (hf : f_X0_sort N t_codes t_size = some o_t_codes) : zMWv l D c yX0_sort cX0_sort 9 none rm_X0_sort (wX0 c t0 tA_codes tA_partCodes tA_partShifts tA_partSums t_codes t_size t_partCodes t_partShifts t_partSums t_partCount t_wantedDay t_divisorsWanted) (wX0 c t0 tA_codes tA_partCodes tA_partShifts tA_partSums o_t_codes t_size t_partCodes t_partShifts t_partSums t_partCount t_wantedDay t_divisorsWanted) [.ref t0] := by
  intro sz
  refine zIW (by decide) (Nat.le_of_ble_eq_true rfl) ?_
  intro p e s m args below meth c0 Q A hAe hQ hx hb hr hlk hml hts hown hP hE hD hS hA hsz hmn hX ls hl
  rw [← hAe] at hQ
  have S : CallFix p m c0 cX0_sort 9 s args zT RX0 := ⟨hx, hb, hml, hown, hts⟩
  have hl : lv_has ls 9 [(0, .ref t0)] := hl
  unfold f_X0_sort at hf
  refine va_gets hx hb hX.1.1 hS hown (hts _ tw_3_127) (fun _ h => h) dX0_sort_0 ?_
  refine lv_astore_n (lv' := [(1, .ref (c 100)), (0, .ref t0)]) hx hb dX0_sort_3 rfl hl (by decide) rfl (fun ls hl => ?_)
  refine lv_aload_n hx hb dX0_sort_4 rfl (lv_at hl 0 rfl) ?_
  refine va_tlen (v := (8 : Int32)) hx hb hX.1.2 hS rfl dX0_sort_5 ?_
  refine lv_istore_n (lv' := [(2, .int (8 : Int32)), (1, .ref (c 100)), (0, .ref t0)]) hx hb dX0_sort_6 rfl hl (by decide) rfl (fun ls hl => ?_)
  refine lv_iconst (v := (0 : Int32)) hx hb dX0_sort_7 (by decide) ?_
  refine lv_istore_n (lv' := [(3, .int (0 : Int32)), (2, .int (8 : Int32)), (1, .ref (c 100)), (0, .ref t0)]) hx hb dX0_sort_8 rfl hl (by decide) rfl (fun ls hl => ?_)
  obtain ⟨k_1, hk_1, hf⟩ := zz_let_use hf
  have hX_1 : ∀ (t_codes_29 : Nat → Int64) (H : Heap) (locs : List Loc) (ls : Array Slot), k_1 t_codes_29 = some o_t_codes → va_P D vwCl (wX0 c t0 tA_codes tA_partCodes tA_partShifts tA_partSums t_codes_29 t_size t_partCodes t_partShifts t_partSums t_partCount t_wantedDay t_divisorsWanted) H → va_D A (wX0 c t0 tA_codes tA_partCodes tA_partShifts tA_partSums t_codes_29 t_size t_partCodes t_partShifts t_partSums t_partCount t_wantedDay t_divisorsWanted) → va_S A s.heap H locs → lv_has ls 9 [] → W p l e rm_X0_sort s m args below meth c0 H locs 0 0 Q (F0 m 116 ls []) := by
    intro t_codes_29 H locs ls hf hP hD hS hl
    subst hk_1
    cases hf
    exact zRWv hQ hx hb hr hlk hP hD hS dX0_sort_116
  have hL_1 : ∀ (n_1 : Nat) (v3_2 : Int32) (t_codes_3 : Nat → Int64) (H : Heap) (locs : List Loc) (ls : Array Slot), f_X0_sort_L9 N k_1 t_size n_1 v3_2 t_codes_3 = some o_t_codes → va_P D vwCl (wX0 c t0 tA_codes tA_partCodes tA_partShifts tA_partSums t_codes_3 t_size t_partCodes t_partShifts t_partSums t_partCount t_wantedDay t_divisorsWanted) H → va_D A (wX0 c t0 tA_codes tA_partCodes tA_partShifts tA_partSums t_codes_3 t_size t_partCodes t_partShifts t_partSums t_partCount t_wantedDay t_divisorsWanted) → va_S A s.heap H locs → lv_has ls 9 [(0, .ref t0), (1, .ref (c 100)), (2, .int (8 : Int32)), (3, .int v3_2)] → W p l e rm_X0_sort s m args below meth c0 H locs 0 0 Q (F0 m 9 ls []) := by
    intro n_1
    induction n_1 with
    | zero => intro v3_2 t_codes_3 H locs ls hf hP hD hS hl; exact zz_none hf
    | succ n_1 ih_1 =>
      intro v3_2 t_codes_3 H locs ls hf hP hD hS hl
      rw [f_X0_sort_L9_s] at hf
      refine lv_iload_n hx hb dX0_sort_9 rfl (lv_at hl 3 rfl) ?_
      refine lv_iload_n hx hb dX0_sort_10 rfl (lv_at hl 2 rfl) ?_
      refine lv_icmp_ge (tgt := 116) hx hb dX0_sort_11 (by decide) (fun hc_4 => ?_) (fun hc_4 => ?_)
      · have hf := zz_it hf hc_4
        exact hX_1 t_codes_3 H locs ls hf hP hD hS (lv_sub hl [] rfl)
      · have hf := zz_if hf hc_4
        refine lv_aload_n hx hb dX0_sort_14 rfl (lv_at hl 1 rfl) ?_
        refine lv_iload_n hx hb dX0_sort_15 rfl (lv_at hl 3 rfl) ?_
        obtain ⟨hin_5, hf⟩ := zz_gd_use hf
        refine va_ti hx hb hX.1.2 hS (zz_in_ok hin_5) rfl dX0_sort_16 ?_
        obtain ⟨v4_6, ev4_6, hf⟩ := zz_let_use hf
        refine zti ev4_6 ?_
        refine lv_istore (lv' := [(4, .int v4_6), (0, .ref t0), (1, .ref (c 100)), (2, .int (8 : Int32)), (3, .int v3_2)]) hx hb dX0_sort_17 hl (by decide) rfl (fun ls hl => ?_)
        refine lv_iload hx hb dX0_sort_19 (lv_at hl 0 rfl) ?_
        refine lv_istore (lv' := [(5, .int v4_6), (4, .int v4_6), (0, .ref t0), (1, .ref (c 100)), (2, .int (8 : Int32)), (3, .int v3_2)]) hx hb dX0_sort_21 hl (by decide) rfl (fun ls hl => ?_)
        obtain ⟨k_7, hk_7, hf⟩ := zz_let_use hf
        have hX_7 : ∀ (t_codes_27 : Nat → Int64) (H : Heap) (locs : List Loc) (ls : Array Slot), k_7 t_codes_27 = some o_t_codes → va_P D vwCl (wX0 c t0 tA_codes tA_partCodes tA_partShifts tA_partSums t_codes_27 t_size t_partCodes t_partShifts t_partSums t_partCount t_wantedDay t_divisorsWanted) H → va_D A (wX0 c t0 tA_codes tA_partCodes tA_partShifts tA_partSums t_codes_27 t_size t_partCodes t_partShifts t_partSums t_partCount t_wantedDay t_divisorsWanted) → va_S A s.heap H locs → lv_has ls 9 [(0, .ref t0), (1, .ref (c 100)), (2, .int (8 : Int32)), (3, .int v3_2)] → W p l e rm_X0_sort s m args below meth c0 H locs 0 0 Q (F0 m 110 ls []) := by
          intro t_codes_27 H locs ls hf hP hD hS hl
          subst hk_7
          obtain ⟨v3_28, ev3_28, hf⟩ := zz_let_use hf
          refine lv_iinc (v := v3_28) (lv' := [(3, .int v3_28), (0, .ref t0), (1, .ref (c 100)), (2, .int (8 : Int32))]) hx hb dX0_sort_110 hl (k := 3) rfl (by rw [← ev3_28]; rfl) (by decide) rfl (fun ls hl => ?_)
          refine lv_goto (tgt := 9) hx hb dX0_sort_113 (by decide) ?_
          exact ih_1 v3_28 t_codes_27 H locs ls hf hP hD hS (lv_sub hl [1, 2, 3, 0] rfl)
        have hL_7 : ∀ (n_7 : Nat) (v5_8 : Int32) (t_codes_9 : Nat → Int64) (H : Heap) (locs : List Loc) (ls : Array Slot), f_X0_sort_L23 N k_7 t_size v4_6 n_7 v5_8 t_codes_9 = some o_t_codes → va_P D vwCl (wX0 c t0 tA_codes tA_partCodes tA_partShifts tA_partSums t_codes_9 t_size t_partCodes t_partShifts t_partSums t_partCount t_wantedDay t_divisorsWanted) H → va_D A (wX0 c t0 tA_codes tA_partCodes tA_partShifts tA_partSums t_codes_9 t_size t_partCodes t_partShifts t_partSums t_partCount t_wantedDay t_divisorsWanted) → va_S A s.heap H locs → lv_has ls 9 [(0, .ref t0), (1, .ref (c 100)), (2, .int (8 : Int32)), (3, .int v3_2), (4, .int v4_6), (5, .int v5_8)] → W p l e rm_X0_sort s m args below meth c0 H locs 0 0 Q (F0 m 23 ls []) := by
          intro n_7
          induction n_7 with
          | zero => intro v5_8 t_codes_9 H locs ls hf hP hD hS hl; exact zz_none hf
          | succ n_7 ih_7 =>
            intro v5_8 t_codes_9 H locs ls hf hP hD hS hl
            rw [f_X0_sort_L23_s] at hf
            refine lv_iload hx hb dX0_sort_23 (lv_at hl 5 rfl) ?_
            refine lv_aload_n hx hb dX0_sort_25 rfl (lv_at hl 0 rfl) ?_
            refine zget S uw_X0 hE hP 0 1 rfl rfl (by decide) tw_1_150 rfl rfl dX0_sort_26 ?_
            refine lv_icmp_ge (tgt := 110) hx hb dX0_sort_29 (by decide) (fun hc_10 => ?_) (fun hc_10 => ?_)
            · have hf := zz_it hf hc_10
              exact hX_7 t_codes_9 H locs ls hf hP hD hS (lv_sub hl [0, 1, 2, 3] rfl)
            · have hf := zz_if hf hc_10
              refine lv_aload_n hx hb dX0_sort_32 rfl (lv_at hl 0 rfl) ?_
              refine zget S uw_X0 hE hP 0 0 rfl rfl (by decide) tw_1_148 rfl rfl dX0_sort_33 ?_
              refine lv_iload hx hb dX0_sort_36 (lv_at hl 5 rfl) ?_
              obtain ⟨hin_11, hf⟩ := zz_gd_use hf
              refine zlld hx hb hE hP 1 rfl (zz_in_ok hin_11) dX0_sort_38 ?_
              obtain ⟨v6_12, ev6_12, hf⟩ := zz_let_use hf
              refine ztl ev6_12 ?_
              refine lv_lstore (lv' := [(6, .long v6_12), (0, .ref t0), (1, .ref (c 100)), (2, .int (8 : Int32)), (3, .int v3_2), (4, .int v4_6), (5, .int v5_8)]) hx hb dX0_sort_39 hl (by decide) rfl (fun ls hl => ?_)
              refine lv_iload hx hb dX0_sort_41 (lv_at hl 6 rfl) ?_
              refine lv_istore (lv' := [(8, .int v5_8), (6, .long v6_12), (0, .ref t0), (1, .ref (c 100)), (2, .int (8 : Int32)), (3, .int v3_2), (4, .int v4_6), (5, .int v5_8)]) hx hb dX0_sort_43 hl (by decide) rfl (fun ls hl => ?_)
              obtain ⟨k_13, hk_13, hf⟩ := zz_let_use hf
              have hX_13 : ∀ (v8_22 : Int32) (t_codes_23 : Nat → Int64) (H : Heap) (locs : List Loc) (ls : Array Slot), k_13 v8_22 t_codes_23 = some o_t_codes → va_P D vwCl (wX0 c t0 tA_codes tA_partCodes tA_partShifts tA_partSums t_codes_23 t_size t_partCodes t_partShifts t_partSums t_partCount t_wantedDay t_divisorsWanted) H → va_D A (wX0 c t0 tA_codes tA_partCodes tA_partShifts tA_partSums t_codes_23 t_size t_partCodes t_partShifts t_partSums t_partCount t_wantedDay t_divisorsWanted) → va_S A s.heap H locs → lv_has ls 9 [(0, .ref t0), (1, .ref (c 100)), (2, .int (8 : Int32)), (3, .int v3_2), (4, .int v4_6), (5, .int v5_8), (6, .long v6_12), (8, .int v8_22)] → W p l e rm_X0_sort s m args below meth c0 H locs 0 0 Q (F0 m 95 ls []) := by
                intro v8_22 t_codes_23 H locs ls hf hP hD hS hl
                subst hk_13
                refine lv_aload_n hx hb dX0_sort_95 rfl (lv_at hl 0 rfl) ?_
                refine zget S uw_X0 hE hP 0 0 rfl rfl (by decide) tw_1_148 rfl rfl dX0_sort_96 ?_
                refine lv_iload hx hb dX0_sort_99 (lv_at hl 7 rfl) ?_
                refine lv_lload hx hb dX0_sort_101 (lv_at hl 6 rfl) ?_
                obtain ⟨hin_24, hf⟩ := zz_gd_use hf
                obtain ⟨t_codes_25, et_codes_25, hf⟩ := zz_let_use hf
                refine zlst hx hb hE hP hD hS 1 (wX0 c t0 tA_codes tA_partCodes tA_partShifts tA_partSums t_codes_25 t_size t_partCodes t_partShifts t_partSums t_partCount t_wantedDay t_divisorsWanted) rfl rfl et_codes_25 (zz_in_ok hin_24) dX0_sort_103 (fun H locs hP hD hS => ?_)
                obtain ⟨v5_26, ev5_26, hf⟩ := zz_let_use hf
                refine lv_iinc (v := v5_26) (lv' := [(5, .int v5_26), (0, .ref t0), (1, .ref (c 100)), (2, .int (8 : Int32)), (3, .int v3_2), (4, .int v4_6), (6, .long v6_12), (8, .int v8_22)]) hx hb dX0_sort_104 hl (k := 5) rfl (by rw [← ev5_26]; rfl) (by decide) rfl (fun ls hl => ?_)
                refine lv_goto (tgt := 23) hx hb dX0_sort_107 (by decide) ?_
                exact ih_7 v5_26 t_codes_25 H locs ls hf hP hD hS (lv_sub hl [1, 2, 3, 4, 5, 0] rfl)
              have hL_13 : ∀ (n_13 : Nat) (v8_14 : Int32) (t_codes_15 : Nat → Int64) (H : Heap) (locs : List Loc) (ls : Array Slot), f_X0_sort_L45 N k_13 v4_6 v6_12 n_13 v8_14 t_codes_15 = some o_t_codes → va_P D vwCl (wX0 c t0 tA_codes tA_partCodes tA_partShifts tA_partSums t_codes_15 t_size t_partCodes t_partShifts t_partSums t_partCount t_wantedDay t_divisorsWanted) H → va_D A (wX0 c t0 tA_codes tA_partCodes tA_partShifts tA_partSums t_codes_15 t_size t_partCodes t_partShifts t_partSums t_partCount t_wantedDay t_divisorsWanted) → va_S A s.heap H locs → lv_has ls 9 [(0, .ref t0), (1, .ref (c 100)), (2, .int (8 : Int32)), (3, .int v3_2), (4, .int v4_6), (5, .int v5_8), (6, .long v6_12), (8, .int v8_14)] → W p l e rm_X0_sort s m args below meth c0 H locs 0 0 Q (F0 m 45 ls []) := by
                intro n_13
                induction n_13 with
                | zero => intro v8_14 t_codes_15 H locs ls hf hP hD hS hl; exact zz_none hf
                | succ n_13 ih_13 =>
                  intro v8_14 t_codes_15 H locs ls hf hP hD hS hl
                  rw [f_X0_sort_L45_s] at hf
                  refine lv_iload hx hb dX0_sort_45 (lv_at hl 7 rfl) ?_
                  refine lv_iload hx hb dX0_sort_47 (lv_at hl 4 rfl) ?_
                  refine lv_icmp_lt (tgt := 95) hx hb dX0_sort_49 (by decide) (fun hc_16 => ?_) (fun hc_16 => ?_)
                  · have hf := zz_it hf hc_16
                    exact hX_13 v8_14 t_codes_15 H locs ls hf hP hD hS (lv_sub hl [0, 1, 2, 3, 4, 5, 6, 7] rfl)
                  · have hf := zz_if hf hc_16
                    refine lv_aload_n hx hb dX0_sort_52 rfl (lv_at hl 0 rfl) ?_
                    refine zget S uw_X0 hE hP 0 0 rfl rfl (by decide) tw_1_148 rfl rfl dX0_sort_53 ?_
                    refine lv_iload hx hb dX0_sort_56 (lv_at hl 7 rfl) ?_
                    refine lv_iload hx hb dX0_sort_58 (lv_at hl 4 rfl) ?_
                    refine lv_isub hx hb dX0_sort_60 ?_
                    obtain ⟨hin_17, hf⟩ := zz_gd_use hf
                    refine zlld hx hb hE hP 1 rfl (zz_in_ok hin_17) dX0_sort_61 ?_
                    refine lv_lload hx hb dX0_sort_62 (lv_at hl 6 rfl) ?_
                    refine zlc_le (tgt := 95) hx hb dX0_sort_64 dX0_sort_65 (by decide) (fun hc_18 => ?_) (fun hc_18 => ?_)
                    · have hf := zz_it hf hc_18
                      exact hX_13 v8_14 t_codes_15 H locs ls hf hP hD hS (lv_sub hl [0, 1, 2, 3, 4, 5, 6, 7] rfl)
                    · have hf := zz_if hf hc_18
                      refine lv_aload_n hx hb dX0_sort_68 rfl (lv_at hl 0 rfl) ?_
                      refine zget S uw_X0 hE hP 0 0 rfl rfl (by decide) tw_1_148 rfl rfl dX0_sort_69 ?_
                      refine lv_iload hx hb dX0_sort_72 (lv_at hl 7 rfl) ?_
                      refine lv_aload_n hx hb dX0_sort_74 rfl (lv_at hl 0 rfl) ?_
                      refine zget S uw_X0 hE hP 0 0 rfl rfl (by decide) tw_1_148 rfl rfl dX0_sort_75 ?_
                      refine lv_iload hx hb dX0_sort_78 (lv_at hl 7 rfl) ?_
                      refine lv_iload hx hb dX0_sort_80 (lv_at hl 4 rfl) ?_
                      refine lv_isub hx hb dX0_sort_82 ?_
                      refine zlld hx hb hE hP 1 rfl (zz_in_ok hin_17) dX0_sort_83 ?_
                      obtain ⟨hin_19, hf⟩ := zz_gd_use hf
                      obtain ⟨t_codes_20, et_codes_20, hf⟩ := zz_let_use hf
                      refine zlst hx hb hE hP hD hS 1 (wX0 c t0 tA_codes tA_partCodes tA_partShifts tA_partSums t_codes_20 t_size t_partCodes t_partShifts t_partSums t_partCount t_wantedDay t_divisorsWanted) rfl rfl et_codes_20 (zz_in_ok hin_19) dX0_sort_84 (fun H locs hP hD hS => ?_)
                      refine lv_iload hx hb dX0_sort_85 (lv_at hl 7 rfl) ?_
                      refine lv_iload hx hb dX0_sort_87 (lv_at hl 4 rfl) ?_
                      refine lv_isub hx hb dX0_sort_89 ?_
                      obtain ⟨v8_21, ev8_21, hf⟩ := zz_let_use hf
                      refine zti ev8_21 ?_
                      refine lv_istore (lv' := [(8, .int v8_21), (0, .ref t0), (1, .ref (c 100)), (2, .int (8 : Int32)), (3, .int v3_2), (4, .int v4_6), (5, .int v5_8), (6, .long v6_12)]) hx hb dX0_sort_90 hl (by decide) rfl (fun ls hl => ?_)
                      refine lv_goto (tgt := 45) hx hb dX0_sort_92 (by decide) ?_
                      exact ih_13 v8_21 t_codes_20 H locs ls hf hP hD hS (lv_sub hl [1, 2, 3, 4, 5, 6, 7, 0] rfl)
              exact hL_13 N v5_8 t_codes_9 H locs ls hf hP hD hS (lv_sub hl [2, 3, 4, 5, 6, 7, 1, 0] rfl)
        exact hL_7 N v4_6 t_codes_3 H locs ls hf hP hD hS (lv_sub hl [2, 3, 4, 5, 1, 0] rfl)
  exact hL_1 N (0 : Int32) t_codes s.heap [] ls hf hP hD hS (lv_sub hl [3, 2, 1, 0] rfl)
def f_X0_gather (N : Nat) (t_codes : Nat → Int64) (t_partCodes : Nat → Int64) (t_partShifts : Nat → Int64) (t_partSums : Nat → Int32) (w_numbers : Nat → Int32) (w_syllables : Nat → Int64) (w_syllableCount : Int32) (p2 : Int32) (p3 : Int32) : Option ((Nat → Int64) × (Int32) × (Nat → Int64) × (Nat → Int64) × (Nat → Int32) × (Int32) × (Int32) × (Int32)) := zz_gd (zz_isB p3) (zz_b4 (f_X0_findParts N t_partCodes t_partShifts t_partSums w_numbers w_syllables w_syllableCount) (fun t_partCodes_2 t_partShifts_3 t_partSums_4 t_partCount_5 => zz_b2 (f_X0_join N 4 t_codes (0 : Int32) t_partCodes_2 t_partShifts_3 t_partSums_4 t_partCount_5 p2 p3 (0 : Int64) (0 : Int32) (3 : Int32)) (fun t_codes_6 t_size_7 => zz_b1 (f_X0_sort N t_codes_6 t_size_7) (fun t_codes_8 => zz_b2 (f_X0_dropLike N t_codes_8 t_size_7) (fun t_codes_9 t_size_10 => (some (t_codes_9, t_size_10, t_partCodes_2, t_partShifts_3, t_partSums_4, t_partCount_5, p2, p3)))))))
abbrev rm_X0_gather : Room := { frames := 6, cells := 0, slots := 0, locals := 164 }
theorem mi_X0_gather : zMI RX0 yX0_gather cX0_gather 4 none 3 := ⟨⟨tw_3_103, tw_3_104, tw_1_4, tw_3_105⟩, by decide +kernel, by decide +kernel, by decide +kernel⟩
set_option maxHeartbeats 4000000 in
set_option maxRecDepth 100000 in
theorem k_X0_gather (l : Launch) (D : va_G) (c : Nat → ClassId) (N : Nat) (t0 : Nat) (tA_codes : Nat) (tA_partCodes : Nat) (tA_partShifts : Nat) (tA_partSums : Nat) (t_codes : Nat → Int64) (t_size : Int32) (t_partCodes : Nat → Int64) (t_partShifts : Nat → Int64) (t_partSums : Nat → Int32) (t_partCount : Int32) (t_wantedDay : Int32) (t_divisorsWanted : Int32) (w0 : Nat) (wA_numbers : Nat) (wA_syllables : Nat) (wA_days : Nat) (wA_words : Nat) (wA_parents : Nat) (wA_otherParents : Nat) (wA_kinds : Nat) (wA_hopeDays : Nat) (wA_hopeTenths : Nat) (w_numbers : Nat → Int32) (w_syllables : Nat → Int64) (w_syllableCount : Int32) (w_days : Nat → Int32) (w_words : Nat → Int64) (w_parents : Nat → Int32) (w_otherParents : Nat → Int32) (w_kinds : Nat → Int32) (w_personCount : Int32) (w_hopeDays : Nat → Int32) (w_hopeTenths : Nat → Int32) (w_hopeCount : Int32) (w_degreesTold : Int32) (p2 : Int32) (p3 : Int32) (o_t_codes : Nat → Int64) (o_t_size : Int32) (o_t_partCodes : Nat → Int64) (o_t_partShifts : Nat → Int64) (o_t_partSums : Nat → Int32) (o_t_partCount : Int32) (o_t_wantedDay : Int32) (o_t_divisorsWanted : Int32) (hf : f_X0_gather N t_codes t_partCodes t_partShifts t_partSums w_numbers w_syllables w_syllableCount p2 p3 = some (o_t_codes, o_t_size, o_t_partCodes, o_t_partShifts, o_t_partSums, o_t_partCount, o_t_wantedDay, o_t_divisorsWanted)) : zMWv l D c yX0_gather cX0_gather 4 none rm_X0_gather (wX0 c t0 tA_codes tA_partCodes tA_partShifts tA_partSums t_codes t_size t_partCodes t_partShifts t_partSums t_partCount t_wantedDay t_divisorsWanted ++ wX5 c w0 wA_numbers wA_syllables wA_days wA_words wA_parents wA_otherParents wA_kinds wA_hopeDays wA_hopeTenths w_numbers w_syllables w_syllableCount w_days w_words w_parents w_otherParents w_kinds w_personCount w_hopeDays w_hopeTenths w_hopeCount w_degreesTold) (wX0 c t0 tA_codes tA_partCodes tA_partShifts tA_partSums o_t_codes o_t_size o_t_partCodes o_t_partShifts o_t_partSums o_t_partCount o_t_wantedDay o_t_divisorsWanted ++ wX5 c w0 wA_numbers wA_syllables wA_days wA_words wA_parents wA_otherParents wA_kinds wA_hopeDays wA_hopeTenths w_numbers w_syllables w_syllableCount w_days w_words w_parents w_otherParents w_kinds w_personCount w_hopeDays w_hopeTenths w_hopeCount w_degreesTold) [.ref t0, .ref w0, .int p2, .int p3] := by
  intro sz
  refine zIW (by decide) (Nat.le_of_ble_eq_true rfl) ?_
  intro p e s m args below meth c0 Q A hAe hQ hx hb hr hlk hml hts hown hP hE hD hS hA hsz hmn hX ls hl
  rw [← hAe] at hQ
  have S : CallFix p m c0 cX0_gather 4 s args zT RX0 := ⟨hx, hb, hml, hown, hts⟩
  have hl : lv_has ls 4 [(0, .ref t0), (1, .ref w0), (2, .int p2), (3, .int p3)] := hl
  unfold f_X0_gather at hf
  refine lv_aload_n hx hb dX0_gather_0 rfl (lv_at hl 0 rfl) ?_
  refine lv_iload_n hx hb dX0_gather_1 rfl (lv_at hl 2 rfl) ?_
  refine zput S uw_X0 tyX0_ok nmX0 hE hP hD hS 0 6 (ty := .int) (wX0 c t0 tA_codes tA_partCodes tA_partShifts tA_partSums t_codes t_size t_partCodes t_partShifts t_partSums t_partCount p2 t_divisorsWanted ++ wX5 c w0 wA_numbers wA_syllables wA_days wA_words wA_parents wA_otherParents wA_kinds wA_hopeDays wA_hopeTenths w_numbers w_syllables w_syllableCount w_days w_words w_parents w_otherParents w_kinds w_personCount w_hopeDays w_hopeTenths w_hopeCount w_degreesTold) rfl rfl (by decide) tw_1_156 rfl rfl (by decide +kernel) rfl rfl (Nat.le_of_ble_eq_true rfl) rfl dX0_gather_2 (fun H locs hP hD hS => ?_)
  refine lv_aload_n hx hb dX0_gather_5 rfl (lv_at hl 0 rfl) ?_
  refine lv_iload_n hx hb dX0_gather_6 rfl (lv_at hl 3 rfl) ?_
  obtain ⟨hb_1, hf⟩ := zz_gd_use hf
  refine zput S uw_X0 tyX0_ok nmX0 hE hP hD hS 0 7 (ty := .boolean) (wX0 c t0 tA_codes tA_partCodes tA_partShifts tA_partSums t_codes t_size t_partCodes t_partShifts t_partSums t_partCount p2 p3 ++ wX5 c w0 wA_numbers wA_syllables wA_days wA_words wA_parents wA_otherParents wA_kinds wA_hopeDays wA_hopeTenths w_numbers w_syllables w_syllableCount w_days w_words w_parents w_otherParents w_kinds w_personCount w_hopeDays w_hopeTenths w_hopeCount w_degreesTold) rfl rfl (by decide) tw_1_157 rfl rfl (by decide +kernel) (zz_isB_ok hb_1) (zz_isB_fit hb_1) (Nat.le_of_ble_eq_true rfl) rfl dX0_gather_7 (fun H locs hP hD hS => ?_)
  refine lv_aload_n hx hb dX0_gather_10 rfl (lv_at hl 0 rfl) ?_
  refine lv_iconst (v := (0 : Int32)) hx hb dX0_gather_11 (by decide) ?_
  refine zput S uw_X0 tyX0_ok nmX0 hE hP hD hS 0 1 (ty := .int) (wX0 c t0 tA_codes tA_partCodes tA_partShifts tA_partSums t_codes (0 : Int32) t_partCodes t_partShifts t_partSums t_partCount p2 p3 ++ wX5 c w0 wA_numbers wA_syllables wA_days wA_words wA_parents wA_otherParents wA_kinds wA_hopeDays wA_hopeTenths w_numbers w_syllables w_syllableCount w_days w_words w_parents w_otherParents w_kinds w_personCount w_hopeDays w_hopeTenths w_hopeCount w_degreesTold) rfl rfl (by decide) tw_1_150 rfl rfl (by decide +kernel) rfl rfl (Nat.le_of_ble_eq_true rfl) rfl dX0_gather_12 (fun H locs hP hD hS => ?_)
  refine lv_aload_n hx hb dX0_gather_15 rfl (lv_at hl 0 rfl) ?_
  refine lv_aload_n hx hb dX0_gather_16 rfl (lv_at hl 1 rfl) ?_
  obtain ⟨t_partCodes_2, t_partShifts_3, t_partSums_4, t_partCount_5, he_5, hf⟩ := zz_b4_use hf
  refine zwVv (As := [.ref w0]) (rest := []) (wr := []) (wX0 c t0 tA_codes tA_partCodes tA_partShifts tA_partSums t_codes (0 : Int32) t_partCodes_2 t_partShifts_3 t_partSums_4 t_partCount_5 p2 p3 ++ wX5 c w0 wA_numbers wA_syllables wA_days wA_words wA_parents wA_otherParents wA_kinds wA_hopeDays wA_hopeTenths w_numbers w_syllables w_syllableCount w_days w_words w_parents w_otherParents w_kinds w_personCount w_hopeDays w_hopeTenths w_hopeCount w_degreesTold) [0, 1, 2, 3, 4, 5, 6, 7, 8, 9, 10, 11, 12, 13, 14] [] [0, 1, 2, 3, 4, 5, 6, 7, 8, 9, 10, 11, 12, 13, 14] S (k_X0_findParts l D c N t0 tA_codes tA_partCodes tA_partShifts tA_partSums t_codes (0 : Int32) t_partCodes t_partShifts t_partSums t_partCount p2 p3 w0 wA_numbers wA_syllables wA_days wA_words wA_parents wA_otherParents wA_kinds wA_hopeDays wA_hopeTenths w_numbers w_syllables w_syllableCount w_days w_words w_parents w_otherParents w_kinds w_personCount w_hopeDays w_hopeTenths w_hopeCount w_degreesTold  t_partCodes_2 t_partShifts_3 t_partSums_4 t_partCount_5 he_5) mi_X0_findParts tw_3_106 ⟨(Nat.le_of_ble_eq_true rfl), (Nat.le_of_ble_eq_true rfl)⟩ ⟨rfl, rfl⟩ hP hD hS hA rfl rfl rfl rfl (by decide) rfl rfl hE hX (ci := 0) rfl rfl (q0 := 0) rfl rfl hl.1 rfl (Nat.le_of_ble_eq_true rfl) dX0_gather_17 ⟨(Nat.le_of_ble_eq_true rfl), (Nat.le_of_ble_eq_true rfl)⟩ (fun H locs hP hD hS => ?_)
  refine lv_aload_n hx hb dX0_gather_20 rfl (lv_at hl 0 rfl) ?_
  refine lv_lconst (v := (0 : Int64)) hx hb dX0_gather_21 (by decide) ?_
  refine lv_iconst (v := (0 : Int32)) hx hb dX0_gather_22 (by decide) ?_
  refine lv_iconst (v := (3 : Int32)) hx hb dX0_gather_23 (by decide) ?_
  obtain ⟨t_codes_6, t_size_7, he_7, hf⟩ := zz_b2_use hf
  refine zwVv (As := [.long (0 : Int64), .int (0 : Int32), .int (3 : Int32)]) (rest := []) (wr := (wX5 c w0 wA_numbers wA_syllables wA_days wA_words wA_parents wA_otherParents wA_kinds wA_hopeDays wA_hopeTenths w_numbers w_syllables w_syllableCount w_days w_words w_parents w_otherParents w_kinds w_personCount w_hopeDays w_hopeTenths w_hopeCount w_degreesTold)) (wX0 c t0 tA_codes tA_partCodes tA_partShifts tA_partSums t_codes_6 t_size_7 t_partCodes_2 t_partShifts_3 t_partSums_4 t_partCount_5 p2 p3 ++ wX5 c w0 wA_numbers wA_syllables wA_days wA_words wA_parents wA_otherParents wA_kinds wA_hopeDays wA_hopeTenths w_numbers w_syllables w_syllableCount w_days w_words w_parents w_otherParents w_kinds w_personCount w_hopeDays w_hopeTenths w_hopeCount w_degreesTold) [0, 1, 2, 3, 4] [5, 6, 7, 8, 9, 10, 11, 12, 13, 14] [10, 11, 12, 13, 14, 0, 1, 2, 3, 4, 5, 6, 7, 8, 9] S (k_X0_join l D c N 4 t0 tA_codes tA_partCodes tA_partShifts tA_partSums t_codes (0 : Int32) t_partCodes_2 t_partShifts_3 t_partSums_4 t_partCount_5 p2 p3 (0 : Int64) (0 : Int32) (3 : Int32) t_codes_6 t_size_7 he_7) mi_X0_join tw_3_115 ⟨(Nat.le_of_ble_eq_true rfl), (Nat.le_of_ble_eq_true rfl)⟩ ⟨rfl, rfl⟩ hP hD hS hA rfl rfl rfl rfl (by decide) rfl rfl hE hX (ci := 0) rfl rfl (q0 := 0) rfl rfl hl.1 rfl (Nat.le_of_ble_eq_true rfl) dX0_gather_24 ⟨(Nat.le_of_ble_eq_true rfl), (Nat.le_of_ble_eq_true rfl)⟩ (fun H locs hP hD hS => ?_)
  refine lv_aload_n hx hb dX0_gather_27 rfl (lv_at hl 0 rfl) ?_
  obtain ⟨t_codes_8, he_8, hf⟩ := zz_b1_use hf
  refine zwVv (As := []) (rest := []) (wr := (wX5 c w0 wA_numbers wA_syllables wA_days wA_words wA_parents wA_otherParents wA_kinds wA_hopeDays wA_hopeTenths w_numbers w_syllables w_syllableCount w_days w_words w_parents w_otherParents w_kinds w_personCount w_hopeDays w_hopeTenths w_hopeCount w_degreesTold)) (wX0 c t0 tA_codes tA_partCodes tA_partShifts tA_partSums t_codes_8 t_size_7 t_partCodes_2 t_partShifts_3 t_partSums_4 t_partCount_5 p2 p3 ++ wX5 c w0 wA_numbers wA_syllables wA_days wA_words wA_parents wA_otherParents wA_kinds wA_hopeDays wA_hopeTenths w_numbers w_syllables w_syllableCount w_days w_words w_parents w_otherParents w_kinds w_personCount w_hopeDays w_hopeTenths w_hopeCount w_degreesTold) [0, 1, 2, 3, 4] [5, 6, 7, 8, 9, 10, 11, 12, 13, 14] [10, 11, 12, 13, 14, 0, 1, 2, 3, 4, 5, 6, 7, 8, 9] S (k_X0_sort l D c N t0 tA_codes tA_partCodes tA_partShifts tA_partSums t_codes_6 t_size_7 t_partCodes_2 t_partShifts_3 t_partSums_4 t_partCount_5 p2 p3  t_codes_8 he_8) mi_X0_sort tw_3_123 ⟨(Nat.le_of_ble_eq_true rfl), (Nat.le_of_ble_eq_true rfl)⟩ ⟨rfl, rfl⟩ hP hD hS hA rfl rfl rfl rfl (by decide) rfl rfl hE hX (ci := 0) rfl rfl (q0 := 0) rfl rfl hl.1 rfl (Nat.le_of_ble_eq_true rfl) dX0_gather_28 ⟨(Nat.le_of_ble_eq_true rfl), (Nat.le_of_ble_eq_true rfl)⟩ (fun H locs hP hD hS => ?_)
  refine lv_aload_n hx hb dX0_gather_31 rfl (lv_at hl 0 rfl) ?_
  obtain ⟨t_codes_9, t_size_10, he_10, hf⟩ := zz_b2_use hf
  refine zwVv (As := []) (rest := []) (wr := (wX5 c w0 wA_numbers wA_syllables wA_days wA_words wA_parents wA_otherParents wA_kinds wA_hopeDays wA_hopeTenths w_numbers w_syllables w_syllableCount w_days w_words w_parents w_otherParents w_kinds w_personCount w_hopeDays w_hopeTenths w_hopeCount w_degreesTold)) (wX0 c t0 tA_codes tA_partCodes tA_partShifts tA_partSums t_codes_9 t_size_10 t_partCodes_2 t_partShifts_3 t_partSums_4 t_partCount_5 p2 p3 ++ wX5 c w0 wA_numbers wA_syllables wA_days wA_words wA_parents wA_otherParents wA_kinds wA_hopeDays wA_hopeTenths w_numbers w_syllables w_syllableCount w_days w_words w_parents w_otherParents w_kinds w_personCount w_hopeDays w_hopeTenths w_hopeCount w_degreesTold) [0, 1, 2, 3, 4] [5, 6, 7, 8, 9, 10, 11, 12, 13, 14] [10, 11, 12, 13, 14, 0, 1, 2, 3, 4, 5, 6, 7, 8, 9] S (k_X0_dropLike l D c N t0 tA_codes tA_partCodes tA_partShifts tA_partSums t_codes_8 t_size_7 t_partCodes_2 t_partShifts_3 t_partSums_4 t_partCount_5 p2 p3  t_codes_9 t_size_10 he_10) mi_X0_dropLike tw_3_129 ⟨(Nat.le_of_ble_eq_true rfl), (Nat.le_of_ble_eq_true rfl)⟩ ⟨rfl, rfl⟩ hP hD hS hA rfl rfl rfl rfl (by decide) rfl rfl hE hX (ci := 0) rfl rfl (q0 := 0) rfl rfl hl.1 rfl (Nat.le_of_ble_eq_true rfl) dX0_gather_32 ⟨(Nat.le_of_ble_eq_true rfl), (Nat.le_of_ble_eq_true rfl)⟩ (fun H locs hP hD hS => ?_)
  cases hf
  exact zRWv hQ hx hb hr hlk hP hD hS dX0_gather_35
def f_X0_dropCalled_L5 (N : Nat) (k_1 : (Int32) → (Nat → Int64) → Option ((Nat → Int64) × (Int32))) (t_size : Int32) (w_words : Nat → Int64) (w_personCount : Int32) (p2 : Int32) : Nat → (Int32) → (Int32) → (Nat → Int64) → Option ((Nat → Int64) × (Int32))
  | 0, _, _, _ => none
  | n_1 + 1, v3_2, v4_3, t_codes_4 => (if t_size ≤ v4_3 then (k_1 v3_2 t_codes_4) else zz_gd (zz_in v4_3 1110) (zz_b1 (f_X5_leastCalled N w_words w_personCount (t_codes_4 v4_3.toNatClampNeg) p2) (fun r_7 => zz_let (fun (v3_13 : Int32) (t_codes_14 : Nat → Int64) => zz_let (v4_3 + (1 : Int32)) (fun v4_15 => (f_X0_dropCalled_L5 N k_1 t_size w_words w_personCount p2 n_1 v3_13 v4_15 t_codes_14))) (fun k_12 => (if r_7 = (-1 : Int32) then zz_gd (zz_in v3_2 1110) (zz_let (vp_updL t_codes_4 v3_2.toNatClampNeg (t_codes_4 v4_3.toNatClampNeg)) (fun t_codes_10 => zz_let (v3_2 + (1 : Int32)) (fun v3_11 => (k_12 v3_11 t_codes_10)))) else (k_12 v3_2 t_codes_4))))))
theorem f_X0_dropCalled_L5_s (N : Nat) (k_1 : (Int32) → (Nat → Int64) → Option ((Nat → Int64) × (Int32))) (t_size : Int32) (w_words : Nat → Int64) (w_personCount : Int32) (p2 : Int32) (n_1 : Nat) (v3_2 : Int32) (v4_3 : Int32) (t_codes_4 : Nat → Int64) : f_X0_dropCalled_L5 N k_1 t_size w_words w_personCount p2 (n_1 + 1) v3_2 v4_3 t_codes_4 = (if t_size ≤ v4_3 then (k_1 v3_2 t_codes_4) else zz_gd (zz_in v4_3 1110) (zz_b1 (f_X5_leastCalled N w_words w_personCount (t_codes_4 v4_3.toNatClampNeg) p2) (fun r_7 => zz_let (fun (v3_13 : Int32) (t_codes_14 : Nat → Int64) => zz_let (v4_3 + (1 : Int32)) (fun v4_15 => (f_X0_dropCalled_L5 N k_1 t_size w_words w_personCount p2 n_1 v3_13 v4_15 t_codes_14))) (fun k_12 => (if r_7 = (-1 : Int32) then zz_gd (zz_in v3_2 1110) (zz_let (vp_updL t_codes_4 v3_2.toNatClampNeg (t_codes_4 v4_3.toNatClampNeg)) (fun t_codes_10 => zz_let (v3_2 + (1 : Int32)) (fun v3_11 => (k_12 v3_11 t_codes_10)))) else (k_12 v3_2 t_codes_4)))))) := rfl
def f_X0_dropCalled (N : Nat) (t_codes : Nat → Int64) (t_size : Int32) (w_words : Nat → Int64) (w_personCount : Int32) (p2 : Int32) : Option ((Nat → Int64) × (Int32)) := zz_let (fun (v3_16 : Int32) (t_codes_17 : Nat → Int64) => (some (t_codes_17, v3_16))) (fun k_1 => f_X0_dropCalled_L5 N k_1 t_size w_words w_personCount p2 N (0 : Int32) (0 : Int32) t_codes)
abbrev rm_X0_dropCalled : Room := { frames := 1, cells := 0, slots := 0, locals := 24 }
theorem mi_X0_dropCalled : zMI RX0 yX0_dropCalled cX0_dropCalled 5 none 2 := ⟨⟨tw_3_144, tw_3_145, tw_1_4, tw_3_146⟩, by decide +kernel, by decide +kernel, by decide +kernel⟩
set_option maxHeartbeats 4000000 in
set_option maxRecDepth 100000 in
theorem k_X0_dropCalled (l : Launch) (D : va_G) (c : Nat → ClassId) (N : Nat) (t0 : Nat) (tA_codes : Nat) (tA_partCodes : Nat) (tA_partShifts : Nat) (tA_partSums : Nat) (t_codes : Nat → Int64) (t_size : Int32) (t_partCodes : Nat → Int64) (t_partShifts : Nat → Int64) (t_partSums : Nat → Int32) (t_partCount : Int32) (t_wantedDay : Int32) (t_divisorsWanted : Int32) (w0 : Nat) (wA_numbers : Nat) (wA_syllables : Nat) (wA_days : Nat) (wA_words : Nat) (wA_parents : Nat) (wA_otherParents : Nat) (wA_kinds : Nat) (wA_hopeDays : Nat) (wA_hopeTenths : Nat) (w_numbers : Nat → Int32) (w_syllables : Nat → Int64) (w_syllableCount : Int32) (w_days : Nat → Int32) (w_words : Nat → Int64) (w_parents : Nat → Int32) (w_otherParents : Nat → Int32) (w_kinds : Nat → Int32) (w_personCount : Int32) (w_hopeDays : Nat → Int32) (w_hopeTenths : Nat → Int32) (w_hopeCount : Int32) (w_degreesTold : Int32) (p2 : Int32) (o_t_codes : Nat → Int64) (o_t_size : Int32) (hf : f_X0_dropCalled N t_codes t_size w_words w_personCount p2 = some (o_t_codes, o_t_size)) : zMWv l D c yX0_dropCalled cX0_dropCalled 5 none rm_X0_dropCalled (wX0 c t0 tA_codes tA_partCodes tA_partShifts tA_partSums t_codes t_size t_partCodes t_partShifts t_partSums t_partCount t_wantedDay t_divisorsWanted ++ wX5 c w0 wA_numbers wA_syllables wA_days wA_words wA_parents wA_otherParents wA_kinds wA_hopeDays wA_hopeTenths w_numbers w_syllables w_syllableCount w_days w_words w_parents w_otherParents w_kinds w_personCount w_hopeDays w_hopeTenths w_hopeCount w_degreesTold) (wX0 c t0 tA_codes tA_partCodes tA_partShifts tA_partSums o_t_codes o_t_size t_partCodes t_partShifts t_partSums t_partCount t_wantedDay t_divisorsWanted ++ wX5 c w0 wA_numbers wA_syllables wA_days wA_words wA_parents wA_otherParents wA_kinds wA_hopeDays wA_hopeTenths w_numbers w_syllables w_syllableCount w_days w_words w_parents w_otherParents w_kinds w_personCount w_hopeDays w_hopeTenths w_hopeCount w_degreesTold) [.ref t0, .ref w0, .int p2] := by
  intro sz
  refine zIW (by decide) (Nat.le_of_ble_eq_true rfl) ?_
  intro p e s m args below meth c0 Q A hAe hQ hx hb hr hlk hml hts hown hP hE hD hS hA hsz hmn hX ls hl
  rw [← hAe] at hQ
  have S : CallFix p m c0 cX0_dropCalled 5 s args zT RX0 := ⟨hx, hb, hml, hown, hts⟩
  have hl : lv_has ls 5 [(0, .ref t0), (1, .ref w0), (2, .int p2)] := hl
  unfold f_X0_dropCalled at hf
  refine lv_iconst (v := (0 : Int32)) hx hb dX0_dropCalled_0 (by decide) ?_
  refine lv_istore_n (lv' := [(3, .int (0 : Int32)), (0, .ref t0), (1, .ref w0), (2, .int p2)]) hx hb dX0_dropCalled_1 rfl hl (by decide) rfl (fun ls hl => ?_)
  refine lv_iconst (v := (0 : Int32)) hx hb dX0_dropCalled_2 (by decide) ?_
  refine lv_istore (lv' := [(4, .int (0 : Int32)), (3, .int (0 : Int32)), (0, .ref t0), (1, .ref w0), (2, .int p2)]) hx hb dX0_dropCalled_3 hl (by decide) rfl (fun ls hl => ?_)
  obtain ⟨k_1, hk_1, hf⟩ := zz_let_use hf
  have hX_1 : ∀ (v3_16 : Int32) (t_codes_17 : Nat → Int64) (H : Heap) (locs : List Loc) (ls : Array Slot), k_1 v3_16 t_codes_17 = some (o_t_codes, o_t_size) → va_P D vwCl (wX0 c t0 tA_codes tA_partCodes tA_partShifts tA_partSums t_codes_17 t_size t_partCodes t_partShifts t_partSums t_partCount t_wantedDay t_divisorsWanted ++ wX5 c w0 wA_numbers wA_syllables wA_days wA_words wA_parents wA_otherParents wA_kinds wA_hopeDays wA_hopeTenths w_numbers w_syllables w_syllableCount w_days w_words w_parents w_otherParents w_kinds w_personCount w_hopeDays w_hopeTenths w_hopeCount w_degreesTold) H → va_D A (wX0 c t0 tA_codes tA_partCodes tA_partShifts tA_partSums t_codes_17 t_size t_partCodes t_partShifts t_partSums t_partCount t_wantedDay t_divisorsWanted ++ wX5 c w0 wA_numbers wA_syllables wA_days wA_words wA_parents wA_otherParents wA_kinds wA_hopeDays wA_hopeTenths w_numbers w_syllables w_syllableCount w_days w_words w_parents w_otherParents w_kinds w_personCount w_hopeDays w_hopeTenths w_hopeCount w_degreesTold) → va_S A s.heap H locs → lv_has ls 5 [(0, .ref t0), (3, .int v3_16)] → W p l e rm_X0_dropCalled s m args below meth c0 H locs 0 0 Q (F0 m 52 ls []) := by
    intro v3_16 t_codes_17 H locs ls hf hP hD hS hl
    subst hk_1
    refine lv_aload_n hx hb dX0_dropCalled_52 rfl (lv_at hl 0 rfl) ?_
    refine lv_iload_n hx hb dX0_dropCalled_53 rfl (lv_at hl 1 rfl) ?_
    refine zput S uw_X0 tyX0_ok nmX0 hE hP hD hS 0 1 (ty := .int) (wX0 c t0 tA_codes tA_partCodes tA_partShifts tA_partSums t_codes_17 v3_16 t_partCodes t_partShifts t_partSums t_partCount t_wantedDay t_divisorsWanted ++ wX5 c w0 wA_numbers wA_syllables wA_days wA_words wA_parents wA_otherParents wA_kinds wA_hopeDays wA_hopeTenths w_numbers w_syllables w_syllableCount w_days w_words w_parents w_otherParents w_kinds w_personCount w_hopeDays w_hopeTenths w_hopeCount w_degreesTold) rfl rfl (by decide) tw_1_150 rfl rfl (by decide +kernel) rfl rfl (Nat.le_of_ble_eq_true rfl) rfl dX0_dropCalled_54 (fun H locs hP hD hS => ?_)
    cases hf
    exact zRWv hQ hx hb hr hlk hP hD hS dX0_dropCalled_57
  have hL_1 : ∀ (n_1 : Nat) (v3_2 : Int32) (v4_3 : Int32) (t_codes_4 : Nat → Int64) (H : Heap) (locs : List Loc) (ls : Array Slot), f_X0_dropCalled_L5 N k_1 t_size w_words w_personCount p2 n_1 v3_2 v4_3 t_codes_4 = some (o_t_codes, o_t_size) → va_P D vwCl (wX0 c t0 tA_codes tA_partCodes tA_partShifts tA_partSums t_codes_4 t_size t_partCodes t_partShifts t_partSums t_partCount t_wantedDay t_divisorsWanted ++ wX5 c w0 wA_numbers wA_syllables wA_days wA_words wA_parents wA_otherParents wA_kinds wA_hopeDays wA_hopeTenths w_numbers w_syllables w_syllableCount w_days w_words w_parents w_otherParents w_kinds w_personCount w_hopeDays w_hopeTenths w_hopeCount w_degreesTold) H → va_D A (wX0 c t0 tA_codes tA_partCodes tA_partShifts tA_partSums t_codes_4 t_size t_partCodes t_partShifts t_partSums t_partCount t_wantedDay t_divisorsWanted ++ wX5 c w0 wA_numbers wA_syllables wA_days wA_words wA_parents wA_otherParents wA_kinds wA_hopeDays wA_hopeTenths w_numbers w_syllables w_syllableCount w_days w_words w_parents w_otherParents w_kinds w_personCount w_hopeDays w_hopeTenths w_hopeCount w_degreesTold) → va_S A s.heap H locs → lv_has ls 5 [(0, .ref t0), (1, .ref w0), (2, .int p2), (3, .int v3_2), (4, .int v4_3)] → W p l e rm_X0_dropCalled s m args below meth c0 H locs 0 0 Q (F0 m 5 ls []) := by
    intro n_1
    induction n_1 with
    | zero => intro v3_2 v4_3 t_codes_4 H locs ls hf hP hD hS hl; exact zz_none hf
    | succ n_1 ih_1 =>
      intro v3_2 v4_3 t_codes_4 H locs ls hf hP hD hS hl
      rw [f_X0_dropCalled_L5_s] at hf
      refine lv_iload hx hb dX0_dropCalled_5 (lv_at hl 4 rfl) ?_
      refine lv_aload_n hx hb dX0_dropCalled_7 rfl (lv_at hl 0 rfl) ?_
      refine zget S uw_X0 hE hP 0 1 rfl rfl (by decide) tw_1_150 rfl rfl dX0_dropCalled_8 ?_
      refine lv_icmp_ge (tgt := 52) hx hb dX0_dropCalled_11 (by decide) (fun hc_5 => ?_) (fun hc_5 => ?_)
      · have hf := zz_it hf hc_5
        exact hX_1 v3_2 t_codes_4 H locs ls hf hP hD hS (lv_sub hl [0, 3] rfl)
      · have hf := zz_if hf hc_5
        refine lv_aload_n hx hb dX0_dropCalled_14 rfl (lv_at hl 1 rfl) ?_
        refine lv_aload_n hx hb dX0_dropCalled_15 rfl (lv_at hl 0 rfl) ?_
        refine zget S uw_X0 hE hP 0 0 rfl rfl (by decide) tw_1_148 rfl rfl dX0_dropCalled_16 ?_
        refine lv_iload hx hb dX0_dropCalled_19 (lv_at hl 4 rfl) ?_
        obtain ⟨hin_6, hf⟩ := zz_gd_use hf
        refine zlld hx hb hE hP 1 rfl (zz_in_ok hin_6) dX0_dropCalled_21 ?_
        refine lv_iload_n hx hb dX0_dropCalled_22 rfl (lv_at hl 2 rfl) ?_
        obtain ⟨r_7, he_7, hf⟩ := zz_b1_use hf
        refine zcVi (As := [.long (t_codes_4 v4_3.toNatClampNeg), .int p2]) (rest := []) S (k_X5_leastCalled l D c N w0 wA_numbers wA_syllables wA_days wA_words wA_parents wA_otherParents wA_kinds wA_hopeDays wA_hopeTenths w_numbers w_syllables w_syllableCount w_days w_words w_parents w_otherParents w_kinds w_personCount w_hopeDays w_hopeTenths w_hopeCount w_degreesTold (t_codes_4 v4_3.toNatClampNeg) p2 r_7 he_7) mi_X5_leastCalled tw_3_147 ⟨(Nat.le_of_ble_eq_true rfl), (Nat.le_of_ble_eq_true rfl)⟩ ⟨rfl, rfl⟩ (zpsub (is := [5, 6, 7, 8, 9, 10, 11, 12, 13, 14]) hP rfl) hE hX hS (ci := 5) rfl rfl (q0 := 0) rfl rfl hl.1 rfl (Nat.le_of_ble_eq_true rfl) dX0_dropCalled_23 ⟨(Nat.le_of_ble_eq_true rfl), (Nat.le_of_ble_eq_true rfl)⟩ ?_
        refine lv_iconst (v := (-1 : Int32)) hx hb dX0_dropCalled_26 (by decide) ?_
        obtain ⟨k_12, hk_12, hf⟩ := zz_let_use hf
        have hJ_12 : ∀ (v3_13 : Int32) (t_codes_14 : Nat → Int64) (H : Heap) (locs : List Loc) (ls : Array Slot), k_12 v3_13 t_codes_14 = some (o_t_codes, o_t_size) → va_P D vwCl (wX0 c t0 tA_codes tA_partCodes tA_partShifts tA_partSums t_codes_14 t_size t_partCodes t_partShifts t_partSums t_partCount t_wantedDay t_divisorsWanted ++ wX5 c w0 wA_numbers wA_syllables wA_days wA_words wA_parents wA_otherParents wA_kinds wA_hopeDays wA_hopeTenths w_numbers w_syllables w_syllableCount w_days w_words w_parents w_otherParents w_kinds w_personCount w_hopeDays w_hopeTenths w_hopeCount w_degreesTold) H → va_D A (wX0 c t0 tA_codes tA_partCodes tA_partShifts tA_partSums t_codes_14 t_size t_partCodes t_partShifts t_partSums t_partCount t_wantedDay t_divisorsWanted ++ wX5 c w0 wA_numbers wA_syllables wA_days wA_words wA_parents wA_otherParents wA_kinds wA_hopeDays wA_hopeTenths w_numbers w_syllables w_syllableCount w_days w_words w_parents w_otherParents w_kinds w_personCount w_hopeDays w_hopeTenths w_hopeCount w_degreesTold) → va_S A s.heap H locs → lv_has ls 5 [(0, .ref t0), (1, .ref w0), (2, .int p2), (3, .int v3_13), (4, .int v4_3)] → W p l e rm_X0_dropCalled s m args below meth c0 H locs 0 0 Q (F0 m 46 ls []) := by
          intro v3_13 t_codes_14 H locs ls hf hP hD hS hl
          subst hk_12
          obtain ⟨v4_15, ev4_15, hf⟩ := zz_let_use hf
          refine lv_iinc (v := v4_15) (lv' := [(4, .int v4_15), (0, .ref t0), (1, .ref w0), (2, .int p2), (3, .int v3_13)]) hx hb dX0_dropCalled_46 hl (k := 4) rfl (by rw [← ev4_15]; rfl) (by decide) rfl (fun ls hl => ?_)
          refine lv_goto (tgt := 5) hx hb dX0_dropCalled_49 (by decide) ?_
          exact ih_1 v3_13 v4_15 t_codes_14 H locs ls hf hP hD hS (lv_sub hl [1, 2, 3, 4, 0] rfl)
        refine lv_icmp_ne (tgt := 46) hx hb dX0_dropCalled_27 (by decide) (fun hc_8 => ?_) (fun hc_8 => ?_)
        · have hf := zz_if hf hc_8
          exact hJ_12 v3_2 t_codes_4 H locs ls hf hP hD hS (lv_sub hl [0, 1, 2, 3, 4] rfl)
        · have hf := zz_it hf hc_8
          refine lv_aload_n hx hb dX0_dropCalled_30 rfl (lv_at hl 0 rfl) ?_
          refine zget S uw_X0 hE hP 0 0 rfl rfl (by decide) tw_1_148 rfl rfl dX0_dropCalled_31 ?_
          refine lv_iload_n hx hb dX0_dropCalled_34 rfl (lv_at hl 3 rfl) ?_
          refine lv_aload_n hx hb dX0_dropCalled_35 rfl (lv_at hl 0 rfl) ?_
          refine zget S uw_X0 hE hP 0 0 rfl rfl (by decide) tw_1_148 rfl rfl dX0_dropCalled_36 ?_
          refine lv_iload hx hb dX0_dropCalled_39 (lv_at hl 4 rfl) ?_
          refine zlld hx hb hE hP 1 rfl (zz_in_ok hin_6) dX0_dropCalled_41 ?_
          obtain ⟨hin_9, hf⟩ := zz_gd_use hf
          obtain ⟨t_codes_10, et_codes_10, hf⟩ := zz_let_use hf
          refine zlst hx hb hE hP hD hS 1 (wX0 c t0 tA_codes tA_partCodes tA_partShifts tA_partSums t_codes_10 t_size t_partCodes t_partShifts t_partSums t_partCount t_wantedDay t_divisorsWanted ++ wX5 c w0 wA_numbers wA_syllables wA_days wA_words wA_parents wA_otherParents wA_kinds wA_hopeDays wA_hopeTenths w_numbers w_syllables w_syllableCount w_days w_words w_parents w_otherParents w_kinds w_personCount w_hopeDays w_hopeTenths w_hopeCount w_degreesTold) rfl rfl et_codes_10 (zz_in_ok hin_9) dX0_dropCalled_42 (fun H locs hP hD hS => ?_)
          obtain ⟨v3_11, ev3_11, hf⟩ := zz_let_use hf
          refine lv_iinc (v := v3_11) (lv' := [(3, .int v3_11), (0, .ref t0), (1, .ref w0), (2, .int p2), (4, .int v4_3)]) hx hb dX0_dropCalled_43 hl (k := 3) rfl (by rw [← ev3_11]; rfl) (by decide) rfl (fun ls hl => ?_)
          exact hJ_12 v3_11 t_codes_10 H locs ls hf hP hD hS (lv_sub hl [1, 2, 3, 0, 4] rfl)
  exact hL_1 N (0 : Int32) (0 : Int32) t_codes s.heap [] ls hf hP hD hS (lv_sub hl [2, 3, 4, 1, 0] rfl)
def f_X0_dropNoNicknames_L5 (N : Nat) (k_1 : (Int32) → (Nat → Int64) → Option ((Nat → Int64) × (Int32))) (t_size : Int32) (p1 : Int64) : Nat → (Int32) → (Int32) → (Nat → Int64) → Option ((Nat → Int64) × (Int32))
  | 0, _, _, _ => none
  | n_1 + 1, v3_2, v4_3, t_codes_4 => (if t_size ≤ v4_3 then (k_1 v3_2 t_codes_4) else zz_gd (zz_in v4_3 1110) (zz_let (fun (v3_14 : Int32) (t_codes_15 : Nat → Int64) => zz_let (v4_3 + (1 : Int32)) (fun v4_16 => (f_X0_dropNoNicknames_L5 N k_1 t_size p1 n_1 v3_14 v4_16 t_codes_15))) (fun k_13 => (if (t_codes_4 v4_3.toNatClampNeg) = p1 then (k_13 v3_2 t_codes_4) else zz_b1 (f_X6_isLeftOf N (t_codes_4 v4_3.toNatClampNeg) p1) (fun r_8 => (if r_8 = 0 then (k_13 v3_2 t_codes_4) else zz_gd (zz_in v3_2 1110) (zz_let (vp_updL t_codes_4 v3_2.toNatClampNeg (t_codes_4 v4_3.toNatClampNeg)) (fun t_codes_11 => zz_let (v3_2 + (1 : Int32)) (fun v3_12 => (k_13 v3_12 t_codes_11))))))))))
theorem f_X0_dropNoNicknames_L5_s (N : Nat) (k_1 : (Int32) → (Nat → Int64) → Option ((Nat → Int64) × (Int32))) (t_size : Int32) (p1 : Int64) (n_1 : Nat) (v3_2 : Int32) (v4_3 : Int32) (t_codes_4 : Nat → Int64) : f_X0_dropNoNicknames_L5 N k_1 t_size p1 (n_1 + 1) v3_2 v4_3 t_codes_4 = (if t_size ≤ v4_3 then (k_1 v3_2 t_codes_4) else zz_gd (zz_in v4_3 1110) (zz_let (fun (v3_14 : Int32) (t_codes_15 : Nat → Int64) => zz_let (v4_3 + (1 : Int32)) (fun v4_16 => (f_X0_dropNoNicknames_L5 N k_1 t_size p1 n_1 v3_14 v4_16 t_codes_15))) (fun k_13 => (if (t_codes_4 v4_3.toNatClampNeg) = p1 then (k_13 v3_2 t_codes_4) else zz_b1 (f_X6_isLeftOf N (t_codes_4 v4_3.toNatClampNeg) p1) (fun r_8 => (if r_8 = 0 then (k_13 v3_2 t_codes_4) else zz_gd (zz_in v3_2 1110) (zz_let (vp_updL t_codes_4 v3_2.toNatClampNeg (t_codes_4 v4_3.toNatClampNeg)) (fun t_codes_11 => zz_let (v3_2 + (1 : Int32)) (fun v3_12 => (k_13 v3_12 t_codes_11)))))))))) := rfl
def f_X0_dropNoNicknames (N : Nat) (t_codes : Nat → Int64) (t_size : Int32) (p1 : Int64) : Option ((Nat → Int64) × (Int32)) := zz_let (fun (v3_17 : Int32) (t_codes_18 : Nat → Int64) => (some (t_codes_18, v3_17))) (fun k_1 => f_X0_dropNoNicknames_L5 N k_1 t_size p1 N (0 : Int32) (0 : Int32) t_codes)
abbrev rm_X0_dropNoNicknames : Room := { frames := 2, cells := 0, slots := 0, locals := 49 }
theorem mi_X0_dropNoNicknames : zMI RX0 yX0_dropNoNicknames cX0_dropNoNicknames 5 none 1 := ⟨⟨tw_4_70, tw_4_71, tw_1_4, tw_4_72⟩, by decide +kernel, by decide +kernel, by decide +kernel⟩
set_option maxHeartbeats 4000000 in
set_option maxRecDepth 100000 in
theorem k_X0_dropNoNicknames (l : Launch) (D : va_G) (c : Nat → ClassId) (N : Nat) (t0 : Nat) (tA_codes : Nat) (tA_partCodes : Nat) (tA_partShifts : Nat) (tA_partSums : Nat) (t_codes : Nat → Int64) (t_size : Int32) (t_partCodes : Nat → Int64) (t_partShifts : Nat → Int64) (t_partSums : Nat → Int32) (t_partCount : Int32) (t_wantedDay : Int32) (t_divisorsWanted : Int32) (p1 : Int64) (o_t_codes : Nat → Int64) (o_t_size : Int32) (hf : f_X0_dropNoNicknames N t_codes t_size p1 = some (o_t_codes, o_t_size)) : zMWv l D c yX0_dropNoNicknames cX0_dropNoNicknames 5 none rm_X0_dropNoNicknames (wX0 c t0 tA_codes tA_partCodes tA_partShifts tA_partSums t_codes t_size t_partCodes t_partShifts t_partSums t_partCount t_wantedDay t_divisorsWanted) (wX0 c t0 tA_codes tA_partCodes tA_partShifts tA_partSums o_t_codes o_t_size t_partCodes t_partShifts t_partSums t_partCount t_wantedDay t_divisorsWanted) [.ref t0, .long p1] := by
  intro sz
  refine zIW (by decide) (Nat.le_of_ble_eq_true rfl) ?_
  intro p e s m args below meth c0 Q A hAe hQ hx hb hr hlk hml hts hown hP hE hD hS hA hsz hmn hX ls hl
  rw [← hAe] at hQ
  have S : CallFix p m c0 cX0_dropNoNicknames 5 s args zT RX0 := ⟨hx, hb, hml, hown, hts⟩
  have hl : lv_has ls 5 [(0, .ref t0), (1, .long p1)] := hl
  unfold f_X0_dropNoNicknames at hf
  refine lv_iconst (v := (0 : Int32)) hx hb dX0_dropNoNicknames_0 (by decide) ?_
  refine lv_istore_n (lv' := [(3, .int (0 : Int32)), (0, .ref t0), (1, .long p1)]) hx hb dX0_dropNoNicknames_1 rfl hl (by decide) rfl (fun ls hl => ?_)
  refine lv_iconst (v := (0 : Int32)) hx hb dX0_dropNoNicknames_2 (by decide) ?_
  refine lv_istore (lv' := [(4, .int (0 : Int32)), (3, .int (0 : Int32)), (0, .ref t0), (1, .long p1)]) hx hb dX0_dropNoNicknames_3 hl (by decide) rfl (fun ls hl => ?_)
  obtain ⟨k_1, hk_1, hf⟩ := zz_let_use hf
  have hX_1 : ∀ (v3_17 : Int32) (t_codes_18 : Nat → Int64) (H : Heap) (locs : List Loc) (ls : Array Slot), k_1 v3_17 t_codes_18 = some (o_t_codes, o_t_size) → va_P D vwCl (wX0 c t0 tA_codes tA_partCodes tA_partShifts tA_partSums t_codes_18 t_size t_partCodes t_partShifts t_partSums t_partCount t_wantedDay t_divisorsWanted) H → va_D A (wX0 c t0 tA_codes tA_partCodes tA_partShifts tA_partSums t_codes_18 t_size t_partCodes t_partShifts t_partSums t_partCount t_wantedDay t_divisorsWanted) → va_S A s.heap H locs → lv_has ls 5 [(0, .ref t0), (3, .int v3_17)] → W p l e rm_X0_dropNoNicknames s m args below meth c0 H locs 0 0 Q (F0 m 62 ls []) := by
    intro v3_17 t_codes_18 H locs ls hf hP hD hS hl
    subst hk_1
    refine lv_aload_n hx hb dX0_dropNoNicknames_62 rfl (lv_at hl 0 rfl) ?_
    refine lv_iload_n hx hb dX0_dropNoNicknames_63 rfl (lv_at hl 1 rfl) ?_
    refine zput S uw_X0 tyX0_ok nmX0 hE hP hD hS 0 1 (ty := .int) (wX0 c t0 tA_codes tA_partCodes tA_partShifts tA_partSums t_codes_18 v3_17 t_partCodes t_partShifts t_partSums t_partCount t_wantedDay t_divisorsWanted) rfl rfl (by decide) tw_1_150 rfl rfl (by decide +kernel) rfl rfl (Nat.le_of_ble_eq_true rfl) rfl dX0_dropNoNicknames_64 (fun H locs hP hD hS => ?_)
    cases hf
    exact zRWv hQ hx hb hr hlk hP hD hS dX0_dropNoNicknames_67
  have hL_1 : ∀ (n_1 : Nat) (v3_2 : Int32) (v4_3 : Int32) (t_codes_4 : Nat → Int64) (H : Heap) (locs : List Loc) (ls : Array Slot), f_X0_dropNoNicknames_L5 N k_1 t_size p1 n_1 v3_2 v4_3 t_codes_4 = some (o_t_codes, o_t_size) → va_P D vwCl (wX0 c t0 tA_codes tA_partCodes tA_partShifts tA_partSums t_codes_4 t_size t_partCodes t_partShifts t_partSums t_partCount t_wantedDay t_divisorsWanted) H → va_D A (wX0 c t0 tA_codes tA_partCodes tA_partShifts tA_partSums t_codes_4 t_size t_partCodes t_partShifts t_partSums t_partCount t_wantedDay t_divisorsWanted) → va_S A s.heap H locs → lv_has ls 5 [(0, .ref t0), (1, .long p1), (3, .int v3_2), (4, .int v4_3)] → W p l e rm_X0_dropNoNicknames s m args below meth c0 H locs 0 0 Q (F0 m 5 ls []) := by
    intro n_1
    induction n_1 with
    | zero => intro v3_2 v4_3 t_codes_4 H locs ls hf hP hD hS hl; exact zz_none hf
    | succ n_1 ih_1 =>
      intro v3_2 v4_3 t_codes_4 H locs ls hf hP hD hS hl
      rw [f_X0_dropNoNicknames_L5_s] at hf
      refine lv_iload hx hb dX0_dropNoNicknames_5 (lv_at hl 3 rfl) ?_
      refine lv_aload_n hx hb dX0_dropNoNicknames_7 rfl (lv_at hl 0 rfl) ?_
      refine zget S uw_X0 hE hP 0 1 rfl rfl (by decide) tw_1_150 rfl rfl dX0_dropNoNicknames_8 ?_
      refine lv_icmp_ge (tgt := 62) hx hb dX0_dropNoNicknames_11 (by decide) (fun hc_5 => ?_) (fun hc_5 => ?_)
      · have hf := zz_it hf hc_5
        exact hX_1 v3_2 t_codes_4 H locs ls hf hP hD hS (lv_sub hl [0, 2] rfl)
      · have hf := zz_if hf hc_5
        refine lv_aload_n hx hb dX0_dropNoNicknames_14 rfl (lv_at hl 0 rfl) ?_
        refine zget S uw_X0 hE hP 0 0 rfl rfl (by decide) tw_1_148 rfl rfl dX0_dropNoNicknames_15 ?_
        refine lv_iload hx hb dX0_dropNoNicknames_18 (lv_at hl 3 rfl) ?_
        obtain ⟨hin_6, hf⟩ := zz_gd_use hf
        refine zlld hx hb hE hP 1 rfl (zz_in_ok hin_6) dX0_dropNoNicknames_20 ?_
        refine lv_lload_n hx hb dX0_dropNoNicknames_21 rfl (lv_at hl 1 rfl) ?_
        obtain ⟨k_13, hk_13, hf⟩ := zz_let_use hf
        have hJ_13 : ∀ (v3_14 : Int32) (t_codes_15 : Nat → Int64) (H : Heap) (locs : List Loc) (ls : Array Slot), k_13 v3_14 t_codes_15 = some (o_t_codes, o_t_size) → va_P D vwCl (wX0 c t0 tA_codes tA_partCodes tA_partShifts tA_partSums t_codes_15 t_size t_partCodes t_partShifts t_partSums t_partCount t_wantedDay t_divisorsWanted) H → va_D A (wX0 c t0 tA_codes tA_partCodes tA_partShifts tA_partSums t_codes_15 t_size t_partCodes t_partShifts t_partSums t_partCount t_wantedDay t_divisorsWanted) → va_S A s.heap H locs → lv_has ls 5 [(0, .ref t0), (1, .long p1), (3, .int v3_14), (4, .int v4_3)] → W p l e rm_X0_dropNoNicknames s m args below meth c0 H locs 0 0 Q (F0 m 56 ls []) := by
          intro v3_14 t_codes_15 H locs ls hf hP hD hS hl
          subst hk_13
          obtain ⟨v4_16, ev4_16, hf⟩ := zz_let_use hf
          refine lv_iinc (v := v4_16) (lv' := [(4, .int v4_16), (0, .ref t0), (1, .long p1), (3, .int v3_14)]) hx hb dX0_dropNoNicknames_56 hl (k := 3) rfl (by rw [← ev4_16]; rfl) (by decide) rfl (fun ls hl => ?_)
          refine lv_goto (tgt := 5) hx hb dX0_dropNoNicknames_59 (by decide) ?_
          exact ih_1 v3_14 v4_16 t_codes_15 H locs ls hf hP hD hS (lv_sub hl [1, 2, 3, 0] rfl)
        refine zlc_eq (tgt := 56) hx hb dX0_dropNoNicknames_22 dX0_dropNoNicknames_23 (by decide) (fun hc_7 => ?_) (fun hc_7 => ?_)
        · have hf := zz_it hf hc_7
          exact hJ_13 v3_2 t_codes_4 H locs ls hf hP hD hS (lv_sub hl [0, 1, 2, 3] rfl)
        · have hf := zz_if hf hc_7
          refine lv_aload_n hx hb dX0_dropNoNicknames_26 rfl (lv_at hl 0 rfl) ?_
          refine zget S uw_X0 hE hP 0 0 rfl rfl (by decide) tw_1_148 rfl rfl dX0_dropNoNicknames_27 ?_
          refine lv_iload hx hb dX0_dropNoNicknames_30 (lv_at hl 3 rfl) ?_
          refine zlld hx hb hE hP 1 rfl (zz_in_ok hin_6) dX0_dropNoNicknames_32 ?_
          refine lv_lload_n hx hb dX0_dropNoNicknames_33 rfl (lv_at hl 1 rfl) ?_
          obtain ⟨r_8, he_8, hf⟩ := zz_b1_use hf
          refine zcNi (As := [.long (t_codes_4 v4_3.toNatClampNeg), .long p1]) (rest := []) S (k_X6_isLeftOf l D c N  (t_codes_4 v4_3.toNatClampNeg) p1 r_8 he_8) mi_X6_isLeftOf tn_X0_82 ⟨(Nat.le_of_ble_eq_true rfl), (Nat.le_of_ble_eq_true rfl)⟩ ⟨rfl, rfl⟩ (zpnil) hE hX hS rfl hl.1 rfl (Nat.le_of_ble_eq_true rfl) dX0_dropNoNicknames_34 ⟨(Nat.le_of_ble_eq_true rfl), (Nat.le_of_ble_eq_true rfl)⟩ ?_
          refine lv_if_eq (tgt := 56) hx hb dX0_dropNoNicknames_37 (by decide) (fun hc_9 => ?_) (fun hc_9 => ?_)
          · have hf := zz_it hf hc_9
            exact hJ_13 v3_2 t_codes_4 H locs ls hf hP hD hS (lv_sub hl [0, 1, 2, 3] rfl)
          · have hf := zz_if hf hc_9
            refine lv_aload_n hx hb dX0_dropNoNicknames_40 rfl (lv_at hl 0 rfl) ?_
            refine zget S uw_X0 hE hP 0 0 rfl rfl (by decide) tw_1_148 rfl rfl dX0_dropNoNicknames_41 ?_
            refine lv_iload_n hx hb dX0_dropNoNicknames_44 rfl (lv_at hl 2 rfl) ?_
            refine lv_aload_n hx hb dX0_dropNoNicknames_45 rfl (lv_at hl 0 rfl) ?_
            refine zget S uw_X0 hE hP 0 0 rfl rfl (by decide) tw_1_148 rfl rfl dX0_dropNoNicknames_46 ?_
            refine lv_iload hx hb dX0_dropNoNicknames_49 (lv_at hl 3 rfl) ?_
            refine zlld hx hb hE hP 1 rfl (zz_in_ok hin_6) dX0_dropNoNicknames_51 ?_
            obtain ⟨hin_10, hf⟩ := zz_gd_use hf
            obtain ⟨t_codes_11, et_codes_11, hf⟩ := zz_let_use hf
            refine zlst hx hb hE hP hD hS 1 (wX0 c t0 tA_codes tA_partCodes tA_partShifts tA_partSums t_codes_11 t_size t_partCodes t_partShifts t_partSums t_partCount t_wantedDay t_divisorsWanted) rfl rfl et_codes_11 (zz_in_ok hin_10) dX0_dropNoNicknames_52 (fun H locs hP hD hS => ?_)
            obtain ⟨v3_12, ev3_12, hf⟩ := zz_let_use hf
            refine lv_iinc (v := v3_12) (lv' := [(3, .int v3_12), (0, .ref t0), (1, .long p1), (4, .int v4_3)]) hx hb dX0_dropNoNicknames_53 hl (k := 2) rfl (by rw [← ev3_12]; rfl) (by decide) rfl (fun ls hl => ?_)
            exact hJ_13 v3_12 t_codes_11 H locs ls hf hP hD hS (lv_sub hl [1, 2, 0, 3] rfl)
  exact hL_1 N (0 : Int32) (0 : Int32) t_codes s.heap [] ls hf hP hD hS (lv_sub hl [2, 3, 1, 0] rfl)
def f_X2_addPart_L2 (N : Nat) (k_1 : (Nat → Int32) → Option ((Nat → Int32))) (p1 : Int32) : Nat → (Int32) → (Nat → Int32) → Option ((Nat → Int32))
  | 0, _, _ => none
  | n_1 + 1, v2_2, t_fewest_3 => (if (400 : Int32) < v2_2 then (k_1 t_fewest_3) else zz_gd (zz_in v2_2 401) (zz_gd (zz_in (v2_2 - p1) 401) (zz_let (upd t_fewest_3 v2_2.toNatClampNeg (if ((t_fewest_3 (v2_2 - p1).toNatClampNeg) + (1 : Int32)) < (t_fewest_3 v2_2.toNatClampNeg) then ((t_fewest_3 (v2_2 - p1).toNatClampNeg) + (1 : Int32)) else (t_fewest_3 v2_2.toNatClampNeg))) (fun t_fewest_7 => zz_let (v2_2 + (1 : Int32)) (fun v2_8 => (f_X2_addPart_L2 N k_1 p1 n_1 v2_8 t_fewest_7))))))
theorem f_X2_addPart_L2_s (N : Nat) (k_1 : (Nat → Int32) → Option ((Nat → Int32))) (p1 : Int32) (n_1 : Nat) (v2_2 : Int32) (t_fewest_3 : Nat → Int32) : f_X2_addPart_L2 N k_1 p1 (n_1 + 1) v2_2 t_fewest_3 = (if (400 : Int32) < v2_2 then (k_1 t_fewest_3) else zz_gd (zz_in v2_2 401) (zz_gd (zz_in (v2_2 - p1) 401) (zz_let (upd t_fewest_3 v2_2.toNatClampNeg (if ((t_fewest_3 (v2_2 - p1).toNatClampNeg) + (1 : Int32)) < (t_fewest_3 v2_2.toNatClampNeg) then ((t_fewest_3 (v2_2 - p1).toNatClampNeg) + (1 : Int32)) else (t_fewest_3 v2_2.toNatClampNeg))) (fun t_fewest_7 => zz_let (v2_2 + (1 : Int32)) (fun v2_8 => (f_X2_addPart_L2 N k_1 p1 n_1 v2_8 t_fewest_7)))))) := rfl
def f_X2_addPart (N : Nat) (t_fewest : Nat → Int32) (p1 : Int32) : Option ((Nat → Int32)) := zz_let (fun (t_fewest_9 : Nat → Int32) => (some t_fewest_9)) (fun k_1 => f_X2_addPart_L2 N k_1 p1 N p1 t_fewest)
abbrev rm_X2_addPart : Room := { frames := 1, cells := 0, slots := 0, locals := 24 }
theorem mi_X2_addPart : zMI RX2 yX2_addPart cX2_addPart 3 none 1 := ⟨⟨tw_3_200, ts_X2_addPart, tw_1_5, tw_3_201⟩, by decide +kernel, by decide +kernel, by decide +kernel⟩
set_option maxHeartbeats 4000000 in
set_option maxRecDepth 100000 in
theorem k_X2_addPart (l : Launch) (D : va_G) (c : Nat → ClassId) (N : Nat) (t0 : Nat) (tA_fewest : Nat) (tA_tried : Nat) (t_fewest : Nat → Int32) (t_tried : Nat → Int32) (p1 : Int32) (o_t_fewest : Nat → Int32) (hf : f_X2_addPart N t_fewest p1 = some o_t_fewest) : zMWv l D c yX2_addPart cX2_addPart 3 none rm_X2_addPart (wX2 c t0 tA_fewest tA_tried t_fewest t_tried) (wX2 c t0 tA_fewest tA_tried o_t_fewest t_tried) [.ref t0, .int p1] := by
  intro sz
  refine zIW (by decide) (Nat.le_of_ble_eq_true rfl) ?_
  intro p e s m args below meth c0 Q A hAe hQ hx hb hr hlk hml hts hown hP hE hD hS hA hsz hmn hX ls hl
  rw [← hAe] at hQ
  have S : CallFix p m c0 cX2_addPart 3 s args zT RX2 := ⟨hx, hb, hml, hown, hts⟩
  have hl : lv_has ls 3 [(0, .ref t0), (1, .int p1)] := hl
  unfold f_X2_addPart at hf
  refine lv_iload_n hx hb dX2_addPart_0 rfl (lv_at hl 1 rfl) ?_
  refine lv_istore_n (lv' := [(2, .int p1), (0, .ref t0), (1, .int p1)]) hx hb dX2_addPart_1 rfl hl (by decide) rfl (fun ls hl => ?_)
  obtain ⟨k_1, hk_1, hf⟩ := zz_let_use hf
  have hX_1 : ∀ (t_fewest_9 : Nat → Int32) (H : Heap) (locs : List Loc) (ls : Array Slot), k_1 t_fewest_9 = some o_t_fewest → va_P D vwCl (wX2 c t0 tA_fewest tA_tried t_fewest_9 t_tried) H → va_D A (wX2 c t0 tA_fewest tA_tried t_fewest_9 t_tried) → va_S A s.heap H locs → lv_has ls 3 [] → W p l e rm_X2_addPart s m args below meth c0 H locs 0 0 Q (F0 m 40 ls []) := by
    intro t_fewest_9 H locs ls hf hP hD hS hl
    subst hk_1
    cases hf
    exact zRWv hQ hx hb hr hlk hP hD hS dX2_addPart_40
  have hL_1 : ∀ (n_1 : Nat) (v2_2 : Int32) (t_fewest_3 : Nat → Int32) (H : Heap) (locs : List Loc) (ls : Array Slot), f_X2_addPart_L2 N k_1 p1 n_1 v2_2 t_fewest_3 = some o_t_fewest → va_P D vwCl (wX2 c t0 tA_fewest tA_tried t_fewest_3 t_tried) H → va_D A (wX2 c t0 tA_fewest tA_tried t_fewest_3 t_tried) → va_S A s.heap H locs → lv_has ls 3 [(0, .ref t0), (1, .int p1), (2, .int v2_2)] → W p l e rm_X2_addPart s m args below meth c0 H locs 0 0 Q (F0 m 2 ls []) := by
    intro n_1
    induction n_1 with
    | zero => intro v2_2 t_fewest_3 H locs ls hf hP hD hS hl; exact zz_none hf
    | succ n_1 ih_1 =>
      intro v2_2 t_fewest_3 H locs ls hf hP hD hS hl
      rw [f_X2_addPart_L2_s] at hf
      refine lv_iload_n hx hb dX2_addPart_2 rfl (lv_at hl 2 rfl) ?_
      refine lv_sipush (v := (400 : Int32)) hx hb dX2_addPart_3 (by decide) ?_
      refine lv_icmp_gt (tgt := 40) hx hb dX2_addPart_6 (by decide) (fun hc_4 => ?_) (fun hc_4 => ?_)
      · have hf := zz_it hf hc_4
        exact hX_1 t_fewest_3 H locs ls hf hP hD hS (lv_sub hl [] rfl)
      · have hf := zz_if hf hc_4
        refine lv_aload_n hx hb dX2_addPart_9 rfl (lv_at hl 0 rfl) ?_
        refine zget S uw_X2 hE hP 0 0 rfl rfl (by decide) tw_1_181 rfl rfl dX2_addPart_10 ?_
        refine lv_iload_n hx hb dX2_addPart_13 rfl (lv_at hl 2 rfl) ?_
        refine lv_aload_n hx hb dX2_addPart_14 rfl (lv_at hl 0 rfl) ?_
        refine zget S uw_X2 hE hP 0 0 rfl rfl (by decide) tw_1_181 rfl rfl dX2_addPart_15 ?_
        refine lv_iload_n hx hb dX2_addPart_18 rfl (lv_at hl 2 rfl) ?_
        obtain ⟨hin_5, hf⟩ := zz_gd_use hf
        refine zild hx hb hE hP 1 rfl (zz_in_ok hin_5) dX2_addPart_19 ?_
        refine lv_aload_n hx hb dX2_addPart_20 rfl (lv_at hl 0 rfl) ?_
        refine zget S uw_X2 hE hP 0 0 rfl rfl (by decide) tw_1_181 rfl rfl dX2_addPart_21 ?_
        refine lv_iload_n hx hb dX2_addPart_24 rfl (lv_at hl 2 rfl) ?_
        refine lv_iload_n hx hb dX2_addPart_25 rfl (lv_at hl 1 rfl) ?_
        refine lv_isub hx hb dX2_addPart_26 ?_
        obtain ⟨hin_6, hf⟩ := zz_gd_use hf
        refine zild hx hb hE hP 1 rfl (zz_in_ok hin_6) dX2_addPart_27 ?_
        refine lv_iconst (v := (1 : Int32)) hx hb dX2_addPart_28 (by decide) ?_
        refine lv_iadd hx hb dX2_addPart_29 ?_
        refine va_mmin hx hb (hml.trans hl.1.symm) hown (hts _ tw_3_202) (hts _ tw_3_203) (hts _ tw_1_15) (hts _ tw_3_204) (Nat.le_of_ble_eq_true rfl) (Nat.le_of_ble_eq_true rfl) (Nat.zero_le _) (Nat.zero_le _) dX2_addPart_30 ?_
        obtain ⟨t_fewest_7, et_fewest_7, hf⟩ := zz_let_use hf
        refine zist hx hb hE hP hD hS 1 (wX2 c t0 tA_fewest tA_tried t_fewest_7 t_tried) rfl rfl et_fewest_7 (zz_in_ok hin_5) dX2_addPart_33 (fun H locs hP hD hS => ?_)
        obtain ⟨v2_8, ev2_8, hf⟩ := zz_let_use hf
        refine lv_iinc (v := v2_8) (lv' := [(2, .int v2_8), (0, .ref t0), (1, .int p1)]) hx hb dX2_addPart_34 hl (k := 2) rfl (by rw [← ev2_8]; rfl) (by decide) rfl (fun ls hl => ?_)
        refine lv_goto (tgt := 2) hx hb dX2_addPart_37 (by decide) ?_
        exact ih_1 v2_8 t_fewest_7 H locs ls hf hP hD hS (lv_sub hl [1, 2, 0] rfl)
  exact hL_1 N p1 t_fewest s.heap [] ls hf hP hD hS (lv_sub hl [1, 2, 0] rfl)
def f_X2_measure_L24 (N : Nat) (k_9 : (Nat → Int32) → Option ((Nat → Int32))) (w_numbers : Nat → Int32) (w_syllables : Nat → Int64) (w_syllableCount : Int32) : Nat → (Int32) → (Nat → Int32) → Option ((Nat → Int32))
  | 0, _, _ => none
  | n_9 + 1, v2_10, t_fewest_11 => (if w_syllableCount ≤ v2_10 then (k_9 t_fewest_11) else zz_gd (zz_in v2_10 10) (zz_b1 (f_X5_sumInNames N w_numbers (w_syllables v2_10.toNatClampNeg)) (fun r_14 => zz_let (fun (t_fewest_18 : Nat → Int32) => zz_let (v2_10 + (1 : Int32)) (fun v2_19 => (f_X2_measure_L24 N k_9 w_numbers w_syllables w_syllableCount n_9 v2_19 t_fewest_18))) (fun k_17 => (if r_14 ≤ 0 then (k_17 t_fewest_11) else zz_b1 (f_X2_addPart N t_fewest_11 r_14) (fun t_fewest_16 => (k_17 t_fewest_16)))))))
theorem f_X2_measure_L24_s (N : Nat) (k_9 : (Nat → Int32) → Option ((Nat → Int32))) (w_numbers : Nat → Int32) (w_syllables : Nat → Int64) (w_syllableCount : Int32) (n_9 : Nat) (v2_10 : Int32) (t_fewest_11 : Nat → Int32) : f_X2_measure_L24 N k_9 w_numbers w_syllables w_syllableCount (n_9 + 1) v2_10 t_fewest_11 = (if w_syllableCount ≤ v2_10 then (k_9 t_fewest_11) else zz_gd (zz_in v2_10 10) (zz_b1 (f_X5_sumInNames N w_numbers (w_syllables v2_10.toNatClampNeg)) (fun r_14 => zz_let (fun (t_fewest_18 : Nat → Int32) => zz_let (v2_10 + (1 : Int32)) (fun v2_19 => (f_X2_measure_L24 N k_9 w_numbers w_syllables w_syllableCount n_9 v2_19 t_fewest_18))) (fun k_17 => (if r_14 ≤ 0 then (k_17 t_fewest_11) else zz_b1 (f_X2_addPart N t_fewest_11 r_14) (fun t_fewest_16 => (k_17 t_fewest_16))))))) := rfl
def f_X2_measure_L2 (N : Nat) (k_1 : (Nat → Int32) → Option ((Nat → Int32)))  : Nat → (Int32) → (Nat → Int32) → Option ((Nat → Int32))
  | 0, _, _ => none
  | n_1 + 1, v2_2, t_fewest_3 => (if (400 : Int32) < v2_2 then (k_1 t_fewest_3) else zz_gd (zz_in v2_2 401) (zz_let (upd t_fewest_3 v2_2.toNatClampNeg (4 : Int32)) (fun t_fewest_6 => zz_let (v2_2 + (1 : Int32)) (fun v2_7 => (f_X2_measure_L2 N k_1 n_1 v2_7 t_fewest_6)))))
theorem f_X2_measure_L2_s (N : Nat) (k_1 : (Nat → Int32) → Option ((Nat → Int32)))  (n_1 : Nat) (v2_2 : Int32) (t_fewest_3 : Nat → Int32) : f_X2_measure_L2 N k_1 (n_1 + 1) v2_2 t_fewest_3 = (if (400 : Int32) < v2_2 then (k_1 t_fewest_3) else zz_gd (zz_in v2_2 401) (zz_let (upd t_fewest_3 v2_2.toNatClampNeg (4 : Int32)) (fun t_fewest_6 => zz_let (v2_2 + (1 : Int32)) (fun v2_7 => (f_X2_measure_L2 N k_1 n_1 v2_7 t_fewest_6))))) := rfl
def f_X2_measure (N : Nat) (t_fewest : Nat → Int32) (w_numbers : Nat → Int32) (w_syllables : Nat → Int64) (w_syllableCount : Int32) : Option ((Nat → Int32)) := zz_let (fun (t_fewest_8 : Nat → Int32) => zz_let (fun (t_fewest_20 : Nat → Int32) => (some t_fewest_20)) (fun k_9 => f_X2_measure_L24 N k_9 w_numbers w_syllables w_syllableCount N (0 : Int32) t_fewest_8)) (fun k_1 => f_X2_measure_L2 N k_1 N (1 : Int32) t_fewest)
abbrev rm_X2_measure : Room := { frames := 3, cells := 0, slots := 0, locals := 74 }
theorem mi_X2_measure : zMI RX2 yX2_measure cX2_measure 4 none 1 := ⟨⟨tw_3_194, tw_3_195, tw_1_5, tw_3_196⟩, by decide +kernel, by decide +kernel, by decide +kernel⟩
set_option maxHeartbeats 4000000 in
set_option maxRecDepth 100000 in
theorem k_X2_measure (l : Launch) (D : va_G) (c : Nat → ClassId) (N : Nat) (t0 : Nat) (tA_fewest : Nat) (tA_tried : Nat) (t_fewest : Nat → Int32) (t_tried : Nat → Int32) (w0 : Nat) (wA_numbers : Nat) (wA_syllables : Nat) (wA_days : Nat) (wA_words : Nat) (wA_parents : Nat) (wA_otherParents : Nat) (wA_kinds : Nat) (wA_hopeDays : Nat) (wA_hopeTenths : Nat) (w_numbers : Nat → Int32) (w_syllables : Nat → Int64) (w_syllableCount : Int32) (w_days : Nat → Int32) (w_words : Nat → Int64) (w_parents : Nat → Int32) (w_otherParents : Nat → Int32) (w_kinds : Nat → Int32) (w_personCount : Int32) (w_hopeDays : Nat → Int32) (w_hopeTenths : Nat → Int32) (w_hopeCount : Int32) (w_degreesTold : Int32)  (o_t_fewest : Nat → Int32) (hf : f_X2_measure N t_fewest w_numbers w_syllables w_syllableCount = some o_t_fewest) : zMWv l D c yX2_measure cX2_measure 4 none rm_X2_measure (wX2 c t0 tA_fewest tA_tried t_fewest t_tried ++ wX5 c w0 wA_numbers wA_syllables wA_days wA_words wA_parents wA_otherParents wA_kinds wA_hopeDays wA_hopeTenths w_numbers w_syllables w_syllableCount w_days w_words w_parents w_otherParents w_kinds w_personCount w_hopeDays w_hopeTenths w_hopeCount w_degreesTold) (wX2 c t0 tA_fewest tA_tried o_t_fewest t_tried ++ wX5 c w0 wA_numbers wA_syllables wA_days wA_words wA_parents wA_otherParents wA_kinds wA_hopeDays wA_hopeTenths w_numbers w_syllables w_syllableCount w_days w_words w_parents w_otherParents w_kinds w_personCount w_hopeDays w_hopeTenths w_hopeCount w_degreesTold) [.ref t0, .ref w0] := by
  intro sz
  refine zIW (by decide) (Nat.le_of_ble_eq_true rfl) ?_
  intro p e s m args below meth c0 Q A hAe hQ hx hb hr hlk hml hts hown hP hE hD hS hA hsz hmn hX ls hl
  rw [← hAe] at hQ
  have S : CallFix p m c0 cX2_measure 4 s args zT RX2 := ⟨hx, hb, hml, hown, hts⟩
  have hl : lv_has ls 4 [(0, .ref t0), (1, .ref w0)] := hl
  unfold f_X2_measure at hf
  refine lv_iconst (v := (1 : Int32)) hx hb dX2_measure_0 (by decide) ?_
  refine lv_istore_n (lv' := [(2, .int (1 : Int32)), (0, .ref t0), (1, .ref w0)]) hx hb dX2_measure_1 rfl hl (by decide) rfl (fun ls hl => ?_)
  obtain ⟨k_1, hk_1, hf⟩ := zz_let_use hf
  have hX_1 : ∀ (t_fewest_8 : Nat → Int32) (H : Heap) (locs : List Loc) (ls : Array Slot), k_1 t_fewest_8 = some o_t_fewest → va_P D vwCl (wX2 c t0 tA_fewest tA_tried t_fewest_8 t_tried ++ wX5 c w0 wA_numbers wA_syllables wA_days wA_words wA_parents wA_otherParents wA_kinds wA_hopeDays wA_hopeTenths w_numbers w_syllables w_syllableCount w_days w_words w_parents w_otherParents w_kinds w_personCount w_hopeDays w_hopeTenths w_hopeCount w_degreesTold) H → va_D A (wX2 c t0 tA_fewest tA_tried t_fewest_8 t_tried ++ wX5 c w0 wA_numbers wA_syllables wA_days wA_words wA_parents wA_otherParents wA_kinds wA_hopeDays wA_hopeTenths w_numbers w_syllables w_syllableCount w_days w_words w_parents w_otherParents w_kinds w_personCount w_hopeDays w_hopeTenths w_hopeCount w_degreesTold) → va_S A s.heap H locs → lv_has ls 4 [(0, .ref t0), (1, .ref w0)] → W p l e rm_X2_measure s m args below meth c0 H locs 0 0 Q (F0 m 22 ls []) := by
    intro t_fewest_8 H locs ls hf hP hD hS hl
    subst hk_1
    refine lv_iconst (v := (0 : Int32)) hx hb dX2_measure_22 (by decide) ?_
    refine lv_istore_n (lv' := [(2, .int (0 : Int32)), (0, .ref t0), (1, .ref w0)]) hx hb dX2_measure_23 rfl hl (by decide) rfl (fun ls hl => ?_)
    obtain ⟨k_9, hk_9, hf⟩ := zz_let_use hf
    have hX_9 : ∀ (t_fewest_20 : Nat → Int32) (H : Heap) (locs : List Loc) (ls : Array Slot), k_9 t_fewest_20 = some o_t_fewest → va_P D vwCl (wX2 c t0 tA_fewest tA_tried t_fewest_20 t_tried ++ wX5 c w0 wA_numbers wA_syllables wA_days wA_words wA_parents wA_otherParents wA_kinds wA_hopeDays wA_hopeTenths w_numbers w_syllables w_syllableCount w_days w_words w_parents w_otherParents w_kinds w_personCount w_hopeDays w_hopeTenths w_hopeCount w_degreesTold) H → va_D A (wX2 c t0 tA_fewest tA_tried t_fewest_20 t_tried ++ wX5 c w0 wA_numbers wA_syllables wA_days wA_words wA_parents wA_otherParents wA_kinds wA_hopeDays wA_hopeTenths w_numbers w_syllables w_syllableCount w_days w_words w_parents w_otherParents w_kinds w_personCount w_hopeDays w_hopeTenths w_hopeCount w_degreesTold) → va_S A s.heap H locs → lv_has ls 4 [] → W p l e rm_X2_measure s m args below meth c0 H locs 0 0 Q (F0 m 58 ls []) := by
      intro t_fewest_20 H locs ls hf hP hD hS hl
      subst hk_9
      cases hf
      exact zRWv hQ hx hb hr hlk hP hD hS dX2_measure_58
    have hL_9 : ∀ (n_9 : Nat) (v2_10 : Int32) (t_fewest_11 : Nat → Int32) (H : Heap) (locs : List Loc) (ls : Array Slot), f_X2_measure_L24 N k_9 w_numbers w_syllables w_syllableCount n_9 v2_10 t_fewest_11 = some o_t_fewest → va_P D vwCl (wX2 c t0 tA_fewest tA_tried t_fewest_11 t_tried ++ wX5 c w0 wA_numbers wA_syllables wA_days wA_words wA_parents wA_otherParents wA_kinds wA_hopeDays wA_hopeTenths w_numbers w_syllables w_syllableCount w_days w_words w_parents w_otherParents w_kinds w_personCount w_hopeDays w_hopeTenths w_hopeCount w_degreesTold) H → va_D A (wX2 c t0 tA_fewest tA_tried t_fewest_11 t_tried ++ wX5 c w0 wA_numbers wA_syllables wA_days wA_words wA_parents wA_otherParents wA_kinds wA_hopeDays wA_hopeTenths w_numbers w_syllables w_syllableCount w_days w_words w_parents w_otherParents w_kinds w_personCount w_hopeDays w_hopeTenths w_hopeCount w_degreesTold) → va_S A s.heap H locs → lv_has ls 4 [(0, .ref t0), (1, .ref w0), (2, .int v2_10)] → W p l e rm_X2_measure s m args below meth c0 H locs 0 0 Q (F0 m 24 ls []) := by
      intro n_9
      induction n_9 with
      | zero => intro v2_10 t_fewest_11 H locs ls hf hP hD hS hl; exact zz_none hf
      | succ n_9 ih_9 =>
        intro v2_10 t_fewest_11 H locs ls hf hP hD hS hl
        rw [f_X2_measure_L24_s] at hf
        refine lv_iload_n hx hb dX2_measure_24 rfl (lv_at hl 2 rfl) ?_
        refine lv_aload_n hx hb dX2_measure_25 rfl (lv_at hl 1 rfl) ?_
        refine zget S uw_X5 hE hP 3 2 rfl rfl (by decide) tw_1_37 rfl rfl dX2_measure_26 ?_
        refine lv_icmp_ge (tgt := 58) hx hb dX2_measure_29 (by decide) (fun hc_12 => ?_) (fun hc_12 => ?_)
        · have hf := zz_it hf hc_12
          exact hX_9 t_fewest_11 H locs ls hf hP hD hS (lv_sub hl [] rfl)
        · have hf := zz_if hf hc_12
          refine lv_aload_n hx hb dX2_measure_32 rfl (lv_at hl 1 rfl) ?_
          refine lv_aload_n hx hb dX2_measure_33 rfl (lv_at hl 1 rfl) ?_
          refine zget S uw_X5 hE hP 3 1 rfl rfl (by decide) tw_1_34 rfl rfl dX2_measure_34 ?_
          refine lv_iload_n hx hb dX2_measure_37 rfl (lv_at hl 2 rfl) ?_
          obtain ⟨hin_13, hf⟩ := zz_gd_use hf
          refine zlld hx hb hE hP 5 rfl (zz_in_ok hin_13) dX2_measure_38 ?_
          obtain ⟨r_14, he_14, hf⟩ := zz_b1_use hf
          refine zcVi (As := [.long (w_syllables v2_10.toNatClampNeg)]) (rest := []) S (k_X5_sumInNames l D c N w0 wA_numbers wA_syllables wA_days wA_words wA_parents wA_otherParents wA_kinds wA_hopeDays wA_hopeTenths w_numbers w_syllables w_syllableCount w_days w_words w_parents w_otherParents w_kinds w_personCount w_hopeDays w_hopeTenths w_hopeCount w_degreesTold (w_syllables v2_10.toNatClampNeg) r_14 he_14) mi_X5_sumInNames tw_3_197 ⟨(Nat.le_of_ble_eq_true rfl), (Nat.le_of_ble_eq_true rfl)⟩ ⟨rfl, rfl⟩ (zpsub (is := [3, 4, 5, 6, 7, 8, 9, 10, 11, 12]) hP rfl) hE hX hS (ci := 5) rfl rfl (q0 := 0) rfl rfl hl.1 rfl (Nat.le_of_ble_eq_true rfl) dX2_measure_39 ⟨(Nat.le_of_ble_eq_true rfl), (Nat.le_of_ble_eq_true rfl)⟩ ?_
          refine lv_istore_n (lv' := [(3, .int r_14), (0, .ref t0), (1, .ref w0), (2, .int v2_10)]) hx hb dX2_measure_42 rfl hl (by decide) rfl (fun ls hl => ?_)
          refine lv_iload_n hx hb dX2_measure_43 rfl (lv_at hl 0 rfl) ?_
          obtain ⟨k_17, hk_17, hf⟩ := zz_let_use hf
          have hJ_17 : ∀ (t_fewest_18 : Nat → Int32) (H : Heap) (locs : List Loc) (ls : Array Slot), k_17 t_fewest_18 = some o_t_fewest → va_P D vwCl (wX2 c t0 tA_fewest tA_tried t_fewest_18 t_tried ++ wX5 c w0 wA_numbers wA_syllables wA_days wA_words wA_parents wA_otherParents wA_kinds wA_hopeDays wA_hopeTenths w_numbers w_syllables w_syllableCount w_days w_words w_parents w_otherParents w_kinds w_personCount w_hopeDays w_hopeTenths w_hopeCount w_degreesTold) H → va_D A (wX2 c t0 tA_fewest tA_tried t_fewest_18 t_tried ++ wX5 c w0 wA_numbers wA_syllables wA_days wA_words wA_parents wA_otherParents wA_kinds wA_hopeDays wA_hopeTenths w_numbers w_syllables w_syllableCount w_days w_words w_parents w_otherParents w_kinds w_personCount w_hopeDays w_hopeTenths w_hopeCount w_degreesTold) → va_S A s.heap H locs → lv_has ls 4 [(0, .ref t0), (1, .ref w0), (2, .int v2_10)] → W p l e rm_X2_measure s m args below meth c0 H locs 0 0 Q (F0 m 52 ls []) := by
            intro t_fewest_18 H locs ls hf hP hD hS hl
            subst hk_17
            obtain ⟨v2_19, ev2_19, hf⟩ := zz_let_use hf
            refine lv_iinc (v := v2_19) (lv' := [(2, .int v2_19), (0, .ref t0), (1, .ref w0)]) hx hb dX2_measure_52 hl (k := 2) rfl (by rw [← ev2_19]; rfl) (by decide) rfl (fun ls hl => ?_)
            refine lv_goto (tgt := 24) hx hb dX2_measure_55 (by decide) ?_
            exact ih_9 v2_19 t_fewest_18 H locs ls hf hP hD hS (lv_sub hl [1, 2, 0] rfl)
          refine lv_if_le (tgt := 52) hx hb dX2_measure_44 (by decide) (fun hc_15 => ?_) (fun hc_15 => ?_)
          · have hf := zz_it hf hc_15
            exact hJ_17 t_fewest_11 H locs ls hf hP hD hS (lv_sub hl [1, 2, 3] rfl)
          · have hf := zz_if hf hc_15
            refine lv_aload_n hx hb dX2_measure_47 rfl (lv_at hl 1 rfl) ?_
            refine lv_iload_n hx hb dX2_measure_48 rfl (lv_at hl 0 rfl) ?_
            obtain ⟨t_fewest_16, he_16, hf⟩ := zz_b1_use hf
            refine zwVv (As := [.int r_14]) (rest := []) (wr := (wX5 c w0 wA_numbers wA_syllables wA_days wA_words wA_parents wA_otherParents wA_kinds wA_hopeDays wA_hopeTenths w_numbers w_syllables w_syllableCount w_days w_words w_parents w_otherParents w_kinds w_personCount w_hopeDays w_hopeTenths w_hopeCount w_degreesTold)) (wX2 c t0 tA_fewest tA_tried t_fewest_16 t_tried ++ wX5 c w0 wA_numbers wA_syllables wA_days wA_words wA_parents wA_otherParents wA_kinds wA_hopeDays wA_hopeTenths w_numbers w_syllables w_syllableCount w_days w_words w_parents w_otherParents w_kinds w_personCount w_hopeDays w_hopeTenths w_hopeCount w_degreesTold) [0, 1, 2] [3, 4, 5, 6, 7, 8, 9, 10, 11, 12] [10, 11, 12, 0, 1, 2, 3, 4, 5, 6, 7, 8, 9] S (k_X2_addPart l D c N t0 tA_fewest tA_tried t_fewest_11 t_tried r_14 t_fewest_16 he_16) mi_X2_addPart tw_3_198 ⟨(Nat.le_of_ble_eq_true rfl), (Nat.le_of_ble_eq_true rfl)⟩ ⟨rfl, rfl⟩ hP hD hS hA rfl rfl rfl rfl (by decide) rfl rfl hE hX (ci := 2) rfl rfl (q0 := 0) rfl rfl hl.1 rfl (Nat.le_of_ble_eq_true rfl) dX2_measure_49 ⟨(Nat.le_of_ble_eq_true rfl), (Nat.le_of_ble_eq_true rfl)⟩ (fun H locs hP hD hS => ?_)
            exact hJ_17 t_fewest_16 H locs ls hf hP hD hS (lv_sub hl [1, 2, 3] rfl)
    exact hL_9 N (0 : Int32) t_fewest_8 H locs ls hf hP hD hS (lv_sub hl [1, 2, 0] rfl)
  have hL_1 : ∀ (n_1 : Nat) (v2_2 : Int32) (t_fewest_3 : Nat → Int32) (H : Heap) (locs : List Loc) (ls : Array Slot), f_X2_measure_L2 N k_1 n_1 v2_2 t_fewest_3 = some o_t_fewest → va_P D vwCl (wX2 c t0 tA_fewest tA_tried t_fewest_3 t_tried ++ wX5 c w0 wA_numbers wA_syllables wA_days wA_words wA_parents wA_otherParents wA_kinds wA_hopeDays wA_hopeTenths w_numbers w_syllables w_syllableCount w_days w_words w_parents w_otherParents w_kinds w_personCount w_hopeDays w_hopeTenths w_hopeCount w_degreesTold) H → va_D A (wX2 c t0 tA_fewest tA_tried t_fewest_3 t_tried ++ wX5 c w0 wA_numbers wA_syllables wA_days wA_words wA_parents wA_otherParents wA_kinds wA_hopeDays wA_hopeTenths w_numbers w_syllables w_syllableCount w_days w_words w_parents w_otherParents w_kinds w_personCount w_hopeDays w_hopeTenths w_hopeCount w_degreesTold) → va_S A s.heap H locs → lv_has ls 4 [(0, .ref t0), (1, .ref w0), (2, .int v2_2)] → W p l e rm_X2_measure s m args below meth c0 H locs 0 0 Q (F0 m 2 ls []) := by
    intro n_1
    induction n_1 with
    | zero => intro v2_2 t_fewest_3 H locs ls hf hP hD hS hl; exact zz_none hf
    | succ n_1 ih_1 =>
      intro v2_2 t_fewest_3 H locs ls hf hP hD hS hl
      rw [f_X2_measure_L2_s] at hf
      refine lv_iload_n hx hb dX2_measure_2 rfl (lv_at hl 2 rfl) ?_
      refine lv_sipush (v := (400 : Int32)) hx hb dX2_measure_3 (by decide) ?_
      refine lv_icmp_gt (tgt := 22) hx hb dX2_measure_6 (by decide) (fun hc_4 => ?_) (fun hc_4 => ?_)
      · have hf := zz_it hf hc_4
        exact hX_1 t_fewest_3 H locs ls hf hP hD hS (lv_sub hl [0, 1] rfl)
      · have hf := zz_if hf hc_4
        refine lv_aload_n hx hb dX2_measure_9 rfl (lv_at hl 0 rfl) ?_
        refine zget S uw_X2 hE hP 0 0 rfl rfl (by decide) tw_1_181 rfl rfl dX2_measure_10 ?_
        refine lv_iload_n hx hb dX2_measure_13 rfl (lv_at hl 2 rfl) ?_
        refine lv_iconst (v := (4 : Int32)) hx hb dX2_measure_14 (by decide) ?_
        obtain ⟨hin_5, hf⟩ := zz_gd_use hf
        obtain ⟨t_fewest_6, et_fewest_6, hf⟩ := zz_let_use hf
        refine zist hx hb hE hP hD hS 1 (wX2 c t0 tA_fewest tA_tried t_fewest_6 t_tried ++ wX5 c w0 wA_numbers wA_syllables wA_days wA_words wA_parents wA_otherParents wA_kinds wA_hopeDays wA_hopeTenths w_numbers w_syllables w_syllableCount w_days w_words w_parents w_otherParents w_kinds w_personCount w_hopeDays w_hopeTenths w_hopeCount w_degreesTold) rfl rfl et_fewest_6 (zz_in_ok hin_5) dX2_measure_15 (fun H locs hP hD hS => ?_)
        obtain ⟨v2_7, ev2_7, hf⟩ := zz_let_use hf
        refine lv_iinc (v := v2_7) (lv' := [(2, .int v2_7), (0, .ref t0), (1, .ref w0)]) hx hb dX2_measure_16 hl (k := 2) rfl (by rw [← ev2_7]; rfl) (by decide) rfl (fun ls hl => ?_)
        refine lv_goto (tgt := 2) hx hb dX2_measure_19 (by decide) ?_
        exact ih_1 v2_7 t_fewest_6 H locs ls hf hP hD hS (lv_sub hl [1, 2, 0] rfl)
  exact hL_1 N (1 : Int32) t_fewest s.heap [] ls hf hP hD hS (lv_sub hl [1, 2, 0] rfl)
def f_X2_daysWithout_L5 (N : Nat) (k_1 : (Int32) → Option (Int32)) (t_fewest : Nat → Int32) (p2 : Int32) : Nat → (Int32) → (Int32) → Option (Int32)
  | 0, _, _ => none
  | n_1 + 1, v3_2, v4_3 => (if p2 < v4_3 then (k_1 v3_2) else zz_gd (zz_in v4_3 401) (zz_let (fun (v3_9 : Int32) => zz_let (v4_3 + (1 : Int32)) (fun v4_10 => (f_X2_daysWithout_L5 N k_1 t_fewest p2 n_1 v3_9 v4_10))) (fun k_8 => (if (t_fewest v4_3.toNatClampNeg) ≤ (3 : Int32) then (k_8 v3_2) else zz_let (v3_2 + (1 : Int32)) (fun v3_7 => (k_8 v3_7))))))
theorem f_X2_daysWithout_L5_s (N : Nat) (k_1 : (Int32) → Option (Int32)) (t_fewest : Nat → Int32) (p2 : Int32) (n_1 : Nat) (v3_2 : Int32) (v4_3 : Int32) : f_X2_daysWithout_L5 N k_1 t_fewest p2 (n_1 + 1) v3_2 v4_3 = (if p2 < v4_3 then (k_1 v3_2) else zz_gd (zz_in v4_3 401) (zz_let (fun (v3_9 : Int32) => zz_let (v4_3 + (1 : Int32)) (fun v4_10 => (f_X2_daysWithout_L5 N k_1 t_fewest p2 n_1 v3_9 v4_10))) (fun k_8 => (if (t_fewest v4_3.toNatClampNeg) ≤ (3 : Int32) then (k_8 v3_2) else zz_let (v3_2 + (1 : Int32)) (fun v3_7 => (k_8 v3_7)))))) := rfl
def f_X2_daysWithout (N : Nat) (t_fewest : Nat → Int32) (p1 : Int32) (p2 : Int32) : Option (Int32) := zz_let (fun (v3_11 : Int32) => (some v3_11)) (fun k_1 => f_X2_daysWithout_L5 N k_1 t_fewest p2 N (0 : Int32) p1)
abbrev rm_X2_daysWithout : Room := { frames := 0, cells := 0, slots := 0, locals := 0 }
theorem mi_X2_daysWithout : zMI RX2 yX2_daysWithout cX2_daysWithout 5 (some .int) 2 := ⟨⟨tw_3_206, tw_3_207, tw_1_5, tw_3_208⟩, by decide +kernel, by decide +kernel, by decide +kernel⟩
set_option maxHeartbeats 4000000 in
set_option maxRecDepth 100000 in
theorem k_X2_daysWithout (l : Launch) (D : va_G) (c : Nat → ClassId) (N : Nat) (t0 : Nat) (tA_fewest : Nat) (tA_tried : Nat) (t_fewest : Nat → Int32) (t_tried : Nat → Int32) (p1 : Int32) (p2 : Int32) (o : Int32) (hf : f_X2_daysWithout N t_fewest p1 p2 = some o) : zMPi l D c yX2_daysWithout cX2_daysWithout 5 (some .int) rm_X2_daysWithout (wX2 c t0 tA_fewest tA_tried t_fewest t_tried) [.ref t0, .int p1, .int p2] o := by
  refine zIP (by decide) (Nat.le_of_ble_eq_true rfl) ?_
  intro p e s m args below meth c0 Q hQ hx hb hr hlk hml hts hown hP hE hX hS ls hl
  have S : CallFix p m c0 cX2_daysWithout 5 s args zT RX2 := ⟨hx, hb, hml, hown, hts⟩
  have hl : lv_has ls 5 [(0, .ref t0), (1, .int p1), (2, .int p2)] := hl
  unfold f_X2_daysWithout at hf
  refine lv_iconst (v := (0 : Int32)) hx hb dX2_daysWithout_0 (by decide) ?_
  refine lv_istore_n (lv' := [(3, .int (0 : Int32)), (0, .ref t0), (1, .int p1), (2, .int p2)]) hx hb dX2_daysWithout_1 rfl hl (by decide) rfl (fun ls hl => ?_)
  refine lv_iload_n hx hb dX2_daysWithout_2 rfl (lv_at hl 2 rfl) ?_
  refine lv_istore (lv' := [(4, .int p1), (3, .int (0 : Int32)), (0, .ref t0), (1, .int p1), (2, .int p2)]) hx hb dX2_daysWithout_3 hl (by decide) rfl (fun ls hl => ?_)
  obtain ⟨k_1, hk_1, hf⟩ := zz_let_use hf
  have hX_1 : ∀ (v3_11 : Int32) (ls : Array Slot), k_1 v3_11 = some o → lv_has ls 5 [(3, .int v3_11)] → W p l e rm_X2_daysWithout s m args below meth c0 s.heap [] 0 0 Q (F0 m 31 ls []) := by
    intro v3_11 ls hf hl
    subst hk_1
    refine lv_iload_n hx hb dX2_daysWithout_31 rfl (lv_at hl 0 rfl) ?_
    exact zRPi hQ hx hb hr hlk (Option.some.inj hf) dX2_daysWithout_32
  have hL_1 : ∀ (n_1 : Nat) (v3_2 : Int32) (v4_3 : Int32) (ls : Array Slot), f_X2_daysWithout_L5 N k_1 t_fewest p2 n_1 v3_2 v4_3 = some o → lv_has ls 5 [(0, .ref t0), (2, .int p2), (3, .int v3_2), (4, .int v4_3)] → W p l e rm_X2_daysWithout s m args below meth c0 s.heap [] 0 0 Q (F0 m 5 ls []) := by
    intro n_1
    induction n_1 with
    | zero => intro v3_2 v4_3 ls hf hl; exact zz_none hf
    | succ n_1 ih_1 =>
      intro v3_2 v4_3 ls hf hl
      rw [f_X2_daysWithout_L5_s] at hf
      refine lv_iload hx hb dX2_daysWithout_5 (lv_at hl 3 rfl) ?_
      refine lv_iload_n hx hb dX2_daysWithout_7 rfl (lv_at hl 1 rfl) ?_
      refine lv_icmp_gt (tgt := 31) hx hb dX2_daysWithout_8 (by decide) (fun hc_4 => ?_) (fun hc_4 => ?_)
      · have hf := zz_it hf hc_4
        exact hX_1 v3_2 ls hf (lv_sub hl [2] rfl)
      · have hf := zz_if hf hc_4
        refine lv_aload_n hx hb dX2_daysWithout_11 rfl (lv_at hl 0 rfl) ?_
        refine zget S uw_X2 hE hP 0 0 rfl rfl (by decide) tw_1_181 rfl rfl dX2_daysWithout_12 ?_
        refine lv_iload hx hb dX2_daysWithout_15 (lv_at hl 3 rfl) ?_
        obtain ⟨hin_5, hf⟩ := zz_gd_use hf
        refine zild hx hb hE hP 1 rfl (zz_in_ok hin_5) dX2_daysWithout_17 ?_
        refine lv_iconst (v := (3 : Int32)) hx hb dX2_daysWithout_18 (by decide) ?_
        obtain ⟨k_8, hk_8, hf⟩ := zz_let_use hf
        have hJ_8 : ∀ (v3_9 : Int32) (ls : Array Slot), k_8 v3_9 = some o → lv_has ls 5 [(0, .ref t0), (2, .int p2), (3, .int v3_9), (4, .int v4_3)] → W p l e rm_X2_daysWithout s m args below meth c0 s.heap [] 0 0 Q (F0 m 25 ls []) := by
          intro v3_9 ls hf hl
          subst hk_8
          obtain ⟨v4_10, ev4_10, hf⟩ := zz_let_use hf
          refine lv_iinc (v := v4_10) (lv' := [(4, .int v4_10), (0, .ref t0), (2, .int p2), (3, .int v3_9)]) hx hb dX2_daysWithout_25 hl (k := 3) rfl (by rw [← ev4_10]; rfl) (by decide) rfl (fun ls hl => ?_)
          refine lv_goto (tgt := 5) hx hb dX2_daysWithout_28 (by decide) ?_
          exact ih_1 v3_9 v4_10 ls hf (lv_sub hl [1, 2, 3, 0] rfl)
        refine lv_icmp_le (tgt := 25) hx hb dX2_daysWithout_19 (by decide) (fun hc_6 => ?_) (fun hc_6 => ?_)
        · have hf := zz_it hf hc_6
          exact hJ_8 v3_2 ls hf (lv_sub hl [0, 1, 2, 3] rfl)
        · have hf := zz_if hf hc_6
          obtain ⟨v3_7, ev3_7, hf⟩ := zz_let_use hf
          refine lv_iinc (v := v3_7) (lv' := [(3, .int v3_7), (0, .ref t0), (2, .int p2), (4, .int v4_3)]) hx hb dX2_daysWithout_22 hl (k := 2) rfl (by rw [← ev3_7]; rfl) (by decide) rfl (fun ls hl => ?_)
          exact hJ_8 v3_7 ls hf (lv_sub hl [1, 2, 0, 3] rfl)
  exact hL_1 N (0 : Int32) p1 ls hf (lv_sub hl [2, 4, 1, 0] rfl)
def f_X2_firstWithout_L2 (N : Nat) (k_1 : Option (Int32)) (t_fewest : Nat → Int32) (p2 : Int32) : Nat → (Int32) → Option (Int32)
  | 0, _ => none
  | n_1 + 1, v3_2 => (if p2 < v3_2 then k_1 else zz_gd (zz_in v3_2 401) ((if (t_fewest v3_2.toNatClampNeg) ≤ (3 : Int32) then zz_let (v3_2 + (1 : Int32)) (fun v3_6 => (f_X2_firstWithout_L2 N k_1 t_fewest p2 n_1 v3_6)) else (some v3_2))))
theorem f_X2_firstWithout_L2_s (N : Nat) (k_1 : Option (Int32)) (t_fewest : Nat → Int32) (p2 : Int32) (n_1 : Nat) (v3_2 : Int32) : f_X2_firstWithout_L2 N k_1 t_fewest p2 (n_1 + 1) v3_2 = (if p2 < v3_2 then k_1 else zz_gd (zz_in v3_2 401) ((if (t_fewest v3_2.toNatClampNeg) ≤ (3 : Int32) then zz_let (v3_2 + (1 : Int32)) (fun v3_6 => (f_X2_firstWithout_L2 N k_1 t_fewest p2 n_1 v3_6)) else (some v3_2)))) := rfl
def f_X2_firstWithout (N : Nat) (t_fewest : Nat → Int32) (p1 : Int32) (p2 : Int32) : Option (Int32) := zz_let ((some (-1 : Int32))) (fun k_1 => f_X2_firstWithout_L2 N k_1 t_fewest p2 N p1)
abbrev rm_X2_firstWithout : Room := { frames := 0, cells := 0, slots := 0, locals := 0 }
theorem mi_X2_firstWithout : zMI RX2 yX2_firstWithout cX2_firstWithout 4 (some .int) 2 := ⟨⟨tw_3_210, tw_3_211, tw_1_5, tw_3_212⟩, by decide +kernel, by decide +kernel, by decide +kernel⟩
set_option maxHeartbeats 4000000 in
set_option maxRecDepth 100000 in
theorem k_X2_firstWithout (l : Launch) (D : va_G) (c : Nat → ClassId) (N : Nat) (t0 : Nat) (tA_fewest : Nat) (tA_tried : Nat) (t_fewest : Nat → Int32) (t_tried : Nat → Int32) (p1 : Int32) (p2 : Int32) (o : Int32) (hf : f_X2_firstWithout N t_fewest p1 p2 = some o) : zMPi l D c yX2_firstWithout cX2_firstWithout 4 (some .int) rm_X2_firstWithout (wX2 c t0 tA_fewest tA_tried t_fewest t_tried) [.ref t0, .int p1, .int p2] o := by
  refine zIP (by decide) (Nat.le_of_ble_eq_true rfl) ?_
  intro p e s m args below meth c0 Q hQ hx hb hr hlk hml hts hown hP hE hX hS ls hl
  have S : CallFix p m c0 cX2_firstWithout 4 s args zT RX2 := ⟨hx, hb, hml, hown, hts⟩
  have hl : lv_has ls 4 [(0, .ref t0), (1, .int p1), (2, .int p2)] := hl
  unfold f_X2_firstWithout at hf
  refine lv_iload_n hx hb dX2_firstWithout_0 rfl (lv_at hl 1 rfl) ?_
  refine lv_istore_n (lv' := [(3, .int p1), (0, .ref t0), (1, .int p1), (2, .int p2)]) hx hb dX2_firstWithout_1 rfl hl (by decide) rfl (fun ls hl => ?_)
  obtain ⟨k_1, hk_1, hf⟩ := zz_let_use hf
  have hX_1 : ∀ (ls : Array Slot), k_1 = some o → lv_has ls 4 [] → W p l e rm_X2_firstWithout s m args below meth c0 s.heap [] 0 0 Q (F0 m 25 ls []) := by
    intro ls hf hl
    subst hk_1
    refine lv_iconst (v := (-1 : Int32)) hx hb dX2_firstWithout_25 (by decide) ?_
    exact zRPi hQ hx hb hr hlk (Option.some.inj hf) dX2_firstWithout_26
  have hL_1 : ∀ (n_1 : Nat) (v3_2 : Int32) (ls : Array Slot), f_X2_firstWithout_L2 N k_1 t_fewest p2 n_1 v3_2 = some o → lv_has ls 4 [(0, .ref t0), (2, .int p2), (3, .int v3_2)] → W p l e rm_X2_firstWithout s m args below meth c0 s.heap [] 0 0 Q (F0 m 2 ls []) := by
    intro n_1
    induction n_1 with
    | zero => intro v3_2 ls hf hl; exact zz_none hf
    | succ n_1 ih_1 =>
      intro v3_2 ls hf hl
      rw [f_X2_firstWithout_L2_s] at hf
      refine lv_iload_n hx hb dX2_firstWithout_2 rfl (lv_at hl 2 rfl) ?_
      refine lv_iload_n hx hb dX2_firstWithout_3 rfl (lv_at hl 1 rfl) ?_
      refine lv_icmp_gt (tgt := 25) hx hb dX2_firstWithout_4 (by decide) (fun hc_3 => ?_) (fun hc_3 => ?_)
      · have hf := zz_it hf hc_3
        exact hX_1 ls hf (lv_sub hl [] rfl)
      · have hf := zz_if hf hc_3
        refine lv_aload_n hx hb dX2_firstWithout_7 rfl (lv_at hl 0 rfl) ?_
        refine zget S uw_X2 hE hP 0 0 rfl rfl (by decide) tw_1_181 rfl rfl dX2_firstWithout_8 ?_
        refine lv_iload_n hx hb dX2_firstWithout_11 rfl (lv_at hl 2 rfl) ?_
        obtain ⟨hin_4, hf⟩ := zz_gd_use hf
        refine zild hx hb hE hP 1 rfl (zz_in_ok hin_4) dX2_firstWithout_12 ?_
        refine lv_iconst (v := (3 : Int32)) hx hb dX2_firstWithout_13 (by decide) ?_
        refine lv_icmp_le (tgt := 19) hx hb dX2_firstWithout_14 (by decide) (fun hc_5 => ?_) (fun hc_5 => ?_)
        · have hf := zz_it hf hc_5
          obtain ⟨v3_6, ev3_6, hf⟩ := zz_let_use hf
          refine lv_iinc (v := v3_6) (lv' := [(3, .int v3_6), (0, .ref t0), (2, .int p2)]) hx hb dX2_firstWithout_19 hl (k := 2) rfl (by rw [← ev3_6]; rfl) (by decide) rfl (fun ls hl => ?_)
          refine lv_goto (tgt := 2) hx hb dX2_firstWithout_22 (by decide) ?_
          exact ih_1 v3_6 ls hf (lv_sub hl [1, 2, 0] rfl)
        · have hf := zz_if hf hc_5
          refine lv_iload_n hx hb dX2_firstWithout_17 rfl (lv_at hl 2 rfl) ?_
          exact zRPi hQ hx hb hr hlk (Option.some.inj hf) dX2_firstWithout_18
  exact hL_1 N p1 ls hf (lv_sub hl [1, 3, 0] rfl)
def f_X2_hasNameWith_L5 (N : Nat) (k_1 : Option (Int32)) (t_fewest : Nat → Int32) (p1 : Int32) : Nat → (Int32) → (Int32) → Option (Int32)
  | 0, _, _ => none
  | n_1 + 1, v3_2, v4_3 => (if (3 : Int32) < v4_3 then k_1 else (if v3_2 < 0 then k_1 else zz_gd (zz_in v3_2 401) ((if ((3 : Int32) - v4_3) < (t_fewest v3_2.toNatClampNeg) then zz_let (v3_2 - p1) (fun v3_8 => zz_let (v4_3 + (1 : Int32)) (fun v4_9 => (f_X2_hasNameWith_L5 N k_1 t_fewest p1 n_1 v3_8 v4_9))) else (some (1 : Int32))))))
theorem f_X2_hasNameWith_L5_s (N : Nat) (k_1 : Option (Int32)) (t_fewest : Nat → Int32) (p1 : Int32) (n_1 : Nat) (v3_2 : Int32) (v4_3 : Int32) : f_X2_hasNameWith_L5 N k_1 t_fewest p1 (n_1 + 1) v3_2 v4_3 = (if (3 : Int32) < v4_3 then k_1 else (if v3_2 < 0 then k_1 else zz_gd (zz_in v3_2 401) ((if ((3 : Int32) - v4_3) < (t_fewest v3_2.toNatClampNeg) then zz_let (v3_2 - p1) (fun v3_8 => zz_let (v4_3 + (1 : Int32)) (fun v4_9 => (f_X2_hasNameWith_L5 N k_1 t_fewest p1 n_1 v3_8 v4_9))) else (some (1 : Int32)))))) := rfl
def f_X2_hasNameWith (N : Nat) (t_fewest : Nat → Int32) (p1 : Int32) (p2 : Int32) : Option (Int32) := zz_let ((some (0 : Int32))) (fun k_1 => f_X2_hasNameWith_L5 N k_1 t_fewest p1 N p2 (0 : Int32))
abbrev rm_X2_hasNameWith : Room := { frames := 0, cells := 0, slots := 0, locals := 0 }
theorem mi_X2_hasNameWith : zMI RX2 yX2_hasNameWith cX2_hasNameWith 5 (some .boolean) 2 := ⟨⟨tw_3_229, ts_X2_hasNameWith, tw_1_5, tw_3_230⟩, by decide +kernel, by decide +kernel, by decide +kernel⟩
set_option maxHeartbeats 4000000 in
set_option maxRecDepth 100000 in
theorem k_X2_hasNameWith (l : Launch) (D : va_G) (c : Nat → ClassId) (N : Nat) (t0 : Nat) (tA_fewest : Nat) (tA_tried : Nat) (t_fewest : Nat → Int32) (t_tried : Nat → Int32) (p1 : Int32) (p2 : Int32) (o : Int32) (hf : f_X2_hasNameWith N t_fewest p1 p2 = some o) : zMPi l D c yX2_hasNameWith cX2_hasNameWith 5 (some .boolean) rm_X2_hasNameWith (wX2 c t0 tA_fewest tA_tried t_fewest t_tried) [.ref t0, .int p1, .int p2] o := by
  refine zIP (by decide) (Nat.le_of_ble_eq_true rfl) ?_
  intro p e s m args below meth c0 Q hQ hx hb hr hlk hml hts hown hP hE hX hS ls hl
  have S : CallFix p m c0 cX2_hasNameWith 5 s args zT RX2 := ⟨hx, hb, hml, hown, hts⟩
  have hl : lv_has ls 5 [(0, .ref t0), (1, .int p1), (2, .int p2)] := hl
  unfold f_X2_hasNameWith at hf
  refine lv_iload_n hx hb dX2_hasNameWith_0 rfl (lv_at hl 2 rfl) ?_
  refine lv_istore_n (lv' := [(3, .int p2), (0, .ref t0), (1, .int p1), (2, .int p2)]) hx hb dX2_hasNameWith_1 rfl hl (by decide) rfl (fun ls hl => ?_)
  refine lv_iconst (v := (0 : Int32)) hx hb dX2_hasNameWith_2 (by decide) ?_
  refine lv_istore (lv' := [(4, .int (0 : Int32)), (3, .int p2), (0, .ref t0), (1, .int p1), (2, .int p2)]) hx hb dX2_hasNameWith_3 hl (by decide) rfl (fun ls hl => ?_)
  obtain ⟨k_1, hk_1, hf⟩ := zz_let_use hf
  have hX_1 : ∀ (ls : Array Slot), k_1 = some o → lv_has ls 5 [] → W p l e rm_X2_hasNameWith s m args below meth c0 s.heap [] 0 0 Q (F0 m 40 ls []) := by
    intro ls hf hl
    subst hk_1
    refine lv_iconst (v := (0 : Int32)) hx hb dX2_hasNameWith_40 (by decide) ?_
    exact zRPz hQ hx hb hr hlk rfl (Option.some.inj hf) dX2_hasNameWith_41
  have hL_1 : ∀ (n_1 : Nat) (v3_2 : Int32) (v4_3 : Int32) (ls : Array Slot), f_X2_hasNameWith_L5 N k_1 t_fewest p1 n_1 v3_2 v4_3 = some o → lv_has ls 5 [(0, .ref t0), (1, .int p1), (3, .int v3_2), (4, .int v4_3)] → W p l e rm_X2_hasNameWith s m args below meth c0 s.heap [] 0 0 Q (F0 m 5 ls []) := by
    intro n_1
    induction n_1 with
    | zero => intro v3_2 v4_3 ls hf hl; exact zz_none hf
    | succ n_1 ih_1 =>
      intro v3_2 v4_3 ls hf hl
      rw [f_X2_hasNameWith_L5_s] at hf
      refine lv_iload hx hb dX2_hasNameWith_5 (lv_at hl 3 rfl) ?_
      refine lv_iconst (v := (3 : Int32)) hx hb dX2_hasNameWith_7 (by decide) ?_
      refine lv_icmp_gt (tgt := 40) hx hb dX2_hasNameWith_8 (by decide) (fun hc_4 => ?_) (fun hc_4 => ?_)
      · have hf := zz_it hf hc_4
        exact hX_1 ls hf (lv_sub hl [] rfl)
      · have hf := zz_if hf hc_4
        refine lv_iload_n hx hb dX2_hasNameWith_11 rfl (lv_at hl 2 rfl) ?_
        refine lv_if_lt (tgt := 40) hx hb dX2_hasNameWith_12 (by decide) (fun hc_5 => ?_) (fun hc_5 => ?_)
        · have hf := zz_it hf hc_5
          exact hX_1 ls hf (lv_sub hl [] rfl)
        · have hf := zz_if hf hc_5
          refine lv_aload_n hx hb dX2_hasNameWith_15 rfl (lv_at hl 0 rfl) ?_
          refine zget S uw_X2 hE hP 0 0 rfl rfl (by decide) tw_1_181 rfl rfl dX2_hasNameWith_16 ?_
          refine lv_iload_n hx hb dX2_hasNameWith_19 rfl (lv_at hl 2 rfl) ?_
          obtain ⟨hin_6, hf⟩ := zz_gd_use hf
          refine zild hx hb hE hP 1 rfl (zz_in_ok hin_6) dX2_hasNameWith_20 ?_
          refine lv_iconst (v := (3 : Int32)) hx hb dX2_hasNameWith_21 (by decide) ?_
          refine lv_iload hx hb dX2_hasNameWith_22 (lv_at hl 3 rfl) ?_
          refine lv_isub hx hb dX2_hasNameWith_24 ?_
          refine lv_icmp_gt (tgt := 30) hx hb dX2_hasNameWith_25 (by decide) (fun hc_7 => ?_) (fun hc_7 => ?_)
          · have hf := zz_it hf hc_7
            refine lv_iload_n hx hb dX2_hasNameWith_30 rfl (lv_at hl 2 rfl) ?_
            refine lv_iload_n hx hb dX2_hasNameWith_31 rfl (lv_at hl 1 rfl) ?_
            refine lv_isub hx hb dX2_hasNameWith_32 ?_
            obtain ⟨v3_8, ev3_8, hf⟩ := zz_let_use hf
            refine zti ev3_8 ?_
            refine lv_istore_n (lv' := [(3, .int v3_8), (0, .ref t0), (1, .int p1), (4, .int v4_3)]) hx hb dX2_hasNameWith_33 rfl hl (by decide) rfl (fun ls hl => ?_)
            obtain ⟨v4_9, ev4_9, hf⟩ := zz_let_use hf
            refine lv_iinc (v := v4_9) (lv' := [(4, .int v4_9), (3, .int v3_8), (0, .ref t0), (1, .int p1)]) hx hb dX2_hasNameWith_34 hl (k := 3) rfl (by rw [← ev4_9]; rfl) (by decide) rfl (fun ls hl => ?_)
            refine lv_goto (tgt := 5) hx hb dX2_hasNameWith_37 (by decide) ?_
            exact ih_1 v3_8 v4_9 ls hf (lv_sub hl [2, 3, 1, 0] rfl)
          · have hf := zz_if hf hc_7
            refine lv_iconst (v := (1 : Int32)) hx hb dX2_hasNameWith_28 (by decide) ?_
            exact zRPz hQ hx hb hr hlk rfl (Option.some.inj hf) dX2_hasNameWith_29
  exact hL_1 N p2 (0 : Int32) ls hf (lv_sub hl [2, 3, 1, 0] rfl)
def f_X2_mendsAll_L3 (N : Nat) (k_1 : Option (Int32)) (t_fewest : Nat → Int32) (p1 : Int32) (p3 : Int32) : Nat → (Int32) → Option (Int32)
  | 0, _ => none
  | n_1 + 1, v4_2 => (if p3 < v4_2 then k_1 else zz_b1 (f_X2_hasNameWith N t_fewest p1 v4_2) (fun r_4 => (if r_4 = 0 then (some (0 : Int32)) else zz_let (v4_2 + (1 : Int32)) (fun v4_6 => (f_X2_mendsAll_L3 N k_1 t_fewest p1 p3 n_1 v4_6)))))
theorem f_X2_mendsAll_L3_s (N : Nat) (k_1 : Option (Int32)) (t_fewest : Nat → Int32) (p1 : Int32) (p3 : Int32) (n_1 : Nat) (v4_2 : Int32) : f_X2_mendsAll_L3 N k_1 t_fewest p1 p3 (n_1 + 1) v4_2 = (if p3 < v4_2 then k_1 else zz_b1 (f_X2_hasNameWith N t_fewest p1 v4_2) (fun r_4 => (if r_4 = 0 then (some (0 : Int32)) else zz_let (v4_2 + (1 : Int32)) (fun v4_6 => (f_X2_mendsAll_L3 N k_1 t_fewest p1 p3 n_1 v4_6))))) := rfl
def f_X2_mendsAll (N : Nat) (t_fewest : Nat → Int32) (p1 : Int32) (p2 : Int32) (p3 : Int32) : Option (Int32) := zz_let ((some (1 : Int32))) (fun k_1 => f_X2_mendsAll_L3 N k_1 t_fewest p1 p3 N p2)
abbrev rm_X2_mendsAll : Room := { frames := 1, cells := 0, slots := 0, locals := 24 }
theorem mi_X2_mendsAll : zMI RX2 yX2_mendsAll cX2_mendsAll 5 (some .boolean) 3 := ⟨⟨tw_3_225, ts_X2_mendsAll, tw_1_5, tw_3_226⟩, by decide +kernel, by decide +kernel, by decide +kernel⟩
set_option maxHeartbeats 4000000 in
set_option maxRecDepth 100000 in
theorem k_X2_mendsAll (l : Launch) (D : va_G) (c : Nat → ClassId) (N : Nat) (t0 : Nat) (tA_fewest : Nat) (tA_tried : Nat) (t_fewest : Nat → Int32) (t_tried : Nat → Int32) (p1 : Int32) (p2 : Int32) (p3 : Int32) (o : Int32) (hf : f_X2_mendsAll N t_fewest p1 p2 p3 = some o) : zMPi l D c yX2_mendsAll cX2_mendsAll 5 (some .boolean) rm_X2_mendsAll (wX2 c t0 tA_fewest tA_tried t_fewest t_tried) [.ref t0, .int p1, .int p2, .int p3] o := by
  refine zIP (by decide) (Nat.le_of_ble_eq_true rfl) ?_
  intro p e s m args below meth c0 Q hQ hx hb hr hlk hml hts hown hP hE hX hS ls hl
  have S : CallFix p m c0 cX2_mendsAll 5 s args zT RX2 := ⟨hx, hb, hml, hown, hts⟩
  have hl : lv_has ls 5 [(0, .ref t0), (1, .int p1), (2, .int p2), (3, .int p3)] := hl
  unfold f_X2_mendsAll at hf
  refine lv_iload_n hx hb dX2_mendsAll_0 rfl (lv_at hl 2 rfl) ?_
  refine lv_istore (lv' := [(4, .int p2), (0, .ref t0), (1, .int p1), (2, .int p2), (3, .int p3)]) hx hb dX2_mendsAll_1 hl (by decide) rfl (fun ls hl => ?_)
  obtain ⟨k_1, hk_1, hf⟩ := zz_let_use hf
  have hX_1 : ∀ (ls : Array Slot), k_1 = some o → lv_has ls 5 [] → W p l e rm_X2_mendsAll s m args below meth c0 s.heap [] 0 0 Q (F0 m 27 ls []) := by
    intro ls hf hl
    subst hk_1
    refine lv_iconst (v := (1 : Int32)) hx hb dX2_mendsAll_27 (by decide) ?_
    exact zRPz hQ hx hb hr hlk rfl (Option.some.inj hf) dX2_mendsAll_28
  have hL_1 : ∀ (n_1 : Nat) (v4_2 : Int32) (ls : Array Slot), f_X2_mendsAll_L3 N k_1 t_fewest p1 p3 n_1 v4_2 = some o → lv_has ls 5 [(0, .ref t0), (1, .int p1), (3, .int p3), (4, .int v4_2)] → W p l e rm_X2_mendsAll s m args below meth c0 s.heap [] 0 0 Q (F0 m 3 ls []) := by
    intro n_1
    induction n_1 with
    | zero => intro v4_2 ls hf hl; exact zz_none hf
    | succ n_1 ih_1 =>
      intro v4_2 ls hf hl
      rw [f_X2_mendsAll_L3_s] at hf
      refine lv_iload hx hb dX2_mendsAll_3 (lv_at hl 3 rfl) ?_
      refine lv_iload_n hx hb dX2_mendsAll_5 rfl (lv_at hl 2 rfl) ?_
      refine lv_icmp_gt (tgt := 27) hx hb dX2_mendsAll_6 (by decide) (fun hc_3 => ?_) (fun hc_3 => ?_)
      · have hf := zz_it hf hc_3
        exact hX_1 ls hf (lv_sub hl [] rfl)
      · have hf := zz_if hf hc_3
        refine lv_aload_n hx hb dX2_mendsAll_9 rfl (lv_at hl 0 rfl) ?_
        refine lv_iload_n hx hb dX2_mendsAll_10 rfl (lv_at hl 1 rfl) ?_
        refine lv_iload hx hb dX2_mendsAll_11 (lv_at hl 3 rfl) ?_
        obtain ⟨r_4, he_4, hf⟩ := zz_b1_use hf
        refine zcVi (As := [.int p1, .int v4_2]) (rest := []) S (k_X2_hasNameWith l D c N t0 tA_fewest tA_tried t_fewest t_tried p1 v4_2 r_4 he_4) mi_X2_hasNameWith tw_3_227 ⟨(Nat.le_of_ble_eq_true rfl), (Nat.le_of_ble_eq_true rfl)⟩ ⟨rfl, rfl⟩ hP hE hX hS (ci := 2) rfl rfl (q0 := 0) rfl rfl hl.1 rfl (Nat.le_of_ble_eq_true rfl) dX2_mendsAll_13 ⟨(Nat.le_of_ble_eq_true rfl), (Nat.le_of_ble_eq_true rfl)⟩ ?_
        refine lv_if_ne (tgt := 21) hx hb dX2_mendsAll_16 (by decide) (fun hc_5 => ?_) (fun hc_5 => ?_)
        · have hf := zz_if hf hc_5
          obtain ⟨v4_6, ev4_6, hf⟩ := zz_let_use hf
          refine lv_iinc (v := v4_6) (lv' := [(4, .int v4_6), (0, .ref t0), (1, .int p1), (3, .int p3)]) hx hb dX2_mendsAll_21 hl (k := 3) rfl (by rw [← ev4_6]; rfl) (by decide) rfl (fun ls hl => ?_)
          refine lv_goto (tgt := 3) hx hb dX2_mendsAll_24 (by decide) ?_
          exact ih_1 v4_6 ls hf (lv_sub hl [1, 2, 3, 0] rfl)
        · have hf := zz_it hf hc_5
          refine lv_iconst (v := (0 : Int32)) hx hb dX2_mendsAll_19 (by decide) ?_
          exact zRPz hQ hx hb hr hlk rfl (Option.some.inj hf) dX2_mendsAll_20
  exact hL_1 N p2 ls hf (lv_sub hl [1, 2, 4, 0] rfl)
def f_X2_mendingSyllable_L28 (N : Nat) (k_9 : (Nat → Int32) → Option (Int64 × (Nat → Int32))) (t_fewest : Nat → Int32) (w_numbers : Nat → Int32) (p2 : Int32) (p3 : Int32) : Nat → (Int64) → (Nat → Int32) → Option (Int64 × (Nat → Int32))
  | 0, _, _ => none
  | n_9 + 1, v4_10, t_tried_11 => (if (728 : Int64) < v4_10 then (k_9 t_tried_11) else zz_b1 (f_X5_sumInNames N w_numbers v4_10) (fun r_13 => zz_let (fun (t_tried_22 : Nat → Int32) => zz_let (v4_10 + (1 : Int64)) (fun v4_23 => (f_X2_mendingSyllable_L28 N k_9 t_fewest w_numbers p2 p3 n_9 v4_23 t_tried_22))) (fun k_21 => (if r_13 ≤ 0 then (k_21 t_tried_11) else (if (198 : Int32) < r_13 then (k_21 t_tried_11) else zz_gd (zz_in r_13 199) ((if (t_tried_11 r_13.toNatClampNeg) = 0 then zz_let (upd t_tried_11 r_13.toNatClampNeg (1 : Int32)) (fun t_tried_18 => zz_b1 (f_X2_mendsAll N t_fewest r_13 p2 p3) (fun r_19 => (if r_19 = 0 then (k_21 t_tried_18) else (some (v4_10, t_tried_18))))) else (k_21 t_tried_11))))))))
theorem f_X2_mendingSyllable_L28_s (N : Nat) (k_9 : (Nat → Int32) → Option (Int64 × (Nat → Int32))) (t_fewest : Nat → Int32) (w_numbers : Nat → Int32) (p2 : Int32) (p3 : Int32) (n_9 : Nat) (v4_10 : Int64) (t_tried_11 : Nat → Int32) : f_X2_mendingSyllable_L28 N k_9 t_fewest w_numbers p2 p3 (n_9 + 1) v4_10 t_tried_11 = (if (728 : Int64) < v4_10 then (k_9 t_tried_11) else zz_b1 (f_X5_sumInNames N w_numbers v4_10) (fun r_13 => zz_let (fun (t_tried_22 : Nat → Int32) => zz_let (v4_10 + (1 : Int64)) (fun v4_23 => (f_X2_mendingSyllable_L28 N k_9 t_fewest w_numbers p2 p3 n_9 v4_23 t_tried_22))) (fun k_21 => (if r_13 ≤ 0 then (k_21 t_tried_11) else (if (198 : Int32) < r_13 then (k_21 t_tried_11) else zz_gd (zz_in r_13 199) ((if (t_tried_11 r_13.toNatClampNeg) = 0 then zz_let (upd t_tried_11 r_13.toNatClampNeg (1 : Int32)) (fun t_tried_18 => zz_b1 (f_X2_mendsAll N t_fewest r_13 p2 p3) (fun r_19 => (if r_19 = 0 then (k_21 t_tried_18) else (some (v4_10, t_tried_18))))) else (k_21 t_tried_11)))))))) := rfl
def f_X2_mendingSyllable_L3 (N : Nat) (k_1 : (Nat → Int32) → Option (Int64 × (Nat → Int32)))  : Nat → (Int32) → (Nat → Int32) → Option (Int64 × (Nat → Int32))
  | 0, _, _ => none
  | n_1 + 1, v4_2, t_tried_3 => (if (198 : Int32) < v4_2 then (k_1 t_tried_3) else zz_gd (zz_in v4_2 199) (zz_let (upd t_tried_3 v4_2.toNatClampNeg (0 : Int32)) (fun t_tried_6 => zz_let (v4_2 + (1 : Int32)) (fun v4_7 => (f_X2_mendingSyllable_L3 N k_1 n_1 v4_7 t_tried_6)))))
theorem f_X2_mendingSyllable_L3_s (N : Nat) (k_1 : (Nat → Int32) → Option (Int64 × (Nat → Int32)))  (n_1 : Nat) (v4_2 : Int32) (t_tried_3 : Nat → Int32) : f_X2_mendingSyllable_L3 N k_1 (n_1 + 1) v4_2 t_tried_3 = (if (198 : Int32) < v4_2 then (k_1 t_tried_3) else zz_gd (zz_in v4_2 199) (zz_let (upd t_tried_3 v4_2.toNatClampNeg (0 : Int32)) (fun t_tried_6 => zz_let (v4_2 + (1 : Int32)) (fun v4_7 => (f_X2_mendingSyllable_L3 N k_1 n_1 v4_7 t_tried_6))))) := rfl
def f_X2_mendingSyllable (N : Nat) (t_fewest : Nat → Int32) (t_tried : Nat → Int32) (w_numbers : Nat → Int32) (p2 : Int32) (p3 : Int32) : Option (Int64 × (Nat → Int32)) := zz_let (fun (t_tried_8 : Nat → Int32) => zz_let (fun (t_tried_24 : Nat → Int32) => (some ((-1 : Int64), t_tried_24))) (fun k_9 => f_X2_mendingSyllable_L28 N k_9 t_fewest w_numbers p2 p3 N (1 : Int64) t_tried_8)) (fun k_1 => f_X2_mendingSyllable_L3 N k_1 N (0 : Int32) t_tried)
abbrev rm_X2_mendingSyllable : Room := { frames := 3, cells := 0, slots := 0, locals := 74 }
theorem mi_X2_mendingSyllable : zMI RX2 yX2_mendingSyllable cX2_mendingSyllable 7 (some .long) 3 := ⟨⟨tw_3_219, tw_3_220, tw_1_5, tw_3_221⟩, by decide +kernel, by decide +kernel, by decide +kernel⟩
set_option maxHeartbeats 4000000 in
set_option maxRecDepth 100000 in
theorem k_X2_mendingSyllable (l : Launch) (D : va_G) (c : Nat → ClassId) (N : Nat) (t0 : Nat) (tA_fewest : Nat) (tA_tried : Nat) (t_fewest : Nat → Int32) (t_tried : Nat → Int32) (w0 : Nat) (wA_numbers : Nat) (wA_syllables : Nat) (wA_days : Nat) (wA_words : Nat) (wA_parents : Nat) (wA_otherParents : Nat) (wA_kinds : Nat) (wA_hopeDays : Nat) (wA_hopeTenths : Nat) (w_numbers : Nat → Int32) (w_syllables : Nat → Int64) (w_syllableCount : Int32) (w_days : Nat → Int32) (w_words : Nat → Int64) (w_parents : Nat → Int32) (w_otherParents : Nat → Int32) (w_kinds : Nat → Int32) (w_personCount : Int32) (w_hopeDays : Nat → Int32) (w_hopeTenths : Nat → Int32) (w_hopeCount : Int32) (w_degreesTold : Int32) (p2 : Int32) (p3 : Int32) (o : Int64) (o_t_tried : Nat → Int32) (hf : f_X2_mendingSyllable N t_fewest t_tried w_numbers p2 p3 = some (o, o_t_tried)) : zMWl l D c yX2_mendingSyllable cX2_mendingSyllable 7 (some .long) rm_X2_mendingSyllable (wX2 c t0 tA_fewest tA_tried t_fewest t_tried ++ wX5 c w0 wA_numbers wA_syllables wA_days wA_words wA_parents wA_otherParents wA_kinds wA_hopeDays wA_hopeTenths w_numbers w_syllables w_syllableCount w_days w_words w_parents w_otherParents w_kinds w_personCount w_hopeDays w_hopeTenths w_hopeCount w_degreesTold) (wX2 c t0 tA_fewest tA_tried t_fewest o_t_tried ++ wX5 c w0 wA_numbers wA_syllables wA_days wA_words wA_parents wA_otherParents wA_kinds wA_hopeDays wA_hopeTenths w_numbers w_syllables w_syllableCount w_days w_words w_parents w_otherParents w_kinds w_personCount w_hopeDays w_hopeTenths w_hopeCount w_degreesTold) [.ref t0, .ref w0, .int p2, .int p3] o := by
  intro sz
  refine zIW (by decide) (Nat.le_of_ble_eq_true rfl) ?_
  intro p e s m args below meth c0 Q A hAe hQ hx hb hr hlk hml hts hown hP hE hD hS hA hsz hmn hX ls hl
  rw [← hAe] at hQ
  have S : CallFix p m c0 cX2_mendingSyllable 7 s args zT RX2 := ⟨hx, hb, hml, hown, hts⟩
  have hl : lv_has ls 7 [(0, .ref t0), (1, .ref w0), (2, .int p2), (3, .int p3)] := hl
  unfold f_X2_mendingSyllable at hf
  refine lv_iconst (v := (0 : Int32)) hx hb dX2_mendingSyllable_0 (by decide) ?_
  refine lv_istore (lv' := [(4, .int (0 : Int32)), (0, .ref t0), (1, .ref w0), (2, .int p2), (3, .int p3)]) hx hb dX2_mendingSyllable_1 hl (by decide) rfl (fun ls hl => ?_)
  obtain ⟨k_1, hk_1, hf⟩ := zz_let_use hf
  have hX_1 : ∀ (t_tried_8 : Nat → Int32) (H : Heap) (locs : List Loc) (ls : Array Slot), k_1 t_tried_8 = some (o, o_t_tried) → va_P D vwCl (wX2 c t0 tA_fewest tA_tried t_fewest t_tried_8 ++ wX5 c w0 wA_numbers wA_syllables wA_days wA_words wA_parents wA_otherParents wA_kinds wA_hopeDays wA_hopeTenths w_numbers w_syllables w_syllableCount w_days w_words w_parents w_otherParents w_kinds w_personCount w_hopeDays w_hopeTenths w_hopeCount w_degreesTold) H → va_D A (wX2 c t0 tA_fewest tA_tried t_fewest t_tried_8 ++ wX5 c w0 wA_numbers wA_syllables wA_days wA_words wA_parents wA_otherParents wA_kinds wA_hopeDays wA_hopeTenths w_numbers w_syllables w_syllableCount w_days w_words w_parents w_otherParents w_kinds w_personCount w_hopeDays w_hopeTenths w_hopeCount w_degreesTold) → va_S A s.heap H locs → lv_has ls 7 [(0, .ref t0), (1, .ref w0), (2, .int p2), (3, .int p3)] → W p l e rm_X2_mendingSyllable s m args below meth c0 H locs 0 0 Q (F0 m 25 ls []) := by
    intro t_tried_8 H locs ls hf hP hD hS hl
    subst hk_1
    refine lv_lconst (v := (1 : Int64)) hx hb dX2_mendingSyllable_25 (by decide) ?_
    refine lv_lstore (lv' := [(4, .long (1 : Int64)), (0, .ref t0), (1, .ref w0), (2, .int p2), (3, .int p3)]) hx hb dX2_mendingSyllable_26 hl (by decide) rfl (fun ls hl => ?_)
    obtain ⟨k_9, hk_9, hf⟩ := zz_let_use hf
    have hX_9 : ∀ (t_tried_24 : Nat → Int32) (H : Heap) (locs : List Loc) (ls : Array Slot), k_9 t_tried_24 = some (o, o_t_tried) → va_P D vwCl (wX2 c t0 tA_fewest tA_tried t_fewest t_tried_24 ++ wX5 c w0 wA_numbers wA_syllables wA_days wA_words wA_parents wA_otherParents wA_kinds wA_hopeDays wA_hopeTenths w_numbers w_syllables w_syllableCount w_days w_words w_parents w_otherParents w_kinds w_personCount w_hopeDays w_hopeTenths w_hopeCount w_degreesTold) H → va_D A (wX2 c t0 tA_fewest tA_tried t_fewest t_tried_24 ++ wX5 c w0 wA_numbers wA_syllables wA_days wA_words wA_parents wA_otherParents wA_kinds wA_hopeDays wA_hopeTenths w_numbers w_syllables w_syllableCount w_days w_words w_parents w_otherParents w_kinds w_personCount w_hopeDays w_hopeTenths w_hopeCount w_degreesTold) → va_S A s.heap H locs → lv_has ls 7 [] → W p l e rm_X2_mendingSyllable s m args below meth c0 H locs 0 0 Q (F0 m 99 ls []) := by
      intro t_tried_24 H locs ls hf hP hD hS hl
      subst hk_9
      refine lv_ldc2 (v := (-1 : Int64)) hx hb hown (hts _ tw_3_231) dX2_mendingSyllable_99 ?_
      cases hf
      exact zRWl hQ hx hb hr hlk rfl hP hD hS dX2_mendingSyllable_102
    have hL_9 : ∀ (n_9 : Nat) (v4_10 : Int64) (t_tried_11 : Nat → Int32) (H : Heap) (locs : List Loc) (ls : Array Slot), f_X2_mendingSyllable_L28 N k_9 t_fewest w_numbers p2 p3 n_9 v4_10 t_tried_11 = some (o, o_t_tried) → va_P D vwCl (wX2 c t0 tA_fewest tA_tried t_fewest t_tried_11 ++ wX5 c w0 wA_numbers wA_syllables wA_days wA_words wA_parents wA_otherParents wA_kinds wA_hopeDays wA_hopeTenths w_numbers w_syllables w_syllableCount w_days w_words w_parents w_otherParents w_kinds w_personCount w_hopeDays w_hopeTenths w_hopeCount w_degreesTold) H → va_D A (wX2 c t0 tA_fewest tA_tried t_fewest t_tried_11 ++ wX5 c w0 wA_numbers wA_syllables wA_days wA_words wA_parents wA_otherParents wA_kinds wA_hopeDays wA_hopeTenths w_numbers w_syllables w_syllableCount w_days w_words w_parents w_otherParents w_kinds w_personCount w_hopeDays w_hopeTenths w_hopeCount w_degreesTold) → va_S A s.heap H locs → lv_has ls 7 [(0, .ref t0), (1, .ref w0), (2, .int p2), (3, .int p3), (4, .long v4_10)] → W p l e rm_X2_mendingSyllable s m args below meth c0 H locs 0 0 Q (F0 m 28 ls []) := by
      intro n_9
      induction n_9 with
      | zero => intro v4_10 t_tried_11 H locs ls hf hP hD hS hl; exact zz_none hf
      | succ n_9 ih_9 =>
        intro v4_10 t_tried_11 H locs ls hf hP hD hS hl
        rw [f_X2_mendingSyllable_L28_s] at hf
        refine lv_lload hx hb dX2_mendingSyllable_28 (lv_at hl 4 rfl) ?_
        refine lv_ldc2 (v := (728 : Int64)) hx hb hown (hts _ tw_3_222) dX2_mendingSyllable_30 ?_
        refine zlc_gt (tgt := 99) hx hb dX2_mendingSyllable_33 dX2_mendingSyllable_34 (by decide) (fun hc_12 => ?_) (fun hc_12 => ?_)
        · have hf := zz_it hf hc_12
          exact hX_9 t_tried_11 H locs ls hf hP hD hS (lv_sub hl [] rfl)
        · have hf := zz_if hf hc_12
          refine lv_aload_n hx hb dX2_mendingSyllable_37 rfl (lv_at hl 1 rfl) ?_
          refine lv_lload hx hb dX2_mendingSyllable_38 (lv_at hl 4 rfl) ?_
          obtain ⟨r_13, he_13, hf⟩ := zz_b1_use hf
          refine zcVi (As := [.long v4_10]) (rest := []) S (k_X5_sumInNames l D c N w0 wA_numbers wA_syllables wA_days wA_words wA_parents wA_otherParents wA_kinds wA_hopeDays wA_hopeTenths w_numbers w_syllables w_syllableCount w_days w_words w_parents w_otherParents w_kinds w_personCount w_hopeDays w_hopeTenths w_hopeCount w_degreesTold v4_10 r_13 he_13) mi_X5_sumInNames tw_3_197 ⟨(Nat.le_of_ble_eq_true rfl), (Nat.le_of_ble_eq_true rfl)⟩ ⟨rfl, rfl⟩ (zpsub (is := [3, 4, 5, 6, 7, 8, 9, 10, 11, 12]) hP rfl) hE hX hS (ci := 5) rfl rfl (q0 := 0) rfl rfl hl.1 rfl (Nat.le_of_ble_eq_true rfl) dX2_mendingSyllable_40 ⟨(Nat.le_of_ble_eq_true rfl), (Nat.le_of_ble_eq_true rfl)⟩ ?_
          refine lv_istore (lv' := [(6, .int r_13), (0, .ref t0), (1, .ref w0), (2, .int p2), (3, .int p3), (4, .long v4_10)]) hx hb dX2_mendingSyllable_43 hl (by decide) rfl (fun ls hl => ?_)
          refine lv_iload hx hb dX2_mendingSyllable_45 (lv_at hl 0 rfl) ?_
          obtain ⟨k_21, hk_21, hf⟩ := zz_let_use hf
          have hJ_21 : ∀ (t_tried_22 : Nat → Int32) (H : Heap) (locs : List Loc) (ls : Array Slot), k_21 t_tried_22 = some (o, o_t_tried) → va_P D vwCl (wX2 c t0 tA_fewest tA_tried t_fewest t_tried_22 ++ wX5 c w0 wA_numbers wA_syllables wA_days wA_words wA_parents wA_otherParents wA_kinds wA_hopeDays wA_hopeTenths w_numbers w_syllables w_syllableCount w_days w_words w_parents w_otherParents w_kinds w_personCount w_hopeDays w_hopeTenths w_hopeCount w_degreesTold) H → va_D A (wX2 c t0 tA_fewest tA_tried t_fewest t_tried_22 ++ wX5 c w0 wA_numbers wA_syllables wA_days wA_words wA_parents wA_otherParents wA_kinds wA_hopeDays wA_hopeTenths w_numbers w_syllables w_syllableCount w_days w_words w_parents w_otherParents w_kinds w_personCount w_hopeDays w_hopeTenths w_hopeCount w_degreesTold) → va_S A s.heap H locs → lv_has ls 7 [(0, .ref t0), (1, .ref w0), (2, .int p2), (3, .int p3), (4, .long v4_10)] → W p l e rm_X2_mendingSyllable s m args below meth c0 H locs 0 0 Q (F0 m 90 ls []) := by
            intro t_tried_22 H locs ls hf hP hD hS hl
            subst hk_21
            refine lv_lload hx hb dX2_mendingSyllable_90 (lv_at hl 4 rfl) ?_
            refine lv_lconst (v := (1 : Int64)) hx hb dX2_mendingSyllable_92 (by decide) ?_
            refine lv_ladd hx hb dX2_mendingSyllable_93 ?_
            obtain ⟨v4_23, ev4_23, hf⟩ := zz_let_use hf
            refine ztl ev4_23 ?_
            refine lv_lstore (lv' := [(4, .long v4_23), (0, .ref t0), (1, .ref w0), (2, .int p2), (3, .int p3)]) hx hb dX2_mendingSyllable_94 hl (by decide) rfl (fun ls hl => ?_)
            refine lv_goto (tgt := 28) hx hb dX2_mendingSyllable_96 (by decide) ?_
            exact ih_9 v4_23 t_tried_22 H locs ls hf hP hD hS (lv_sub hl [1, 2, 3, 4, 0] rfl)
          refine lv_if_le (tgt := 90) hx hb dX2_mendingSyllable_47 (by decide) (fun hc_14 => ?_) (fun hc_14 => ?_)
          · have hf := zz_it hf hc_14
            exact hJ_21 t_tried_11 H locs ls hf hP hD hS (lv_sub hl [1, 2, 3, 4, 5] rfl)
          · have hf := zz_if hf hc_14
            refine lv_iload hx hb dX2_mendingSyllable_50 (lv_at hl 0 rfl) ?_
            refine lv_sipush (v := (198 : Int32)) hx hb dX2_mendingSyllable_52 (by decide) ?_
            refine lv_icmp_gt (tgt := 90) hx hb dX2_mendingSyllable_55 (by decide) (fun hc_15 => ?_) (fun hc_15 => ?_)
            · have hf := zz_it hf hc_15
              exact hJ_21 t_tried_11 H locs ls hf hP hD hS (lv_sub hl [1, 2, 3, 4, 5] rfl)
            · have hf := zz_if hf hc_15
              refine lv_aload_n hx hb dX2_mendingSyllable_58 rfl (lv_at hl 1 rfl) ?_
              refine zget S uw_X2 hE hP 0 1 rfl rfl (by decide) tw_1_182 rfl rfl dX2_mendingSyllable_59 ?_
              refine lv_iload hx hb dX2_mendingSyllable_62 (lv_at hl 0 rfl) ?_
              obtain ⟨hin_16, hf⟩ := zz_gd_use hf
              refine zzld hx hb hE hP 2 rfl (zz_in_ok hin_16) dX2_mendingSyllable_64 ?_
              refine lv_if_ne (tgt := 90) hx hb dX2_mendingSyllable_65 (by decide) (fun hc_17 => ?_) (fun hc_17 => ?_)
              · have hf := zz_if hf hc_17
                exact hJ_21 t_tried_11 H locs ls hf hP hD hS (lv_sub hl [1, 2, 3, 4, 5] rfl)
              · have hf := zz_it hf hc_17
                refine lv_aload_n hx hb dX2_mendingSyllable_68 rfl (lv_at hl 1 rfl) ?_
                refine zget S uw_X2 hE hP 0 1 rfl rfl (by decide) tw_1_182 rfl rfl dX2_mendingSyllable_69 ?_
                refine lv_iload hx hb dX2_mendingSyllable_72 (lv_at hl 0 rfl) ?_
                refine lv_iconst (v := (1 : Int32)) hx hb dX2_mendingSyllable_74 (by decide) ?_
                obtain ⟨t_tried_18, et_tried_18, hf⟩ := zz_let_use hf
                refine zzst hx hb hE hP hD hS 2 (wX2 c t0 tA_fewest tA_tried t_fewest t_tried_18 ++ wX5 c w0 wA_numbers wA_syllables wA_days wA_words wA_parents wA_otherParents wA_kinds wA_hopeDays wA_hopeTenths w_numbers w_syllables w_syllableCount w_days w_words w_parents w_otherParents w_kinds w_personCount w_hopeDays w_hopeTenths w_hopeCount w_degreesTold) rfl rfl et_tried_18 rfl (zz_in_ok hin_16) dX2_mendingSyllable_75 (fun H locs hP hD hS => ?_)
                refine lv_aload_n hx hb dX2_mendingSyllable_76 rfl (lv_at hl 1 rfl) ?_
                refine lv_iload hx hb dX2_mendingSyllable_77 (lv_at hl 0 rfl) ?_
                refine lv_iload_n hx hb dX2_mendingSyllable_79 rfl (lv_at hl 3 rfl) ?_
                refine lv_iload_n hx hb dX2_mendingSyllable_80 rfl (lv_at hl 4 rfl) ?_
                obtain ⟨r_19, he_19, hf⟩ := zz_b1_use hf
                refine zcVi (As := [.int r_13, .int p2, .int p3]) (rest := []) S (k_X2_mendsAll l D c N t0 tA_fewest tA_tried t_fewest t_tried_18 r_13 p2 p3 r_19 he_19) mi_X2_mendsAll tw_3_223 ⟨(Nat.le_of_ble_eq_true rfl), (Nat.le_of_ble_eq_true rfl)⟩ ⟨rfl, rfl⟩ (zpsub (is := [0, 1, 2]) hP rfl) hE hX hS (ci := 2) rfl rfl (q0 := 0) rfl rfl hl.1 rfl (Nat.le_of_ble_eq_true rfl) dX2_mendingSyllable_81 ⟨(Nat.le_of_ble_eq_true rfl), (Nat.le_of_ble_eq_true rfl)⟩ ?_
                refine lv_if_eq (tgt := 90) hx hb dX2_mendingSyllable_84 (by decide) (fun hc_20 => ?_) (fun hc_20 => ?_)
                · have hf := zz_it hf hc_20
                  exact hJ_21 t_tried_18 H locs ls hf hP hD hS (lv_sub hl [1, 2, 3, 4, 5] rfl)
                · have hf := zz_if hf hc_20
                  refine lv_lload hx hb dX2_mendingSyllable_87 (lv_at hl 5 rfl) ?_
                  cases hf
                  exact zRWl hQ hx hb hr hlk rfl hP hD hS dX2_mendingSyllable_89
    exact hL_9 N (1 : Int64) t_tried_8 H locs ls hf hP hD hS (lv_sub hl [1, 2, 3, 4, 0] rfl)
  have hL_1 : ∀ (n_1 : Nat) (v4_2 : Int32) (t_tried_3 : Nat → Int32) (H : Heap) (locs : List Loc) (ls : Array Slot), f_X2_mendingSyllable_L3 N k_1 n_1 v4_2 t_tried_3 = some (o, o_t_tried) → va_P D vwCl (wX2 c t0 tA_fewest tA_tried t_fewest t_tried_3 ++ wX5 c w0 wA_numbers wA_syllables wA_days wA_words wA_parents wA_otherParents wA_kinds wA_hopeDays wA_hopeTenths w_numbers w_syllables w_syllableCount w_days w_words w_parents w_otherParents w_kinds w_personCount w_hopeDays w_hopeTenths w_hopeCount w_degreesTold) H → va_D A (wX2 c t0 tA_fewest tA_tried t_fewest t_tried_3 ++ wX5 c w0 wA_numbers wA_syllables wA_days wA_words wA_parents wA_otherParents wA_kinds wA_hopeDays wA_hopeTenths w_numbers w_syllables w_syllableCount w_days w_words w_parents w_otherParents w_kinds w_personCount w_hopeDays w_hopeTenths w_hopeCount w_degreesTold) → va_S A s.heap H locs → lv_has ls 7 [(0, .ref t0), (1, .ref w0), (2, .int p2), (3, .int p3), (4, .int v4_2)] → W p l e rm_X2_mendingSyllable s m args below meth c0 H locs 0 0 Q (F0 m 3 ls []) := by
    intro n_1
    induction n_1 with
    | zero => intro v4_2 t_tried_3 H locs ls hf hP hD hS hl; exact zz_none hf
    | succ n_1 ih_1 =>
      intro v4_2 t_tried_3 H locs ls hf hP hD hS hl
      rw [f_X2_mendingSyllable_L3_s] at hf
      refine lv_iload hx hb dX2_mendingSyllable_3 (lv_at hl 4 rfl) ?_
      refine lv_sipush (v := (198 : Int32)) hx hb dX2_mendingSyllable_5 (by decide) ?_
      refine lv_icmp_gt (tgt := 25) hx hb dX2_mendingSyllable_8 (by decide) (fun hc_4 => ?_) (fun hc_4 => ?_)
      · have hf := zz_it hf hc_4
        exact hX_1 t_tried_3 H locs ls hf hP hD hS (lv_sub hl [0, 1, 2, 3] rfl)
      · have hf := zz_if hf hc_4
        refine lv_aload_n hx hb dX2_mendingSyllable_11 rfl (lv_at hl 0 rfl) ?_
        refine zget S uw_X2 hE hP 0 1 rfl rfl (by decide) tw_1_182 rfl rfl dX2_mendingSyllable_12 ?_
        refine lv_iload hx hb dX2_mendingSyllable_15 (lv_at hl 4 rfl) ?_
        refine lv_iconst (v := (0 : Int32)) hx hb dX2_mendingSyllable_17 (by decide) ?_
        obtain ⟨hin_5, hf⟩ := zz_gd_use hf
        obtain ⟨t_tried_6, et_tried_6, hf⟩ := zz_let_use hf
        refine zzst hx hb hE hP hD hS 2 (wX2 c t0 tA_fewest tA_tried t_fewest t_tried_6 ++ wX5 c w0 wA_numbers wA_syllables wA_days wA_words wA_parents wA_otherParents wA_kinds wA_hopeDays wA_hopeTenths w_numbers w_syllables w_syllableCount w_days w_words w_parents w_otherParents w_kinds w_personCount w_hopeDays w_hopeTenths w_hopeCount w_degreesTold) rfl rfl et_tried_6 rfl (zz_in_ok hin_5) dX2_mendingSyllable_18 (fun H locs hP hD hS => ?_)
        obtain ⟨v4_7, ev4_7, hf⟩ := zz_let_use hf
        refine lv_iinc (v := v4_7) (lv' := [(4, .int v4_7), (0, .ref t0), (1, .ref w0), (2, .int p2), (3, .int p3)]) hx hb dX2_mendingSyllable_19 hl (k := 4) rfl (by rw [← ev4_7]; rfl) (by decide) rfl (fun ls hl => ?_)
        refine lv_goto (tgt := 3) hx hb dX2_mendingSyllable_22 (by decide) ?_
        exact ih_1 v4_7 t_tried_6 H locs ls hf hP hD hS (lv_sub hl [1, 2, 3, 4, 0] rfl)
  exact hL_1 N (0 : Int32) t_tried s.heap [] ls hf hP hD hS (lv_sub hl [1, 2, 3, 4, 0] rfl)
