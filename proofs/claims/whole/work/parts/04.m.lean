abbrev rm_X5_init : Room := { frames := 1, cells := 9, slots := 128, locals := 20 }
theorem mi_X5_init : zMK yX5_init cX5_init 2 0 := ⟨⟨tw_1_27, tw_1_2, tw_1_28⟩, ⟨by decide +kernel, by decide +kernel, by decide +kernel⟩, rfl⟩
set_option maxHeartbeats 4000000 in
set_option maxRecDepth 100000 in
theorem k_X5_init (l : Launch) (D : va_G) (c : Nat → ClassId) (t0 : Nat) : zMC l D c yX5_init cX5_init 2 rm_X5_init t0 [(t0, .inr (5, [.null, .null, .int 0, .null, .null, .null, .null, .null, .int 0, .null, .null, .int 0, .int 0]))] (fun u => wX5 c t0 (u 0 0) (u 1 0) (u 2 0) (u 3 0) (u 4 0) (u 5 0) (u 6 0) (u 7 0) (u 8 0) (zNums 26) (fun _ => 0) 0 (fun _ => 0) (fun _ => 0) (fun _ => 0) (fun _ => 0) (fun _ => 0) 0 (fun _ => 0) (fun _ => 0) 0 3) 9 128 := by
  intro sz
  refine zIW (by decide) (Nat.le_of_ble_eq_true rfl) ?_
  intro p e s m args below meth c0 Q A hAe hQ hx hb hr hlk hml hts hown hP hE hD hS hA hsz hmn hX ls hl
  rw [← hAe] at hQ
  have S : CallFix p m c0 cX5_init 2 s args zT RX5 := ⟨hx, hb, hml, hown, hts⟩
  have hl : lv_has ls 2 [(0, .ref t0)] := hl
  refine lv_aload_n hx hb dX5_init_0 rfl (lv_at hl 0 rfl) ?_
  refine zobj S tw_1_29 tw_1_22 tw_1_23 hl.1 (Nat.le_of_ble_eq_true rfl) (Nat.le_of_ble_eq_true rfl) dX5_init_1 ?_
  refine lv_aload_n hx hb dX5_init_4 rfl (lv_at hl 0 rfl) ?_
  refine lv_bipush (v := (26 : Int32)) hx hb dX5_init_5 (by decide) ?_
  refine znai (N' := 26) hx hb hts tw_1_94 hE hP hD hS hA (by decide) (by decide) (Nat.le_of_ble_eq_true rfl) (Nat.le_of_ble_eq_true rfl) (Nat.le_of_ble_eq_true rfl) dX5_init_7 (fun q1 H hP hD hS => ?_)
  have hP : va_P D vwCl [(t0, .inr (5, [.null, .null, .int 0, .null, .null, .null, .null, .null, .int 0, .null, .null, .int 0, .int 0])), (q1, .inl (c 0, 26, .inl (fun _ => 0)))] H := hP
  have hD : va_D A [(t0, .inr (5, [.null, .null, .int 0, .null, .null, .null, .null, .null, .int 0, .null, .null, .int 0, .int 0])), (q1, .inl (c 0, 26, .inl (fun _ => 0)))] := hD
  refine zpuf S uw_X5 tyX5_ok nmX5 hE hmn hP hD hS 0 0 (ty := tyX5 0) [(t0, .inr (5, [.ref q1, .null, .int 0, .null, .null, .null, .null, .null, .int 0, .null, .null, .int 0, .int 0])), (q1, .inl (c 0, 26, .inl (fun _ => 0)))] rfl rfl (by decide) tw_1_30 rfl rfl rfl (tyX5_ok 0 (by decide)) rfl rfl (Nat.le_of_ble_eq_true rfl) rfl dX5_init_9 (fun H locs hP hD hS => ?_)
  refine lv_aload_n hx hb dX5_init_12 rfl (lv_at hl 0 rfl) ?_
  refine lv_bipush (v := (10 : Int32)) hx hb dX5_init_13 (by decide) ?_
  refine znal (N' := 10) hx hb hts tw_1_95 hE hP hD hS hA (by decide) (by decide) (Nat.le_of_ble_eq_true rfl) (Nat.le_of_ble_eq_true rfl) (Nat.le_of_ble_eq_true rfl) dX5_init_15 (fun q2 H hP hD hS => ?_)
  have hP : va_P D vwCl [(t0, .inr (5, [.ref q1, .null, .int 0, .null, .null, .null, .null, .null, .int 0, .null, .null, .int 0, .int 0])), (q1, .inl (c 0, 26, .inl (fun _ => 0))), (q2, .inl (c 1, 10, .inr (.inl (fun _ => 0))))] H := hP
  have hD : va_D A [(t0, .inr (5, [.ref q1, .null, .int 0, .null, .null, .null, .null, .null, .int 0, .null, .null, .int 0, .int 0])), (q1, .inl (c 0, 26, .inl (fun _ => 0))), (q2, .inl (c 1, 10, .inr (.inl (fun _ => 0))))] := hD
  refine zpuf S uw_X5 tyX5_ok nmX5 hE hmn hP hD hS 0 1 (ty := tyX5 1) [(t0, .inr (5, [.ref q1, .ref q2, .int 0, .null, .null, .null, .null, .null, .int 0, .null, .null, .int 0, .int 0])), (q1, .inl (c 0, 26, .inl (fun _ => 0))), (q2, .inl (c 1, 10, .inr (.inl (fun _ => 0))))] rfl rfl (by decide) tw_1_33 rfl rfl rfl (tyX5_ok 1 (by decide)) rfl rfl (Nat.le_of_ble_eq_true rfl) rfl dX5_init_17 (fun H locs hP hD hS => ?_)
  refine lv_aload_n hx hb dX5_init_20 rfl (lv_at hl 0 rfl) ?_
  refine lv_iconst (v := (0 : Int32)) hx hb dX5_init_21 (by decide) ?_
  refine zput S uw_X5 tyX5_ok nmX5 hE hP hD hS 0 2 (ty := .int) [(t0, .inr (5, [.ref q1, .ref q2, .int (0 : Int32), .null, .null, .null, .null, .null, .int 0, .null, .null, .int 0, .int 0])), (q1, .inl (c 0, 26, .inl (fun _ => 0))), (q2, .inl (c 1, 10, .inr (.inl (fun _ => 0))))] rfl rfl (by decide) tw_1_36 rfl rfl (by decide +kernel) rfl rfl (Nat.le_of_ble_eq_true rfl) rfl dX5_init_22 (fun H locs hP hD hS => ?_)
  refine lv_aload_n hx hb dX5_init_25 rfl (lv_at hl 0 rfl) ?_
  refine lv_bipush (v := (16 : Int32)) hx hb dX5_init_26 (by decide) ?_
  refine znai (N' := 16) hx hb hts tw_1_94 hE hP hD hS hA (by decide) (by decide) (Nat.le_of_ble_eq_true rfl) (Nat.le_of_ble_eq_true rfl) (Nat.le_of_ble_eq_true rfl) dX5_init_28 (fun q3 H hP hD hS => ?_)
  have hP : va_P D vwCl [(t0, .inr (5, [.ref q1, .ref q2, .int (0 : Int32), .null, .null, .null, .null, .null, .int 0, .null, .null, .int 0, .int 0])), (q1, .inl (c 0, 26, .inl (fun _ => 0))), (q2, .inl (c 1, 10, .inr (.inl (fun _ => 0)))), (q3, .inl (c 0, 16, .inl (fun _ => 0)))] H := hP
  have hD : va_D A [(t0, .inr (5, [.ref q1, .ref q2, .int (0 : Int32), .null, .null, .null, .null, .null, .int 0, .null, .null, .int 0, .int 0])), (q1, .inl (c 0, 26, .inl (fun _ => 0))), (q2, .inl (c 1, 10, .inr (.inl (fun _ => 0)))), (q3, .inl (c 0, 16, .inl (fun _ => 0)))] := hD
  refine zpuf S uw_X5 tyX5_ok nmX5 hE hmn hP hD hS 0 3 (ty := tyX5 3) [(t0, .inr (5, [.ref q1, .ref q2, .int (0 : Int32), .ref q3, .null, .null, .null, .null, .int 0, .null, .null, .int 0, .int 0])), (q1, .inl (c 0, 26, .inl (fun _ => 0))), (q2, .inl (c 1, 10, .inr (.inl (fun _ => 0)))), (q3, .inl (c 0, 16, .inl (fun _ => 0)))] rfl rfl (by decide) tw_1_40 rfl rfl rfl (tyX5_ok 3 (by decide)) rfl rfl (Nat.le_of_ble_eq_true rfl) rfl dX5_init_30 (fun H locs hP hD hS => ?_)
  refine lv_aload_n hx hb dX5_init_33 rfl (lv_at hl 0 rfl) ?_
  refine lv_bipush (v := (16 : Int32)) hx hb dX5_init_34 (by decide) ?_
  refine znal (N' := 16) hx hb hts tw_1_95 hE hP hD hS hA (by decide) (by decide) (Nat.le_of_ble_eq_true rfl) (Nat.le_of_ble_eq_true rfl) (Nat.le_of_ble_eq_true rfl) dX5_init_36 (fun q4 H hP hD hS => ?_)
  have hP : va_P D vwCl [(t0, .inr (5, [.ref q1, .ref q2, .int (0 : Int32), .ref q3, .null, .null, .null, .null, .int 0, .null, .null, .int 0, .int 0])), (q1, .inl (c 0, 26, .inl (fun _ => 0))), (q2, .inl (c 1, 10, .inr (.inl (fun _ => 0)))), (q3, .inl (c 0, 16, .inl (fun _ => 0))), (q4, .inl (c 1, 16, .inr (.inl (fun _ => 0))))] H := hP
  have hD : va_D A [(t0, .inr (5, [.ref q1, .ref q2, .int (0 : Int32), .ref q3, .null, .null, .null, .null, .int 0, .null, .null, .int 0, .int 0])), (q1, .inl (c 0, 26, .inl (fun _ => 0))), (q2, .inl (c 1, 10, .inr (.inl (fun _ => 0)))), (q3, .inl (c 0, 16, .inl (fun _ => 0))), (q4, .inl (c 1, 16, .inr (.inl (fun _ => 0))))] := hD
  refine zpuf S uw_X5 tyX5_ok nmX5 hE hmn hP hD hS 0 4 (ty := tyX5 4) [(t0, .inr (5, [.ref q1, .ref q2, .int (0 : Int32), .ref q3, .ref q4, .null, .null, .null, .int 0, .null, .null, .int 0, .int 0])), (q1, .inl (c 0, 26, .inl (fun _ => 0))), (q2, .inl (c 1, 10, .inr (.inl (fun _ => 0)))), (q3, .inl (c 0, 16, .inl (fun _ => 0))), (q4, .inl (c 1, 16, .inr (.inl (fun _ => 0))))] rfl rfl (by decide) tw_1_43 rfl rfl rfl (tyX5_ok 4 (by decide)) rfl rfl (Nat.le_of_ble_eq_true rfl) rfl dX5_init_38 (fun H locs hP hD hS => ?_)
  refine lv_aload_n hx hb dX5_init_41 rfl (lv_at hl 0 rfl) ?_
  refine lv_bipush (v := (16 : Int32)) hx hb dX5_init_42 (by decide) ?_
  refine znai (N' := 16) hx hb hts tw_1_94 hE hP hD hS hA (by decide) (by decide) (Nat.le_of_ble_eq_true rfl) (Nat.le_of_ble_eq_true rfl) (Nat.le_of_ble_eq_true rfl) dX5_init_44 (fun q5 H hP hD hS => ?_)
  have hP : va_P D vwCl [(t0, .inr (5, [.ref q1, .ref q2, .int (0 : Int32), .ref q3, .ref q4, .null, .null, .null, .int 0, .null, .null, .int 0, .int 0])), (q1, .inl (c 0, 26, .inl (fun _ => 0))), (q2, .inl (c 1, 10, .inr (.inl (fun _ => 0)))), (q3, .inl (c 0, 16, .inl (fun _ => 0))), (q4, .inl (c 1, 16, .inr (.inl (fun _ => 0)))), (q5, .inl (c 0, 16, .inl (fun _ => 0)))] H := hP
  have hD : va_D A [(t0, .inr (5, [.ref q1, .ref q2, .int (0 : Int32), .ref q3, .ref q4, .null, .null, .null, .int 0, .null, .null, .int 0, .int 0])), (q1, .inl (c 0, 26, .inl (fun _ => 0))), (q2, .inl (c 1, 10, .inr (.inl (fun _ => 0)))), (q3, .inl (c 0, 16, .inl (fun _ => 0))), (q4, .inl (c 1, 16, .inr (.inl (fun _ => 0)))), (q5, .inl (c 0, 16, .inl (fun _ => 0)))] := hD
  refine zpuf S uw_X5 tyX5_ok nmX5 hE hmn hP hD hS 0 5 (ty := tyX5 5) [(t0, .inr (5, [.ref q1, .ref q2, .int (0 : Int32), .ref q3, .ref q4, .ref q5, .null, .null, .int 0, .null, .null, .int 0, .int 0])), (q1, .inl (c 0, 26, .inl (fun _ => 0))), (q2, .inl (c 1, 10, .inr (.inl (fun _ => 0)))), (q3, .inl (c 0, 16, .inl (fun _ => 0))), (q4, .inl (c 1, 16, .inr (.inl (fun _ => 0)))), (q5, .inl (c 0, 16, .inl (fun _ => 0)))] rfl rfl (by decide) tw_1_47 rfl rfl rfl (tyX5_ok 5 (by decide)) rfl rfl (Nat.le_of_ble_eq_true rfl) rfl dX5_init_46 (fun H locs hP hD hS => ?_)
  refine lv_aload_n hx hb dX5_init_49 rfl (lv_at hl 0 rfl) ?_
  refine lv_bipush (v := (16 : Int32)) hx hb dX5_init_50 (by decide) ?_
  refine znai (N' := 16) hx hb hts tw_1_94 hE hP hD hS hA (by decide) (by decide) (Nat.le_of_ble_eq_true rfl) (Nat.le_of_ble_eq_true rfl) (Nat.le_of_ble_eq_true rfl) dX5_init_52 (fun q6 H hP hD hS => ?_)
  have hP : va_P D vwCl [(t0, .inr (5, [.ref q1, .ref q2, .int (0 : Int32), .ref q3, .ref q4, .ref q5, .null, .null, .int 0, .null, .null, .int 0, .int 0])), (q1, .inl (c 0, 26, .inl (fun _ => 0))), (q2, .inl (c 1, 10, .inr (.inl (fun _ => 0)))), (q3, .inl (c 0, 16, .inl (fun _ => 0))), (q4, .inl (c 1, 16, .inr (.inl (fun _ => 0)))), (q5, .inl (c 0, 16, .inl (fun _ => 0))), (q6, .inl (c 0, 16, .inl (fun _ => 0)))] H := hP
  have hD : va_D A [(t0, .inr (5, [.ref q1, .ref q2, .int (0 : Int32), .ref q3, .ref q4, .ref q5, .null, .null, .int 0, .null, .null, .int 0, .int 0])), (q1, .inl (c 0, 26, .inl (fun _ => 0))), (q2, .inl (c 1, 10, .inr (.inl (fun _ => 0)))), (q3, .inl (c 0, 16, .inl (fun _ => 0))), (q4, .inl (c 1, 16, .inr (.inl (fun _ => 0)))), (q5, .inl (c 0, 16, .inl (fun _ => 0))), (q6, .inl (c 0, 16, .inl (fun _ => 0)))] := hD
  refine zpuf S uw_X5 tyX5_ok nmX5 hE hmn hP hD hS 0 6 (ty := tyX5 6) [(t0, .inr (5, [.ref q1, .ref q2, .int (0 : Int32), .ref q3, .ref q4, .ref q5, .ref q6, .null, .int 0, .null, .null, .int 0, .int 0])), (q1, .inl (c 0, 26, .inl (fun _ => 0))), (q2, .inl (c 1, 10, .inr (.inl (fun _ => 0)))), (q3, .inl (c 0, 16, .inl (fun _ => 0))), (q4, .inl (c 1, 16, .inr (.inl (fun _ => 0)))), (q5, .inl (c 0, 16, .inl (fun _ => 0))), (q6, .inl (c 0, 16, .inl (fun _ => 0)))] rfl rfl (by decide) tw_1_49 rfl rfl rfl (tyX5_ok 6 (by decide)) rfl rfl (Nat.le_of_ble_eq_true rfl) rfl dX5_init_54 (fun H locs hP hD hS => ?_)
  refine lv_aload_n hx hb dX5_init_57 rfl (lv_at hl 0 rfl) ?_
  refine lv_bipush (v := (16 : Int32)) hx hb dX5_init_58 (by decide) ?_
  refine znai (N' := 16) hx hb hts tw_1_94 hE hP hD hS hA (by decide) (by decide) (Nat.le_of_ble_eq_true rfl) (Nat.le_of_ble_eq_true rfl) (Nat.le_of_ble_eq_true rfl) dX5_init_60 (fun q7 H hP hD hS => ?_)
  have hP : va_P D vwCl [(t0, .inr (5, [.ref q1, .ref q2, .int (0 : Int32), .ref q3, .ref q4, .ref q5, .ref q6, .null, .int 0, .null, .null, .int 0, .int 0])), (q1, .inl (c 0, 26, .inl (fun _ => 0))), (q2, .inl (c 1, 10, .inr (.inl (fun _ => 0)))), (q3, .inl (c 0, 16, .inl (fun _ => 0))), (q4, .inl (c 1, 16, .inr (.inl (fun _ => 0)))), (q5, .inl (c 0, 16, .inl (fun _ => 0))), (q6, .inl (c 0, 16, .inl (fun _ => 0))), (q7, .inl (c 0, 16, .inl (fun _ => 0)))] H := hP
  have hD : va_D A [(t0, .inr (5, [.ref q1, .ref q2, .int (0 : Int32), .ref q3, .ref q4, .ref q5, .ref q6, .null, .int 0, .null, .null, .int 0, .int 0])), (q1, .inl (c 0, 26, .inl (fun _ => 0))), (q2, .inl (c 1, 10, .inr (.inl (fun _ => 0)))), (q3, .inl (c 0, 16, .inl (fun _ => 0))), (q4, .inl (c 1, 16, .inr (.inl (fun _ => 0)))), (q5, .inl (c 0, 16, .inl (fun _ => 0))), (q6, .inl (c 0, 16, .inl (fun _ => 0))), (q7, .inl (c 0, 16, .inl (fun _ => 0)))] := hD
  refine zpuf S uw_X5 tyX5_ok nmX5 hE hmn hP hD hS 0 7 (ty := tyX5 7) [(t0, .inr (5, [.ref q1, .ref q2, .int (0 : Int32), .ref q3, .ref q4, .ref q5, .ref q6, .ref q7, .int 0, .null, .null, .int 0, .int 0])), (q1, .inl (c 0, 26, .inl (fun _ => 0))), (q2, .inl (c 1, 10, .inr (.inl (fun _ => 0)))), (q3, .inl (c 0, 16, .inl (fun _ => 0))), (q4, .inl (c 1, 16, .inr (.inl (fun _ => 0)))), (q5, .inl (c 0, 16, .inl (fun _ => 0))), (q6, .inl (c 0, 16, .inl (fun _ => 0))), (q7, .inl (c 0, 16, .inl (fun _ => 0)))] rfl rfl (by decide) tw_1_51 rfl rfl rfl (tyX5_ok 7 (by decide)) rfl rfl (Nat.le_of_ble_eq_true rfl) rfl dX5_init_62 (fun H locs hP hD hS => ?_)
  refine lv_aload_n hx hb dX5_init_65 rfl (lv_at hl 0 rfl) ?_
  refine lv_iconst (v := (0 : Int32)) hx hb dX5_init_66 (by decide) ?_
  refine zput S uw_X5 tyX5_ok nmX5 hE hP hD hS 0 8 (ty := .int) [(t0, .inr (5, [.ref q1, .ref q2, .int (0 : Int32), .ref q3, .ref q4, .ref q5, .ref q6, .ref q7, .int (0 : Int32), .null, .null, .int 0, .int 0])), (q1, .inl (c 0, 26, .inl (fun _ => 0))), (q2, .inl (c 1, 10, .inr (.inl (fun _ => 0)))), (q3, .inl (c 0, 16, .inl (fun _ => 0))), (q4, .inl (c 1, 16, .inr (.inl (fun _ => 0)))), (q5, .inl (c 0, 16, .inl (fun _ => 0))), (q6, .inl (c 0, 16, .inl (fun _ => 0))), (q7, .inl (c 0, 16, .inl (fun _ => 0)))] rfl rfl (by decide) tw_1_53 rfl rfl (by decide +kernel) rfl rfl (Nat.le_of_ble_eq_true rfl) rfl dX5_init_67 (fun H locs hP hD hS => ?_)
  refine lv_aload_n hx hb dX5_init_70 rfl (lv_at hl 0 rfl) ?_
  refine lv_bipush (v := (6 : Int32)) hx hb dX5_init_71 (by decide) ?_
  refine znai (N' := 6) hx hb hts tw_1_94 hE hP hD hS hA (by decide) (by decide) (Nat.le_of_ble_eq_true rfl) (Nat.le_of_ble_eq_true rfl) (Nat.le_of_ble_eq_true rfl) dX5_init_73 (fun q8 H hP hD hS => ?_)
  have hP : va_P D vwCl [(t0, .inr (5, [.ref q1, .ref q2, .int (0 : Int32), .ref q3, .ref q4, .ref q5, .ref q6, .ref q7, .int (0 : Int32), .null, .null, .int 0, .int 0])), (q1, .inl (c 0, 26, .inl (fun _ => 0))), (q2, .inl (c 1, 10, .inr (.inl (fun _ => 0)))), (q3, .inl (c 0, 16, .inl (fun _ => 0))), (q4, .inl (c 1, 16, .inr (.inl (fun _ => 0)))), (q5, .inl (c 0, 16, .inl (fun _ => 0))), (q6, .inl (c 0, 16, .inl (fun _ => 0))), (q7, .inl (c 0, 16, .inl (fun _ => 0))), (q8, .inl (c 0, 6, .inl (fun _ => 0)))] H := hP
  have hD : va_D A [(t0, .inr (5, [.ref q1, .ref q2, .int (0 : Int32), .ref q3, .ref q4, .ref q5, .ref q6, .ref q7, .int (0 : Int32), .null, .null, .int 0, .int 0])), (q1, .inl (c 0, 26, .inl (fun _ => 0))), (q2, .inl (c 1, 10, .inr (.inl (fun _ => 0)))), (q3, .inl (c 0, 16, .inl (fun _ => 0))), (q4, .inl (c 1, 16, .inr (.inl (fun _ => 0)))), (q5, .inl (c 0, 16, .inl (fun _ => 0))), (q6, .inl (c 0, 16, .inl (fun _ => 0))), (q7, .inl (c 0, 16, .inl (fun _ => 0))), (q8, .inl (c 0, 6, .inl (fun _ => 0)))] := hD
  refine zpuf S uw_X5 tyX5_ok nmX5 hE hmn hP hD hS 0 9 (ty := tyX5 9) [(t0, .inr (5, [.ref q1, .ref q2, .int (0 : Int32), .ref q3, .ref q4, .ref q5, .ref q6, .ref q7, .int (0 : Int32), .ref q8, .null, .int 0, .int 0])), (q1, .inl (c 0, 26, .inl (fun _ => 0))), (q2, .inl (c 1, 10, .inr (.inl (fun _ => 0)))), (q3, .inl (c 0, 16, .inl (fun _ => 0))), (q4, .inl (c 1, 16, .inr (.inl (fun _ => 0)))), (q5, .inl (c 0, 16, .inl (fun _ => 0))), (q6, .inl (c 0, 16, .inl (fun _ => 0))), (q7, .inl (c 0, 16, .inl (fun _ => 0))), (q8, .inl (c 0, 6, .inl (fun _ => 0)))] rfl rfl (by decide) tw_1_57 rfl rfl rfl (tyX5_ok 9 (by decide)) rfl rfl (Nat.le_of_ble_eq_true rfl) rfl dX5_init_75 (fun H locs hP hD hS => ?_)
  refine lv_aload_n hx hb dX5_init_78 rfl (lv_at hl 0 rfl) ?_
  refine lv_bipush (v := (6 : Int32)) hx hb dX5_init_79 (by decide) ?_
  refine znai (N' := 6) hx hb hts tw_1_94 hE hP hD hS hA (by decide) (by decide) (Nat.le_of_ble_eq_true rfl) (Nat.le_of_ble_eq_true rfl) (Nat.le_of_ble_eq_true rfl) dX5_init_81 (fun q9 H hP hD hS => ?_)
  have hP : va_P D vwCl [(t0, .inr (5, [.ref q1, .ref q2, .int (0 : Int32), .ref q3, .ref q4, .ref q5, .ref q6, .ref q7, .int (0 : Int32), .ref q8, .null, .int 0, .int 0])), (q1, .inl (c 0, 26, .inl (fun _ => 0))), (q2, .inl (c 1, 10, .inr (.inl (fun _ => 0)))), (q3, .inl (c 0, 16, .inl (fun _ => 0))), (q4, .inl (c 1, 16, .inr (.inl (fun _ => 0)))), (q5, .inl (c 0, 16, .inl (fun _ => 0))), (q6, .inl (c 0, 16, .inl (fun _ => 0))), (q7, .inl (c 0, 16, .inl (fun _ => 0))), (q8, .inl (c 0, 6, .inl (fun _ => 0))), (q9, .inl (c 0, 6, .inl (fun _ => 0)))] H := hP
  have hD : va_D A [(t0, .inr (5, [.ref q1, .ref q2, .int (0 : Int32), .ref q3, .ref q4, .ref q5, .ref q6, .ref q7, .int (0 : Int32), .ref q8, .null, .int 0, .int 0])), (q1, .inl (c 0, 26, .inl (fun _ => 0))), (q2, .inl (c 1, 10, .inr (.inl (fun _ => 0)))), (q3, .inl (c 0, 16, .inl (fun _ => 0))), (q4, .inl (c 1, 16, .inr (.inl (fun _ => 0)))), (q5, .inl (c 0, 16, .inl (fun _ => 0))), (q6, .inl (c 0, 16, .inl (fun _ => 0))), (q7, .inl (c 0, 16, .inl (fun _ => 0))), (q8, .inl (c 0, 6, .inl (fun _ => 0))), (q9, .inl (c 0, 6, .inl (fun _ => 0)))] := hD
  refine zpuf S uw_X5 tyX5_ok nmX5 hE hmn hP hD hS 0 10 (ty := tyX5 10) [(t0, .inr (5, [.ref q1, .ref q2, .int (0 : Int32), .ref q3, .ref q4, .ref q5, .ref q6, .ref q7, .int (0 : Int32), .ref q8, .ref q9, .int 0, .int 0])), (q1, .inl (c 0, 26, .inl (fun _ => 0))), (q2, .inl (c 1, 10, .inr (.inl (fun _ => 0)))), (q3, .inl (c 0, 16, .inl (fun _ => 0))), (q4, .inl (c 1, 16, .inr (.inl (fun _ => 0)))), (q5, .inl (c 0, 16, .inl (fun _ => 0))), (q6, .inl (c 0, 16, .inl (fun _ => 0))), (q7, .inl (c 0, 16, .inl (fun _ => 0))), (q8, .inl (c 0, 6, .inl (fun _ => 0))), (q9, .inl (c 0, 6, .inl (fun _ => 0)))] rfl rfl (by decide) tw_1_59 rfl rfl rfl (tyX5_ok 10 (by decide)) rfl rfl (Nat.le_of_ble_eq_true rfl) rfl dX5_init_83 (fun H locs hP hD hS => ?_)
  refine lv_aload_n hx hb dX5_init_86 rfl (lv_at hl 0 rfl) ?_
  refine lv_iconst (v := (0 : Int32)) hx hb dX5_init_87 (by decide) ?_
  refine zput S uw_X5 tyX5_ok nmX5 hE hP hD hS 0 11 (ty := .int) [(t0, .inr (5, [.ref q1, .ref q2, .int (0 : Int32), .ref q3, .ref q4, .ref q5, .ref q6, .ref q7, .int (0 : Int32), .ref q8, .ref q9, .int (0 : Int32), .int 0])), (q1, .inl (c 0, 26, .inl (fun _ => 0))), (q2, .inl (c 1, 10, .inr (.inl (fun _ => 0)))), (q3, .inl (c 0, 16, .inl (fun _ => 0))), (q4, .inl (c 1, 16, .inr (.inl (fun _ => 0)))), (q5, .inl (c 0, 16, .inl (fun _ => 0))), (q6, .inl (c 0, 16, .inl (fun _ => 0))), (q7, .inl (c 0, 16, .inl (fun _ => 0))), (q8, .inl (c 0, 6, .inl (fun _ => 0))), (q9, .inl (c 0, 6, .inl (fun _ => 0)))] rfl rfl (by decide) tw_1_61 rfl rfl (by decide +kernel) rfl rfl (Nat.le_of_ble_eq_true rfl) rfl dX5_init_88 (fun H locs hP hD hS => ?_)
  refine lv_aload_n hx hb dX5_init_91 rfl (lv_at hl 0 rfl) ?_
  refine lv_iconst (v := (3 : Int32)) hx hb dX5_init_92 (by decide) ?_
  refine zput S uw_X5 tyX5_ok nmX5 hE hP hD hS 0 12 (ty := .int) [(t0, .inr (5, [.ref q1, .ref q2, .int (0 : Int32), .ref q3, .ref q4, .ref q5, .ref q6, .ref q7, .int (0 : Int32), .ref q8, .ref q9, .int (0 : Int32), .int (3 : Int32)])), (q1, .inl (c 0, 26, .inl (fun _ => 0))), (q2, .inl (c 1, 10, .inr (.inl (fun _ => 0)))), (q3, .inl (c 0, 16, .inl (fun _ => 0))), (q4, .inl (c 1, 16, .inr (.inl (fun _ => 0)))), (q5, .inl (c 0, 16, .inl (fun _ => 0))), (q6, .inl (c 0, 16, .inl (fun _ => 0))), (q7, .inl (c 0, 16, .inl (fun _ => 0))), (q8, .inl (c 0, 6, .inl (fun _ => 0))), (q9, .inl (c 0, 6, .inl (fun _ => 0)))] rfl rfl (by decide) tw_1_64 rfl rfl (by decide +kernel) rfl rfl (Nat.le_of_ble_eq_true rfl) rfl dX5_init_93 (fun H locs hP hD hS => ?_)
  have hP : va_P D vwCl (wX5 c t0 q1 q2 q3 q4 q5 q6 q7 q8 q9 (zNums 0) (fun _ => 0) (0 : Int32) (fun _ => 0) (fun _ => 0) (fun _ => 0) (fun _ => 0) (fun _ => 0) (0 : Int32) (fun _ => 0) (fun _ => 0) (0 : Int32) (3 : Int32)) H := zpsub (is := [0, 1, 2, 3, 4, 5, 6, 7, 8, 9]) hP rfl
  have hD : va_D A (wX5 c t0 q1 q2 q3 q4 q5 q6 q7 q8 q9 (zNums 0) (fun _ => 0) (0 : Int32) (fun _ => 0) (fun _ => 0) (fun _ => 0) (fun _ => 0) (fun _ => 0) (0 : Int32) (fun _ => 0) (fun _ => 0) (0 : Int32) (3 : Int32)) := hD.sub [0, 1, 2, 3, 4, 5, 6, 7, 8, 9] rfl rfl
  have hL : ∀ (n k : Nat) (H : Heap) (locs : List Loc) (ls : Array Slot), k + n = 26 → va_P D vwCl (wX5 c t0 q1 q2 q3 q4 q5 q6 q7 q8 q9 (zNums k) (fun _ => 0) (0 : Int32) (fun _ => 0) (fun _ => 0) (fun _ => 0) (fun _ => 0) (fun _ => 0) (0 : Int32) (fun _ => 0) (fun _ => 0) (0 : Int32) (3 : Int32)) H → va_D A (wX5 c t0 q1 q2 q3 q4 q5 q6 q7 q8 q9 (zNums k) (fun _ => 0) (0 : Int32) (fun _ => 0) (fun _ => 0) (fun _ => 0) (fun _ => 0) (fun _ => 0) (0 : Int32) (fun _ => 0) (fun _ => 0) (0 : Int32) (3 : Int32)) → va_S A s.heap H locs → lv_has ls 2 [(1, .int (Int32.ofNat k)), (0, .ref t0)] → W p l e rm_X5_init s m args below meth c0 H locs 9 128 Q (F0 m 98 ls []) := by
    intro n
    induction n with
    | zero =>
      intro k H locs ls hk hP hD hS hl
      have hk : k = 26 := by omega
      subst hk
      refine lv_iload_n hx hb dX5_init_98 rfl (lv_at hl 0 rfl) ?_
      refine lv_bipush (v := (26 : Int32)) hx hb dX5_init_99 (by decide) ?_
      refine lv_icmp_ge (tgt := 119) hx hb dX5_init_101 (by decide) (fun _ => ?_) (fun h => absurd (by decide) h)
      exact zRC (B := fun u => wX5 c t0 (u 0 0) (u 1 0) (u 2 0) (u 3 0) (u 4 0) (u 5 0) (u 6 0) (u 7 0) (u 8 0) (zNums 26) (fun _ => 0) 0 (fun _ => 0) (fun _ => 0) (fun _ => 0) (fun _ => 0) (fun _ => 0) 0 (fun _ => 0) (fun _ => 0) 0 3) (fun k _ => [q1, q2, q3, q4, q5, q6, q7, q8, q9].getD k 0) hAe hQ hx hb hr hlk hP hD hS dX5_init_119
    | succ n ih =>
      intro k H locs ls hk hP hD hS hl
      refine lv_iload_n hx hb dX5_init_98 rfl (lv_at hl 0 rfl) ?_
      refine lv_bipush (v := (26 : Int32)) hx hb dX5_init_99 (by decide) ?_
      refine lv_icmp_ge (tgt := 119) hx hb dX5_init_101 (by decide) (fun h => absurd h (nI_ge (a := k) (b := 26) (by omega) (by omega))) (fun _ => ?_)
      refine lv_aload_n hx hb dX5_init_104 rfl (lv_at hl 1 rfl) ?_
      refine zget S uw_X5 hE hP 0 0 rfl rfl (by decide) tw_1_30 rfl rfl dX5_init_105 ?_
      refine lv_iload_n hx hb dX5_init_108 rfl (lv_at hl 0 rfl) ?_
      refine lv_iload_n hx hb dX5_init_109 rfl (lv_at hl 0 rfl) ?_
      refine lv_iconst (v := (1 : Int32)) hx hb dX5_init_110 (by decide) ?_
      refine lv_iadd hx hb dX5_init_111 ?_
      refine zti (nI_1 k) ?_
      refine zist hx hb hE hP hD hS 1 (wX5 c t0 q1 q2 q3 q4 q5 q6 q7 q8 q9 (zNums (k + 1)) (fun _ => 0) (0 : Int32) (fun _ => 0) (fun _ => 0) (fun _ => 0) (fun _ => 0) (fun _ => 0) (0 : Int32) (fun _ => 0) (fun _ => 0) (0 : Int32) (3 : Int32)) rfl rfl rfl (vp_in_nI (by omega) (by omega)) dX5_init_112 (fun H locs hP hD hS => ?_)
      refine lv_iinc (v := Int32.ofNat (k + 1)) (lv' := [(1, .int (Int32.ofNat (k + 1))), (0, .ref t0)]) hx hb dX5_init_113 hl (k := 0) rfl (nI_1 k) (by decide) rfl (fun ls hl => ?_)
      refine lv_goto (tgt := 98) hx hb dX5_init_116 (by decide) ?_
      exact ih (k + 1) H locs ls (by omega) hP hD hS hl
  refine lv_iconst (v := (0 : Int32)) hx hb dX5_init_96 (by decide) ?_
  refine lv_istore_n (lv' := [(1, .int (0 : Int32)), (0, .ref t0)]) hx hb dX5_init_97 rfl hl (by decide) rfl (fun ls hl => ?_)
  exact hL 26 0 H locs ls rfl hP hD hS hl
abbrev rm_X0_init : Room := { frames := 1, cells := 4, slots := 1140, locals := 20 }
theorem mi_X0_init : zMK yX0_init cX0_init 1 0 := ⟨⟨tw_1_145, tw_1_4, tw_1_146⟩, ⟨by decide +kernel, by decide +kernel, by decide +kernel⟩, rfl⟩
set_option maxHeartbeats 4000000 in
set_option maxRecDepth 100000 in
theorem k_X0_init (l : Launch) (D : va_G) (c : Nat → ClassId) (t0 : Nat) : zMC l D c yX0_init cX0_init 1 rm_X0_init t0 [(t0, .inr (0, [.null, .int 0, .null, .null, .null, .int 0, .int 0, .int 0]))] (fun u => wX0 c t0 (u 0 0) (u 1 0) (u 2 0) (u 3 0) (fun _ => 0) 0 (fun _ => 0) (fun _ => 0) (fun _ => 0) 0 0 0) 4 1140 := by
  intro sz
  refine zIW (by decide) (Nat.le_of_ble_eq_true rfl) ?_
  intro p e s m args below meth c0 Q A hAe hQ hx hb hr hlk hml hts hown hP hE hD hS hA hsz hmn hX ls hl
  rw [← hAe] at hQ
  have S : CallFix p m c0 cX0_init 1 s args zT RX0 := ⟨hx, hb, hml, hown, hts⟩
  have hl : lv_has ls 1 [(0, .ref t0)] := hl
  refine lv_aload_n hx hb dX0_init_0 rfl (lv_at hl 0 rfl) ?_
  refine zobj S tw_1_147 tw_1_22 tw_1_23 hl.1 (Nat.le_of_ble_eq_true rfl) (Nat.le_of_ble_eq_true rfl) dX0_init_1 ?_
  refine lv_aload_n hx hb dX0_init_4 rfl (lv_at hl 0 rfl) ?_
  refine lv_sipush (v := (1110 : Int32)) hx hb dX0_init_5 (by decide) ?_
  refine znal (N' := 1110) hx hb hts tw_1_95 hE hP hD hS hA (by decide) (by decide) (Nat.le_of_ble_eq_true rfl) (Nat.le_of_ble_eq_true rfl) (Nat.le_of_ble_eq_true rfl) dX0_init_8 (fun q1 H hP hD hS => ?_)
  have hP : va_P D vwCl [(t0, .inr (0, [.null, .int 0, .null, .null, .null, .int 0, .int 0, .int 0])), (q1, .inl (c 1, 1110, .inr (.inl (fun _ => 0))))] H := hP
  have hD : va_D A [(t0, .inr (0, [.null, .int 0, .null, .null, .null, .int 0, .int 0, .int 0])), (q1, .inl (c 1, 1110, .inr (.inl (fun _ => 0))))] := hD
  refine zpuf S uw_X0 tyX0_ok nmX0 hE hmn hP hD hS 0 0 (ty := tyX0 0) [(t0, .inr (0, [.ref q1, .int 0, .null, .null, .null, .int 0, .int 0, .int 0])), (q1, .inl (c 1, 1110, .inr (.inl (fun _ => 0))))] rfl rfl (by decide) tw_1_148 rfl rfl rfl (tyX0_ok 0 (by decide)) rfl rfl (Nat.le_of_ble_eq_true rfl) rfl dX0_init_10 (fun H locs hP hD hS => ?_)
  refine lv_aload_n hx hb dX0_init_13 rfl (lv_at hl 0 rfl) ?_
  refine lv_iconst (v := (0 : Int32)) hx hb dX0_init_14 (by decide) ?_
  refine zput S uw_X0 tyX0_ok nmX0 hE hP hD hS 0 1 (ty := .int) [(t0, .inr (0, [.ref q1, .int (0 : Int32), .null, .null, .null, .int 0, .int 0, .int 0])), (q1, .inl (c 1, 1110, .inr (.inl (fun _ => 0))))] rfl rfl (by decide) tw_1_150 rfl rfl (by decide +kernel) rfl rfl (Nat.le_of_ble_eq_true rfl) rfl dX0_init_15 (fun H locs hP hD hS => ?_)
  refine lv_aload_n hx hb dX0_init_18 rfl (lv_at hl 0 rfl) ?_
  refine lv_bipush (v := (10 : Int32)) hx hb dX0_init_19 (by decide) ?_
  refine znal (N' := 10) hx hb hts tw_1_95 hE hP hD hS hA (by decide) (by decide) (Nat.le_of_ble_eq_true rfl) (Nat.le_of_ble_eq_true rfl) (Nat.le_of_ble_eq_true rfl) dX0_init_21 (fun q2 H hP hD hS => ?_)
  have hP : va_P D vwCl [(t0, .inr (0, [.ref q1, .int (0 : Int32), .null, .null, .null, .int 0, .int 0, .int 0])), (q1, .inl (c 1, 1110, .inr (.inl (fun _ => 0)))), (q2, .inl (c 1, 10, .inr (.inl (fun _ => 0))))] H := hP
  have hD : va_D A [(t0, .inr (0, [.ref q1, .int (0 : Int32), .null, .null, .null, .int 0, .int 0, .int 0])), (q1, .inl (c 1, 1110, .inr (.inl (fun _ => 0)))), (q2, .inl (c 1, 10, .inr (.inl (fun _ => 0))))] := hD
  refine zpuf S uw_X0 tyX0_ok nmX0 hE hmn hP hD hS 0 2 (ty := tyX0 2) [(t0, .inr (0, [.ref q1, .int (0 : Int32), .ref q2, .null, .null, .int 0, .int 0, .int 0])), (q1, .inl (c 1, 1110, .inr (.inl (fun _ => 0)))), (q2, .inl (c 1, 10, .inr (.inl (fun _ => 0))))] rfl rfl (by decide) tw_1_152 rfl rfl rfl (tyX0_ok 2 (by decide)) rfl rfl (Nat.le_of_ble_eq_true rfl) rfl dX0_init_23 (fun H locs hP hD hS => ?_)
  refine lv_aload_n hx hb dX0_init_26 rfl (lv_at hl 0 rfl) ?_
  refine lv_bipush (v := (10 : Int32)) hx hb dX0_init_27 (by decide) ?_
  refine znal (N' := 10) hx hb hts tw_1_95 hE hP hD hS hA (by decide) (by decide) (Nat.le_of_ble_eq_true rfl) (Nat.le_of_ble_eq_true rfl) (Nat.le_of_ble_eq_true rfl) dX0_init_29 (fun q3 H hP hD hS => ?_)
  have hP : va_P D vwCl [(t0, .inr (0, [.ref q1, .int (0 : Int32), .ref q2, .null, .null, .int 0, .int 0, .int 0])), (q1, .inl (c 1, 1110, .inr (.inl (fun _ => 0)))), (q2, .inl (c 1, 10, .inr (.inl (fun _ => 0)))), (q3, .inl (c 1, 10, .inr (.inl (fun _ => 0))))] H := hP
  have hD : va_D A [(t0, .inr (0, [.ref q1, .int (0 : Int32), .ref q2, .null, .null, .int 0, .int 0, .int 0])), (q1, .inl (c 1, 1110, .inr (.inl (fun _ => 0)))), (q2, .inl (c 1, 10, .inr (.inl (fun _ => 0)))), (q3, .inl (c 1, 10, .inr (.inl (fun _ => 0))))] := hD
  refine zpuf S uw_X0 tyX0_ok nmX0 hE hmn hP hD hS 0 3 (ty := tyX0 3) [(t0, .inr (0, [.ref q1, .int (0 : Int32), .ref q2, .ref q3, .null, .int 0, .int 0, .int 0])), (q1, .inl (c 1, 1110, .inr (.inl (fun _ => 0)))), (q2, .inl (c 1, 10, .inr (.inl (fun _ => 0)))), (q3, .inl (c 1, 10, .inr (.inl (fun _ => 0))))] rfl rfl (by decide) tw_1_153 rfl rfl rfl (tyX0_ok 3 (by decide)) rfl rfl (Nat.le_of_ble_eq_true rfl) rfl dX0_init_31 (fun H locs hP hD hS => ?_)
  refine lv_aload_n hx hb dX0_init_34 rfl (lv_at hl 0 rfl) ?_
  refine lv_bipush (v := (10 : Int32)) hx hb dX0_init_35 (by decide) ?_
  refine znai (N' := 10) hx hb hts tw_1_94 hE hP hD hS hA (by decide) (by decide) (Nat.le_of_ble_eq_true rfl) (Nat.le_of_ble_eq_true rfl) (Nat.le_of_ble_eq_true rfl) dX0_init_37 (fun q4 H hP hD hS => ?_)
  have hP : va_P D vwCl [(t0, .inr (0, [.ref q1, .int (0 : Int32), .ref q2, .ref q3, .null, .int 0, .int 0, .int 0])), (q1, .inl (c 1, 1110, .inr (.inl (fun _ => 0)))), (q2, .inl (c 1, 10, .inr (.inl (fun _ => 0)))), (q3, .inl (c 1, 10, .inr (.inl (fun _ => 0)))), (q4, .inl (c 0, 10, .inl (fun _ => 0)))] H := hP
  have hD : va_D A [(t0, .inr (0, [.ref q1, .int (0 : Int32), .ref q2, .ref q3, .null, .int 0, .int 0, .int 0])), (q1, .inl (c 1, 1110, .inr (.inl (fun _ => 0)))), (q2, .inl (c 1, 10, .inr (.inl (fun _ => 0)))), (q3, .inl (c 1, 10, .inr (.inl (fun _ => 0)))), (q4, .inl (c 0, 10, .inl (fun _ => 0)))] := hD
  refine zpuf S uw_X0 tyX0_ok nmX0 hE hmn hP hD hS 0 4 (ty := tyX0 4) [(t0, .inr (0, [.ref q1, .int (0 : Int32), .ref q2, .ref q3, .ref q4, .int 0, .int 0, .int 0])), (q1, .inl (c 1, 1110, .inr (.inl (fun _ => 0)))), (q2, .inl (c 1, 10, .inr (.inl (fun _ => 0)))), (q3, .inl (c 1, 10, .inr (.inl (fun _ => 0)))), (q4, .inl (c 0, 10, .inl (fun _ => 0)))] rfl rfl (by decide) tw_1_154 rfl rfl rfl (tyX0_ok 4 (by decide)) rfl rfl (Nat.le_of_ble_eq_true rfl) rfl dX0_init_39 (fun H locs hP hD hS => ?_)
  refine lv_aload_n hx hb dX0_init_42 rfl (lv_at hl 0 rfl) ?_
  refine lv_iconst (v := (0 : Int32)) hx hb dX0_init_43 (by decide) ?_
  refine zput S uw_X0 tyX0_ok nmX0 hE hP hD hS 0 5 (ty := .int) [(t0, .inr (0, [.ref q1, .int (0 : Int32), .ref q2, .ref q3, .ref q4, .int (0 : Int32), .int 0, .int 0])), (q1, .inl (c 1, 1110, .inr (.inl (fun _ => 0)))), (q2, .inl (c 1, 10, .inr (.inl (fun _ => 0)))), (q3, .inl (c 1, 10, .inr (.inl (fun _ => 0)))), (q4, .inl (c 0, 10, .inl (fun _ => 0)))] rfl rfl (by decide) tw_1_155 rfl rfl (by decide +kernel) rfl rfl (Nat.le_of_ble_eq_true rfl) rfl dX0_init_44 (fun H locs hP hD hS => ?_)
  refine lv_aload_n hx hb dX0_init_47 rfl (lv_at hl 0 rfl) ?_
  refine lv_iconst (v := (0 : Int32)) hx hb dX0_init_48 (by decide) ?_
  refine zput S uw_X0 tyX0_ok nmX0 hE hP hD hS 0 6 (ty := .int) [(t0, .inr (0, [.ref q1, .int (0 : Int32), .ref q2, .ref q3, .ref q4, .int (0 : Int32), .int (0 : Int32), .int 0])), (q1, .inl (c 1, 1110, .inr (.inl (fun _ => 0)))), (q2, .inl (c 1, 10, .inr (.inl (fun _ => 0)))), (q3, .inl (c 1, 10, .inr (.inl (fun _ => 0)))), (q4, .inl (c 0, 10, .inl (fun _ => 0)))] rfl rfl (by decide) tw_1_156 rfl rfl (by decide +kernel) rfl rfl (Nat.le_of_ble_eq_true rfl) rfl dX0_init_49 (fun H locs hP hD hS => ?_)
  refine lv_aload_n hx hb dX0_init_52 rfl (lv_at hl 0 rfl) ?_
  refine lv_iconst (v := (0 : Int32)) hx hb dX0_init_53 (by decide) ?_
  refine zput S uw_X0 tyX0_ok nmX0 hE hP hD hS 0 7 (ty := .boolean) [(t0, .inr (0, [.ref q1, .int (0 : Int32), .ref q2, .ref q3, .ref q4, .int (0 : Int32), .int (0 : Int32), .int (0 : Int32)])), (q1, .inl (c 1, 1110, .inr (.inl (fun _ => 0)))), (q2, .inl (c 1, 10, .inr (.inl (fun _ => 0)))), (q3, .inl (c 1, 10, .inr (.inl (fun _ => 0)))), (q4, .inl (c 0, 10, .inl (fun _ => 0)))] rfl rfl (by decide) tw_1_157 rfl rfl (by decide +kernel) rfl rfl (Nat.le_of_ble_eq_true rfl) rfl dX0_init_54 (fun H locs hP hD hS => ?_)
  exact zRC (B := fun u => wX0 c t0 (u 0 0) (u 1 0) (u 2 0) (u 3 0) (fun _ => 0) 0 (fun _ => 0) (fun _ => 0) (fun _ => 0) 0 0 0) (fun k _ => [q1, q2, q3, q4].getD k 0) hAe hQ hx hb hr hlk (zpsub (is := [0, 1, 2, 3, 4]) hP rfl) (hD.sub [0, 1, 2, 3, 4] rfl rfl) hS dX0_init_57
abbrev rm_X2_init : Room := { frames := 1, cells := 2, slots := 600, locals := 20 }
theorem mi_X2_init : zMK yX2_init cX2_init 1 0 := ⟨⟨tw_1_178, tw_1_5, tw_1_179⟩, ⟨by decide +kernel, by decide +kernel, by decide +kernel⟩, rfl⟩
set_option maxHeartbeats 4000000 in
set_option maxRecDepth 100000 in
theorem k_X2_init (l : Launch) (D : va_G) (c : Nat → ClassId) (t0 : Nat) : zMC l D c yX2_init cX2_init 1 rm_X2_init t0 [(t0, .inr (2, [.null, .null]))] (fun u => wX2 c t0 (u 0 0) (u 1 0) (fun _ => 0) (fun _ => 0)) 2 600 := by
  intro sz
  refine zIW (by decide) (Nat.le_of_ble_eq_true rfl) ?_
  intro p e s m args below meth c0 Q A hAe hQ hx hb hr hlk hml hts hown hP hE hD hS hA hsz hmn hX ls hl
  rw [← hAe] at hQ
  have S : CallFix p m c0 cX2_init 1 s args zT RX2 := ⟨hx, hb, hml, hown, hts⟩
  have hl : lv_has ls 1 [(0, .ref t0)] := hl
  refine lv_aload_n hx hb dX2_init_0 rfl (lv_at hl 0 rfl) ?_
  refine zobj S tw_1_180 tw_1_22 tw_1_23 hl.1 (Nat.le_of_ble_eq_true rfl) (Nat.le_of_ble_eq_true rfl) dX2_init_1 ?_
  refine lv_aload_n hx hb dX2_init_4 rfl (lv_at hl 0 rfl) ?_
  refine lv_sipush (v := (401 : Int32)) hx hb dX2_init_5 (by decide) ?_
  refine znai (N' := 401) hx hb hts tw_1_94 hE hP hD hS hA (by decide) (by decide) (Nat.le_of_ble_eq_true rfl) (Nat.le_of_ble_eq_true rfl) (Nat.le_of_ble_eq_true rfl) dX2_init_8 (fun q1 H hP hD hS => ?_)
  have hP : va_P D vwCl [(t0, .inr (2, [.null, .null])), (q1, .inl (c 0, 401, .inl (fun _ => 0)))] H := hP
  have hD : va_D A [(t0, .inr (2, [.null, .null])), (q1, .inl (c 0, 401, .inl (fun _ => 0)))] := hD
  refine zpuf S uw_X2 tyX2_ok nmX2 hE hmn hP hD hS 0 0 (ty := tyX2 0) [(t0, .inr (2, [.ref q1, .null])), (q1, .inl (c 0, 401, .inl (fun _ => 0)))] rfl rfl (by decide) tw_1_181 rfl rfl rfl (tyX2_ok 0 (by decide)) rfl rfl (Nat.le_of_ble_eq_true rfl) rfl dX2_init_10 (fun H locs hP hD hS => ?_)
  refine lv_aload_n hx hb dX2_init_13 rfl (lv_at hl 0 rfl) ?_
  refine lv_sipush (v := (199 : Int32)) hx hb dX2_init_14 (by decide) ?_
  refine znaz (N' := 199) hx hb hts tw_1_188 hE hP hD hS hA (by decide) (by decide) (Nat.le_of_ble_eq_true rfl) (Nat.le_of_ble_eq_true rfl) (Nat.le_of_ble_eq_true rfl) dX2_init_17 (fun q2 H hP hD hS => ?_)
  have hP : va_P D vwCl [(t0, .inr (2, [.ref q1, .null])), (q1, .inl (c 0, 401, .inl (fun _ => 0))), (q2, .inl (c 2, 199, .inl (fun _ => 0)))] H := hP
  have hD : va_D A [(t0, .inr (2, [.ref q1, .null])), (q1, .inl (c 0, 401, .inl (fun _ => 0))), (q2, .inl (c 2, 199, .inl (fun _ => 0)))] := hD
  refine zpuf S uw_X2 tyX2_ok nmX2 hE hmn hP hD hS 0 1 (ty := tyX2 1) [(t0, .inr (2, [.ref q1, .ref q2])), (q1, .inl (c 0, 401, .inl (fun _ => 0))), (q2, .inl (c 2, 199, .inl (fun _ => 0)))] rfl rfl (by decide) tw_1_182 rfl rfl rfl (tyX2_ok 1 (by decide)) rfl rfl (Nat.le_of_ble_eq_true rfl) rfl dX2_init_19 (fun H locs hP hD hS => ?_)
  exact zRC (B := fun u => wX2 c t0 (u 0 0) (u 1 0) (fun _ => 0) (fun _ => 0)) (fun k _ => [q1, q2].getD k 0) hAe hQ hx hb hr hlk (zpsub (is := [0, 1, 2]) hP rfl) (hD.sub [0, 1, 2] rfl rfl) hS dX2_init_22
abbrev rm_X4_init : Room := { frames := 1, cells := 1, slots := 20, locals := 20 }
theorem mi_X4_init : zMK yX4_init cX4_init 1 0 := ⟨⟨tw_1_233, tw_1_7, tw_1_234⟩, ⟨by decide +kernel, by decide +kernel, by decide +kernel⟩, rfl⟩
set_option maxHeartbeats 4000000 in
set_option maxRecDepth 100000 in
theorem k_X4_init (l : Launch) (D : va_G) (c : Nat → ClassId) (t0 : Nat) : zMC l D c yX4_init cX4_init 1 rm_X4_init t0 [(t0, .inr (4, [.null, .int 0, .int 0]))] (fun u => [(t0, .inr (4, [.ref (u 0 0), .int 0, .int (-1)])), (u 0 0, .inl (c 0, 20, .inl (fun _ => 0)))]) 1 20 := by
  intro sz
  refine zIW (by decide) (Nat.le_of_ble_eq_true rfl) ?_
  intro p e s m args below meth c0 Q A hAe hQ hx hb hr hlk hml hts hown hP hE hD hS hA hsz hmn hX ls hl
  rw [← hAe] at hQ
  have S : CallFix p m c0 cX4_init 1 s args zT RX4 := ⟨hx, hb, hml, hown, hts⟩
  have hl : lv_has ls 1 [(0, .ref t0)] := hl
  refine lv_aload_n hx hb dX4_init_0 rfl (lv_at hl 0 rfl) ?_
  refine zobj S tw_1_235 tw_1_22 tw_1_23 hl.1 (Nat.le_of_ble_eq_true rfl) (Nat.le_of_ble_eq_true rfl) dX4_init_1 ?_
  refine lv_aload_n hx hb dX4_init_4 rfl (lv_at hl 0 rfl) ?_
  refine lv_bipush (v := (20 : Int32)) hx hb dX4_init_5 (by decide) ?_
  refine znai (N' := 20) hx hb hts tw_1_94 hE hP hD hS hA (by decide) (by decide) (Nat.le_of_ble_eq_true rfl) (Nat.le_of_ble_eq_true rfl) (Nat.le_of_ble_eq_true rfl) dX4_init_7 (fun q1 H hP hD hS => ?_)
  have hP : va_P D vwCl [(t0, .inr (4, [.null, .int 0, .int 0])), (q1, .inl (c 0, 20, .inl (fun _ => 0)))] H := hP
  have hD : va_D A [(t0, .inr (4, [.null, .int 0, .int 0])), (q1, .inl (c 0, 20, .inl (fun _ => 0)))] := hD
  refine zpuf S uw_X4 tyX4_ok nmX4 hE hmn hP hD hS 0 0 (ty := tyX4 0) [(t0, .inr (4, [.ref q1, .int 0, .int 0])), (q1, .inl (c 0, 20, .inl (fun _ => 0)))] rfl rfl (by decide) tw_1_236 rfl rfl rfl (tyX4_ok 0 (by decide)) rfl rfl (Nat.le_of_ble_eq_true rfl) rfl dX4_init_9 (fun H locs hP hD hS => ?_)
  refine lv_aload_n hx hb dX4_init_12 rfl (lv_at hl 0 rfl) ?_
  refine lv_iconst (v := (0 : Int32)) hx hb dX4_init_13 (by decide) ?_
  refine zput S uw_X4 tyX4_ok nmX4 hE hP hD hS 0 1 (ty := .int) [(t0, .inr (4, [.ref q1, .int (0 : Int32), .int 0])), (q1, .inl (c 0, 20, .inl (fun _ => 0)))] rfl rfl (by decide) tw_1_238 rfl rfl (by decide +kernel) rfl rfl (Nat.le_of_ble_eq_true rfl) rfl dX4_init_14 (fun H locs hP hD hS => ?_)
  refine lv_aload_n hx hb dX4_init_17 rfl (lv_at hl 0 rfl) ?_
  refine lv_iconst (v := (-1 : Int32)) hx hb dX4_init_18 (by decide) ?_
  refine zput S uw_X4 tyX4_ok nmX4 hE hP hD hS 0 2 (ty := .int) [(t0, .inr (4, [.ref q1, .int (0 : Int32), .int (-1 : Int32)])), (q1, .inl (c 0, 20, .inl (fun _ => 0)))] rfl rfl (by decide) tw_2_0 rfl rfl (by decide +kernel) rfl rfl (Nat.le_of_ble_eq_true rfl) rfl dX4_init_19 (fun H locs hP hD hS => ?_)
  exact zRC (B := fun u => [(t0, .inr (4, [.ref (u 0 0), .int 0, .int (-1)])), (u 0 0, .inl (c 0, 20, .inl (fun _ => 0)))]) (fun k _ => [q1].getD k 0) hAe hQ hx hb hr hlk (zpsub (is := [0, 1]) hP rfl) (hD.sub [0, 1] rfl rfl) hS dX4_init_22
abbrev rm_X3_init : Room := { frames := 2, cells := 11, slots := 341, locals := 41 }
theorem mi_X3_init : zMK yX3_init cX3_init 1 0 := ⟨⟨tw_1_100, tw_1_3, tw_1_101⟩, ⟨by decide +kernel, by decide +kernel, by decide +kernel⟩, rfl⟩
set_option maxHeartbeats 4000000 in
set_option maxRecDepth 100000 in
theorem k_X3_init (l : Launch) (D : va_G) (c : Nat → ClassId) (t0 : Nat) : zMC l D c yX3_init cX3_init 1 rm_X3_init t0 [(t0, .inr (3, [.null, .int 0, .null, .int 0, .int 0, .int 0, .int 0, .int 0, .long 0, .int 0, .int 0]))] (fun u => wX3 c t0 (u 0 0) (u 1 0) (fun _ => 0) 0 0 0 0 0 0 0 (-1) (-1) ++ wX5 c (u 1 0) (u 2 0) (u 3 0) (u 4 0) (u 5 0) (u 6 0) (u 7 0) (u 8 0) (u 9 0) (u 10 0) (zNums 26) (fun _ => 0) 0 (fun _ => 0) (fun _ => 0) (fun _ => 0) (fun _ => 0) (fun _ => 0) 0 (fun _ => 0) (fun _ => 0) 0 3) 11 341 := by
  intro sz
  refine zIW (by decide) (Nat.le_of_ble_eq_true rfl) ?_
  intro p e s m args below meth c0 Q A hAe hQ hx hb hr hlk hml hts hown hP hE hD hS hA hsz hmn hX ls hl
  rw [← hAe] at hQ
  have S : CallFix p m c0 cX3_init 1 s args zT RX3 := ⟨hx, hb, hml, hown, hts⟩
  have hl : lv_has ls 1 [(0, .ref t0)] := hl
  refine lv_aload_n hx hb dX3_init_0 rfl (lv_at hl 0 rfl) ?_
  refine zobj S tw_1_102 tw_1_22 tw_1_23 hl.1 (Nat.le_of_ble_eq_true rfl) (Nat.le_of_ble_eq_true rfl) dX3_init_1 ?_
  refine lv_aload_n hx hb dX3_init_4 rfl (lv_at hl 0 rfl) ?_
  refine lv_sipush (v := (200 : Int32)) hx hb dX3_init_5 (by decide) ?_
  refine znai (N' := 200) hx hb hts tw_1_94 hE hP hD hS hA (by decide) (by decide) (Nat.le_of_ble_eq_true rfl) (Nat.le_of_ble_eq_true rfl) (Nat.le_of_ble_eq_true rfl) dX3_init_8 (fun q1 H hP hD hS => ?_)
  have hP : va_P D vwCl [(t0, .inr (3, [.null, .int 0, .null, .int 0, .int 0, .int 0, .int 0, .int 0, .long 0, .int 0, .int 0])), (q1, .inl (c 0, 200, .inl (fun _ => 0)))] H := hP
  have hD : va_D A [(t0, .inr (3, [.null, .int 0, .null, .int 0, .int 0, .int 0, .int 0, .int 0, .long 0, .int 0, .int 0])), (q1, .inl (c 0, 200, .inl (fun _ => 0)))] := hD
  refine zpuf S uw_X3 tyX3_ok nmX3 hE hmn hP hD hS 0 0 (ty := tyX3 0) [(t0, .inr (3, [.ref q1, .int 0, .null, .int 0, .int 0, .int 0, .int 0, .int 0, .long 0, .int 0, .int 0])), (q1, .inl (c 0, 200, .inl (fun _ => 0)))] rfl rfl (by decide) tw_1_105 rfl rfl rfl (tyX3_ok 0 (by decide)) rfl rfl (Nat.le_of_ble_eq_true rfl) rfl dX3_init_10 (fun H locs hP hD hS => ?_)
  refine lv_aload_n hx hb dX3_init_13 rfl (lv_at hl 0 rfl) ?_
  refine lv_iconst (v := (0 : Int32)) hx hb dX3_init_14 (by decide) ?_
  refine zput S uw_X3 tyX3_ok nmX3 hE hP hD hS 0 1 (ty := .int) [(t0, .inr (3, [.ref q1, .int (0 : Int32), .null, .int 0, .int 0, .int 0, .int 0, .int 0, .long 0, .int 0, .int 0])), (q1, .inl (c 0, 200, .inl (fun _ => 0)))] rfl rfl (by decide) tw_1_106 rfl rfl (by decide +kernel) rfl rfl (Nat.le_of_ble_eq_true rfl) rfl dX3_init_15 (fun H locs hP hD hS => ?_)
  refine lv_aload_n hx hb dX3_init_18 rfl (lv_at hl 0 rfl) ?_
  refine znew (ci := 5) (fs := [.null, .null, .int 0, .null, .null, .null, .null, .null, .int 0, .null, .null, .int 0, .int 0]) S uw_X5 tyX5_ok tw_1_103 tw_1_25 tw_1_2 hE hP hD hS hA rfl (fun j hj => by rcases (show j = 0 ∨ j = 1 ∨ j = 2 ∨ j = 3 ∨ j = 4 ∨ j = 5 ∨ j = 6 ∨ j = 7 ∨ j = 8 ∨ j = 9 ∨ j = 10 ∨ j = 11 ∨ j = 12 by omega) with rfl | rfl | rfl | rfl | rfl | rfl | rfl | rfl | rfl | rfl | rfl | rfl | rfl <;> rfl) (Nat.le_of_ble_eq_true rfl) (Nat.le_of_ble_eq_true rfl) dX3_init_19 (fun q2 H hP hD hS => ?_)
  refine lv_dup hx hb dX3_init_22 rfl ?_
  refine zini (rest := [.ref q2, .ref t0]) S (k_X5_init l D c q2) mi_X5_init (Or.inl tw_1_104) ⟨(Nat.le_of_ble_eq_true rfl), (Nat.le_of_ble_eq_true rfl)⟩ ⟨rfl, rfl⟩ hP hD hS hA hE hX hl.1 (Nat.le_of_ble_eq_true rfl) dX3_init_23 ⟨(Nat.le_of_ble_eq_true rfl), (Nat.le_of_ble_eq_true rfl)⟩ (fun u3 H locs hP hD hS => ?_)
  refine zpuf S uw_X3 tyX3_ok nmX3 hE hmn hP hD hS 0 2 (ty := tyX3 2) ([(t0, .inr (3, [.ref q1, .int (0 : Int32), .ref q2, .int 0, .int 0, .int 0, .int 0, .int 0, .long 0, .int 0, .int 0])), (q1, .inl (c 0, 200, .inl (fun _ => 0)))] ++ wX5 c q2 (u3 0 0) (u3 1 0) (u3 2 0) (u3 3 0) (u3 4 0) (u3 5 0) (u3 6 0) (u3 7 0) (u3 8 0) (zNums 26) (fun _ => 0) 0 (fun _ => 0) (fun _ => 0) (fun _ => 0) (fun _ => 0) (fun _ => 0) 0 (fun _ => 0) (fun _ => 0) 0 3) (zapl rfl) rfl (by decide) tw_1_108 rfl rfl rfl (tyX3_ok 2 (by decide)) rfl rfl (Nat.le_of_ble_eq_true rfl) (zs0 rfl rfl) dX3_init_26 (fun H locs hP hD hS => ?_)
  refine lv_aload_n hx hb dX3_init_29 rfl (lv_at hl 0 rfl) ?_
  refine lv_iconst (v := (0 : Int32)) hx hb dX3_init_30 (by decide) ?_
  refine zput S uw_X3 tyX3_ok nmX3 hE hP hD hS 0 3 (ty := .int) ([(t0, .inr (3, [.ref q1, .int (0 : Int32), .ref q2, .int (0 : Int32), .int 0, .int 0, .int 0, .int 0, .long 0, .int 0, .int 0])), (q1, .inl (c 0, 200, .inl (fun _ => 0)))] ++ wX5 c q2 (u3 0 0) (u3 1 0) (u3 2 0) (u3 3 0) (u3 4 0) (u3 5 0) (u3 6 0) (u3 7 0) (u3 8 0) (zNums 26) (fun _ => 0) 0 (fun _ => 0) (fun _ => 0) (fun _ => 0) (fun _ => 0) (fun _ => 0) 0 (fun _ => 0) (fun _ => 0) 0 3) (zapl rfl) rfl (by decide) tw_1_110 rfl rfl (by decide +kernel) rfl rfl (Nat.le_of_ble_eq_true rfl) (zs0 rfl rfl) dX3_init_31 (fun H locs hP hD hS => ?_)
  refine lv_aload_n hx hb dX3_init_34 rfl (lv_at hl 0 rfl) ?_
  refine lv_iconst (v := (0 : Int32)) hx hb dX3_init_35 (by decide) ?_
  refine zput S uw_X3 tyX3_ok nmX3 hE hP hD hS 0 4 (ty := .int) ([(t0, .inr (3, [.ref q1, .int (0 : Int32), .ref q2, .int (0 : Int32), .int (0 : Int32), .int 0, .int 0, .int 0, .long 0, .int 0, .int 0])), (q1, .inl (c 0, 200, .inl (fun _ => 0)))] ++ wX5 c q2 (u3 0 0) (u3 1 0) (u3 2 0) (u3 3 0) (u3 4 0) (u3 5 0) (u3 6 0) (u3 7 0) (u3 8 0) (zNums 26) (fun _ => 0) 0 (fun _ => 0) (fun _ => 0) (fun _ => 0) (fun _ => 0) (fun _ => 0) 0 (fun _ => 0) (fun _ => 0) 0 3) (zapl rfl) rfl (by decide) tw_1_112 rfl rfl (by decide +kernel) rfl rfl (Nat.le_of_ble_eq_true rfl) (zs0 rfl rfl) dX3_init_36 (fun H locs hP hD hS => ?_)
  refine lv_aload_n hx hb dX3_init_39 rfl (lv_at hl 0 rfl) ?_
  refine lv_iconst (v := (0 : Int32)) hx hb dX3_init_40 (by decide) ?_
  refine zput S uw_X3 tyX3_ok nmX3 hE hP hD hS 0 5 (ty := .int) ([(t0, .inr (3, [.ref q1, .int (0 : Int32), .ref q2, .int (0 : Int32), .int (0 : Int32), .int (0 : Int32), .int 0, .int 0, .long 0, .int 0, .int 0])), (q1, .inl (c 0, 200, .inl (fun _ => 0)))] ++ wX5 c q2 (u3 0 0) (u3 1 0) (u3 2 0) (u3 3 0) (u3 4 0) (u3 5 0) (u3 6 0) (u3 7 0) (u3 8 0) (zNums 26) (fun _ => 0) 0 (fun _ => 0) (fun _ => 0) (fun _ => 0) (fun _ => 0) (fun _ => 0) 0 (fun _ => 0) (fun _ => 0) 0 3) (zapl rfl) rfl (by decide) tw_1_113 rfl rfl (by decide +kernel) rfl rfl (Nat.le_of_ble_eq_true rfl) (zs0 rfl rfl) dX3_init_41 (fun H locs hP hD hS => ?_)
  refine lv_aload_n hx hb dX3_init_44 rfl (lv_at hl 0 rfl) ?_
  refine lv_iconst (v := (0 : Int32)) hx hb dX3_init_45 (by decide) ?_
  refine zput S uw_X3 tyX3_ok nmX3 hE hP hD hS 0 6 (ty := .int) ([(t0, .inr (3, [.ref q1, .int (0 : Int32), .ref q2, .int (0 : Int32), .int (0 : Int32), .int (0 : Int32), .int (0 : Int32), .int 0, .long 0, .int 0, .int 0])), (q1, .inl (c 0, 200, .inl (fun _ => 0)))] ++ wX5 c q2 (u3 0 0) (u3 1 0) (u3 2 0) (u3 3 0) (u3 4 0) (u3 5 0) (u3 6 0) (u3 7 0) (u3 8 0) (zNums 26) (fun _ => 0) 0 (fun _ => 0) (fun _ => 0) (fun _ => 0) (fun _ => 0) (fun _ => 0) 0 (fun _ => 0) (fun _ => 0) 0 3) (zapl rfl) rfl (by decide) tw_1_114 rfl rfl (by decide +kernel) rfl rfl (Nat.le_of_ble_eq_true rfl) (zs0 rfl rfl) dX3_init_46 (fun H locs hP hD hS => ?_)
  refine lv_aload_n hx hb dX3_init_49 rfl (lv_at hl 0 rfl) ?_
  refine lv_iconst (v := (0 : Int32)) hx hb dX3_init_50 (by decide) ?_
  refine zput S uw_X3 tyX3_ok nmX3 hE hP hD hS 0 7 (ty := .int) ([(t0, .inr (3, [.ref q1, .int (0 : Int32), .ref q2, .int (0 : Int32), .int (0 : Int32), .int (0 : Int32), .int (0 : Int32), .int (0 : Int32), .long 0, .int 0, .int 0])), (q1, .inl (c 0, 200, .inl (fun _ => 0)))] ++ wX5 c q2 (u3 0 0) (u3 1 0) (u3 2 0) (u3 3 0) (u3 4 0) (u3 5 0) (u3 6 0) (u3 7 0) (u3 8 0) (zNums 26) (fun _ => 0) 0 (fun _ => 0) (fun _ => 0) (fun _ => 0) (fun _ => 0) (fun _ => 0) 0 (fun _ => 0) (fun _ => 0) 0 3) (zapl rfl) rfl (by decide) tw_1_115 rfl rfl (by decide +kernel) rfl rfl (Nat.le_of_ble_eq_true rfl) (zs0 rfl rfl) dX3_init_51 (fun H locs hP hD hS => ?_)
  refine lv_aload_n hx hb dX3_init_54 rfl (lv_at hl 0 rfl) ?_
  refine lv_lconst (v := (0 : Int64)) hx hb dX3_init_55 (by decide) ?_
  refine zput S uw_X3 tyX3_ok nmX3 hE hP hD hS 0 8 (ty := .long) ([(t0, .inr (3, [.ref q1, .int (0 : Int32), .ref q2, .int (0 : Int32), .int (0 : Int32), .int (0 : Int32), .int (0 : Int32), .int (0 : Int32), .long (0 : Int64), .int 0, .int 0])), (q1, .inl (c 0, 200, .inl (fun _ => 0)))] ++ wX5 c q2 (u3 0 0) (u3 1 0) (u3 2 0) (u3 3 0) (u3 4 0) (u3 5 0) (u3 6 0) (u3 7 0) (u3 8 0) (zNums 26) (fun _ => 0) 0 (fun _ => 0) (fun _ => 0) (fun _ => 0) (fun _ => 0) (fun _ => 0) 0 (fun _ => 0) (fun _ => 0) 0 3) (zapl rfl) rfl (by decide) tw_1_116 rfl rfl (by decide +kernel) rfl rfl (Nat.le_of_ble_eq_true rfl) (zs0 rfl rfl) dX3_init_56 (fun H locs hP hD hS => ?_)
  refine lv_aload_n hx hb dX3_init_59 rfl (lv_at hl 0 rfl) ?_
  refine lv_iconst (v := (-1 : Int32)) hx hb dX3_init_60 (by decide) ?_
  refine zput S uw_X3 tyX3_ok nmX3 hE hP hD hS 0 9 (ty := .int) ([(t0, .inr (3, [.ref q1, .int (0 : Int32), .ref q2, .int (0 : Int32), .int (0 : Int32), .int (0 : Int32), .int (0 : Int32), .int (0 : Int32), .long (0 : Int64), .int (-1 : Int32), .int 0])), (q1, .inl (c 0, 200, .inl (fun _ => 0)))] ++ wX5 c q2 (u3 0 0) (u3 1 0) (u3 2 0) (u3 3 0) (u3 4 0) (u3 5 0) (u3 6 0) (u3 7 0) (u3 8 0) (zNums 26) (fun _ => 0) 0 (fun _ => 0) (fun _ => 0) (fun _ => 0) (fun _ => 0) (fun _ => 0) 0 (fun _ => 0) (fun _ => 0) 0 3) (zapl rfl) rfl (by decide) tw_1_117 rfl rfl (by decide +kernel) rfl rfl (Nat.le_of_ble_eq_true rfl) (zs0 rfl rfl) dX3_init_61 (fun H locs hP hD hS => ?_)
  refine lv_aload_n hx hb dX3_init_64 rfl (lv_at hl 0 rfl) ?_
  refine lv_iconst (v := (-1 : Int32)) hx hb dX3_init_65 (by decide) ?_
  refine zput S uw_X3 tyX3_ok nmX3 hE hP hD hS 0 10 (ty := .int) ([(t0, .inr (3, [.ref q1, .int (0 : Int32), .ref q2, .int (0 : Int32), .int (0 : Int32), .int (0 : Int32), .int (0 : Int32), .int (0 : Int32), .long (0 : Int64), .int (-1 : Int32), .int (-1 : Int32)])), (q1, .inl (c 0, 200, .inl (fun _ => 0)))] ++ wX5 c q2 (u3 0 0) (u3 1 0) (u3 2 0) (u3 3 0) (u3 4 0) (u3 5 0) (u3 6 0) (u3 7 0) (u3 8 0) (zNums 26) (fun _ => 0) 0 (fun _ => 0) (fun _ => 0) (fun _ => 0) (fun _ => 0) (fun _ => 0) 0 (fun _ => 0) (fun _ => 0) 0 3) (zapl rfl) rfl (by decide) tw_1_118 rfl rfl (by decide +kernel) rfl rfl (Nat.le_of_ble_eq_true rfl) (zs0 rfl rfl) dX3_init_66 (fun H locs hP hD hS => ?_)
  exact zRC (B := fun u => wX3 c t0 (u 0 0) (u 1 0) (fun _ => 0) 0 0 0 0 0 0 0 (-1) (-1) ++ wX5 c (u 1 0) (u 2 0) (u 3 0) (u 4 0) (u 5 0) (u 6 0) (u 7 0) (u 8 0) (u 9 0) (u 10 0) (zNums 26) (fun _ => 0) 0 (fun _ => 0) (fun _ => 0) (fun _ => 0) (fun _ => 0) (fun _ => 0) 0 (fun _ => 0) (fun _ => 0) 0 3) (fun k _ => [q1, q2, u3 0 0, u3 1 0, u3 2 0, u3 3 0, u3 4 0, u3 5 0, u3 6 0, u3 7 0, u3 8 0].getD k 0) hAe hQ hx hb hr hlk (zpsub (is := [0, 1, 2, 3, 4, 5, 6, 7, 8, 9, 10, 11]) hP rfl) (hD.sub [0, 1, 2, 3, 4, 5, 6, 7, 8, 9, 10, 11] rfl rfl) hS dX3_init_69
abbrev rm_X1_init : Room := { frames := 1, cells := 38, slots := 223, locals := 20 }
theorem mi_X1_init : zMK yX1_init cX1_init 1 0 := ⟨⟨tw_1_192, tw_1_6, tw_1_193⟩, ⟨by decide +kernel, by decide +kernel, by decide +kernel⟩, rfl⟩
set_option maxHeartbeats 4000000 in
set_option maxRecDepth 100000 in
theorem k_X1_init (l : Launch) (D : va_G) (c : Nat → ClassId) (t0 : Nat) : zMC l D c yX1_init cX1_init 1 rm_X1_init t0 [(t0, .inr (1, [.int 0, .null, .int 0, .null, .null, .null, .int 0, .null, .null, .int 0]))] (fun u => wX1 c t0 (u 0 0) (u 1 0) (u 2 0) (u 3 0) (u 4 0) (u 5 0) 0 (fun _ => 0) 0 (fun _ => 0) 0 (fun _ => 0) (fun _ => 0) 0 ++ wG c (u 1 0) (u 10) (fun _ _ => 0) ++ wG c (u 2 0) (u 11) (fun _ _ => 0)) 38 223 := by
  intro sz
  refine zIW (by decide) (Nat.le_of_ble_eq_true rfl) ?_
  intro p e s m args below meth c0 Q A hAe hQ hx hb hr hlk hml hts hown hP hE hD hS hA hsz hmn hX ls hl
  rw [← hAe] at hQ
  have S : CallFix p m c0 cX1_init 1 s args zT RX1 := ⟨hx, hb, hml, hown, hts⟩
  have hl : lv_has ls 1 [(0, .ref t0)] := hl
  refine lv_aload_n hx hb dX1_init_0 rfl (lv_at hl 0 rfl) ?_
  refine zobj S tw_1_194 tw_1_22 tw_1_23 hl.1 (Nat.le_of_ble_eq_true rfl) (Nat.le_of_ble_eq_true rfl) dX1_init_1 ?_
  refine lv_aload_n hx hb dX1_init_4 rfl (lv_at hl 0 rfl) ?_
  refine lv_iconst (v := (0 : Int32)) hx hb dX1_init_5 (by decide) ?_
  refine zput S uw_X1 tyX1_ok nmX1 hE hP hD hS 0 0 (ty := .int) [(t0, .inr (1, [.int (0 : Int32), .null, .int 0, .null, .null, .null, .int 0, .null, .null, .int 0]))] rfl rfl (by decide) tw_1_197 rfl rfl (by decide +kernel) rfl rfl (Nat.le_of_ble_eq_true rfl) rfl dX1_init_6 (fun H locs hP hD hS => ?_)
  refine lv_aload_n hx hb dX1_init_9 rfl (lv_at hl 0 rfl) ?_
  refine lv_iconst (v := (5 : Int32)) hx hb dX1_init_10 (by decide) ?_
  refine znai (N' := 5) hx hb hts tw_1_94 hE hP hD hS hA (by decide) (by decide) (Nat.le_of_ble_eq_true rfl) (Nat.le_of_ble_eq_true rfl) (Nat.le_of_ble_eq_true rfl) dX1_init_11 (fun q1 H hP hD hS => ?_)
  have hP : va_P D vwCl [(t0, .inr (1, [.int (0 : Int32), .null, .int 0, .null, .null, .null, .int 0, .null, .null, .int 0])), (q1, .inl (c 0, 5, .inl (fun _ => 0)))] H := hP
  have hD : va_D A [(t0, .inr (1, [.int (0 : Int32), .null, .int 0, .null, .null, .null, .int 0, .null, .null, .int 0])), (q1, .inl (c 0, 5, .inl (fun _ => 0)))] := hD
  refine zpuf S uw_X1 tyX1_ok nmX1 hE hmn hP hD hS 0 1 (ty := tyX1 1) [(t0, .inr (1, [.int (0 : Int32), .ref q1, .int 0, .null, .null, .null, .int 0, .null, .null, .int 0])), (q1, .inl (c 0, 5, .inl (fun _ => 0)))] rfl rfl (by decide) tw_1_199 rfl rfl rfl (tyX1_ok 1 (by decide)) rfl rfl (Nat.le_of_ble_eq_true rfl) rfl dX1_init_13 (fun H locs hP hD hS => ?_)
  refine lv_aload_n hx hb dX1_init_16 rfl (lv_at hl 0 rfl) ?_
  refine lv_iconst (v := (0 : Int32)) hx hb dX1_init_17 (by decide) ?_
  refine zput S uw_X1 tyX1_ok nmX1 hE hP hD hS 0 2 (ty := .int) [(t0, .inr (1, [.int (0 : Int32), .ref q1, .int (0 : Int32), .null, .null, .null, .int 0, .null, .null, .int 0])), (q1, .inl (c 0, 5, .inl (fun _ => 0)))] rfl rfl (by decide) tw_1_200 rfl rfl (by decide +kernel) rfl rfl (Nat.le_of_ble_eq_true rfl) rfl dX1_init_18 (fun H locs hP hD hS => ?_)
  refine lv_aload_n hx hb dX1_init_21 rfl (lv_at hl 0 rfl) ?_
  refine lv_bipush (v := (16 : Int32)) hx hb dX1_init_22 (by decide) ?_
  refine lv_iconst (v := (5 : Int32)) hx hb dX1_init_24 (by decide) ?_
  refine zmna S tw_1_195 hE hX hP hD hS hA (Nat.le_of_ble_eq_true rfl) (Nat.le_of_ble_eq_true rfl) dX1_init_25 (fun q2 r2 H hP hD hS => ?_)
  refine zpuf S uw_X1 tyX1_ok nmX1 hE hmn hP hD hS 0 3 (ty := tyX1 3) ([(t0, .inr (1, [.int (0 : Int32), .ref q1, .int (0 : Int32), .ref q2, .null, .null, .int 0, .null, .null, .int 0])), (q1, .inl (c 0, 5, .inl (fun _ => 0)))] ++ wG c q2 r2 (fun _ _ => 0)) (zapl rfl) rfl (by decide) tw_1_201 rfl rfl rfl (tyX1_ok 3 (by decide)) rfl rfl (Nat.le_of_ble_eq_true rfl) (zs0 rfl rfl) dX1_init_29 (fun H locs hP hD hS => ?_)
  refine lv_aload_n hx hb dX1_init_32 rfl (lv_at hl 0 rfl) ?_
  refine lv_bipush (v := (16 : Int32)) hx hb dX1_init_33 (by decide) ?_
  refine lv_iconst (v := (5 : Int32)) hx hb dX1_init_35 (by decide) ?_
  refine zmna S tw_1_195 hE hX hP hD hS hA (Nat.le_of_ble_eq_true rfl) (Nat.le_of_ble_eq_true rfl) dX1_init_36 (fun q3 r3 H hP hD hS => ?_)
  refine zpuf S uw_X1 tyX1_ok nmX1 hE hmn hP hD hS 0 4 (ty := tyX1 4) ([(t0, .inr (1, [.int (0 : Int32), .ref q1, .int (0 : Int32), .ref q2, .ref q3, .null, .int 0, .null, .null, .int 0])), (q1, .inl (c 0, 5, .inl (fun _ => 0)))] ++ wG c q2 r2 (fun _ _ => 0) ++ wG c q3 r3 (fun _ _ => 0)) (zapl (zapl rfl)) rfl (by decide) tw_1_202 rfl rfl rfl (tyX1_ok 4 (by decide)) rfl rfl (Nat.le_of_ble_eq_true rfl) (zs0 (zapl rfl) (zs0 rfl rfl)) dX1_init_40 (fun H locs hP hD hS => ?_)
  refine lv_aload_n hx hb dX1_init_43 rfl (lv_at hl 0 rfl) ?_
  refine lv_bipush (v := (16 : Int32)) hx hb dX1_init_44 (by decide) ?_
  refine znai (N' := 16) hx hb hts tw_1_94 hE hP hD hS hA (by decide) (by decide) (Nat.le_of_ble_eq_true rfl) (Nat.le_of_ble_eq_true rfl) (Nat.le_of_ble_eq_true rfl) dX1_init_46 (fun q4 H hP hD hS => ?_)
  refine zpuf S uw_X1 tyX1_ok nmX1 hE hmn hP hD hS 0 5 (ty := tyX1 5) ([(t0, .inr (1, [.int (0 : Int32), .ref q1, .int (0 : Int32), .ref q2, .ref q3, .ref q4, .int 0, .null, .null, .int 0])), (q1, .inl (c 0, 5, .inl (fun _ => 0)))] ++ wG c q2 r2 (fun _ _ => 0) ++ wG c q3 r3 (fun _ _ => 0) ++ [(q4, .inl (c 0, 16, .inl (fun _ => 0)))]) (zapl (zapl (zapl rfl))) rfl (by decide) tw_1_203 rfl rfl rfl (tyX1_ok 5 (by decide)) rfl rfl (Nat.le_of_ble_eq_true rfl) (zs0 (zapl (zapl rfl)) (zs0 (zapl rfl) (zs0 rfl rfl))) dX1_init_48 (fun H locs hP hD hS => ?_)
  refine lv_aload_n hx hb dX1_init_51 rfl (lv_at hl 0 rfl) ?_
  refine lv_iconst (v := (0 : Int32)) hx hb dX1_init_52 (by decide) ?_
  refine zput S uw_X1 tyX1_ok nmX1 hE hP hD hS 0 6 (ty := .int) ([(t0, .inr (1, [.int (0 : Int32), .ref q1, .int (0 : Int32), .ref q2, .ref q3, .ref q4, .int (0 : Int32), .null, .null, .int 0])), (q1, .inl (c 0, 5, .inl (fun _ => 0)))] ++ wG c q2 r2 (fun _ _ => 0) ++ wG c q3 r3 (fun _ _ => 0) ++ [(q4, .inl (c 0, 16, .inl (fun _ => 0)))]) (zapl (zapl (zapl rfl))) rfl (by decide) tw_1_204 rfl rfl (by decide +kernel) rfl rfl (Nat.le_of_ble_eq_true rfl) (zs0 (zapl (zapl rfl)) (zs0 (zapl rfl) (zs0 rfl rfl))) dX1_init_53 (fun H locs hP hD hS => ?_)
  refine lv_aload_n hx hb dX1_init_56 rfl (lv_at hl 0 rfl) ?_
  refine lv_iconst (v := (5 : Int32)) hx hb dX1_init_57 (by decide) ?_
  refine znai (N' := 5) hx hb hts tw_1_94 hE hP hD hS hA (by decide) (by decide) (Nat.le_of_ble_eq_true rfl) (Nat.le_of_ble_eq_true rfl) (Nat.le_of_ble_eq_true rfl) dX1_init_58 (fun q5 H hP hD hS => ?_)
  refine zpuf S uw_X1 tyX1_ok nmX1 hE hmn hP hD hS 0 7 (ty := tyX1 7) ([(t0, .inr (1, [.int (0 : Int32), .ref q1, .int (0 : Int32), .ref q2, .ref q3, .ref q4, .int (0 : Int32), .ref q5, .null, .int 0])), (q1, .inl (c 0, 5, .inl (fun _ => 0)))] ++ wG c q2 r2 (fun _ _ => 0) ++ wG c q3 r3 (fun _ _ => 0) ++ [(q4, .inl (c 0, 16, .inl (fun _ => 0)))] ++ [(q5, .inl (c 0, 5, .inl (fun _ => 0)))]) (zapl (zapl (zapl (zapl rfl)))) rfl (by decide) tw_1_205 rfl rfl rfl (tyX1_ok 7 (by decide)) rfl rfl (Nat.le_of_ble_eq_true rfl) (zs0 (zapl (zapl (zapl rfl))) (zs0 (zapl (zapl rfl)) (zs0 (zapl rfl) (zs0 rfl rfl)))) dX1_init_60 (fun H locs hP hD hS => ?_)
  refine lv_aload_n hx hb dX1_init_63 rfl (lv_at hl 0 rfl) ?_
  refine lv_iconst (v := (5 : Int32)) hx hb dX1_init_64 (by decide) ?_
  refine znai (N' := 5) hx hb hts tw_1_94 hE hP hD hS hA (by decide) (by decide) (Nat.le_of_ble_eq_true rfl) (Nat.le_of_ble_eq_true rfl) (Nat.le_of_ble_eq_true rfl) dX1_init_65 (fun q6 H hP hD hS => ?_)
  refine zpuf S uw_X1 tyX1_ok nmX1 hE hmn hP hD hS 0 8 (ty := tyX1 8) ([(t0, .inr (1, [.int (0 : Int32), .ref q1, .int (0 : Int32), .ref q2, .ref q3, .ref q4, .int (0 : Int32), .ref q5, .ref q6, .int 0])), (q1, .inl (c 0, 5, .inl (fun _ => 0)))] ++ wG c q2 r2 (fun _ _ => 0) ++ wG c q3 r3 (fun _ _ => 0) ++ [(q4, .inl (c 0, 16, .inl (fun _ => 0)))] ++ [(q5, .inl (c 0, 5, .inl (fun _ => 0)))] ++ [(q6, .inl (c 0, 5, .inl (fun _ => 0)))]) (zapl (zapl (zapl (zapl (zapl rfl))))) rfl (by decide) tw_1_206 rfl rfl rfl (tyX1_ok 8 (by decide)) rfl rfl (Nat.le_of_ble_eq_true rfl) (zs0 (zapl (zapl (zapl (zapl rfl)))) (zs0 (zapl (zapl (zapl rfl))) (zs0 (zapl (zapl rfl)) (zs0 (zapl rfl) (zs0 rfl rfl))))) dX1_init_67 (fun H locs hP hD hS => ?_)
  refine lv_aload_n hx hb dX1_init_70 rfl (lv_at hl 0 rfl) ?_
  refine lv_iconst (v := (0 : Int32)) hx hb dX1_init_71 (by decide) ?_
  refine zput S uw_X1 tyX1_ok nmX1 hE hP hD hS 0 9 (ty := .int) ([(t0, .inr (1, [.int (0 : Int32), .ref q1, .int (0 : Int32), .ref q2, .ref q3, .ref q4, .int (0 : Int32), .ref q5, .ref q6, .int (0 : Int32)])), (q1, .inl (c 0, 5, .inl (fun _ => 0)))] ++ wG c q2 r2 (fun _ _ => 0) ++ wG c q3 r3 (fun _ _ => 0) ++ [(q4, .inl (c 0, 16, .inl (fun _ => 0)))] ++ [(q5, .inl (c 0, 5, .inl (fun _ => 0)))] ++ [(q6, .inl (c 0, 5, .inl (fun _ => 0)))]) (zapl (zapl (zapl (zapl (zapl rfl))))) rfl (by decide) tw_1_207 rfl rfl (by decide +kernel) rfl rfl (Nat.le_of_ble_eq_true rfl) (zs0 (zapl (zapl (zapl (zapl rfl)))) (zs0 (zapl (zapl (zapl rfl))) (zs0 (zapl (zapl rfl)) (zs0 (zapl rfl) (zs0 rfl rfl))))) dX1_init_72 (fun H locs hP hD hS => ?_)
  exact zRC (B := fun u => wX1 c t0 (u 0 0) (u 1 0) (u 2 0) (u 3 0) (u 4 0) (u 5 0) 0 (fun _ => 0) 0 (fun _ => 0) 0 (fun _ => 0) (fun _ => 0) 0 ++ wG c (u 1 0) (u 10) (fun _ _ => 0) ++ wG c (u 2 0) (u 11) (fun _ _ => 0)) (fun k => if k = 10 then r2 else if k = 11 then r3 else fun _ => [q1, q2, q3, q4, q5, q6].getD k 0) hAe hQ hx hb hr hlk (zpsub (is := [0, 1, 36, 37, 38, 2, 3, 4, 5, 6, 7, 8, 9, 10, 11, 12, 13, 14, 15, 16, 17, 18, 19, 20, 21, 22, 23, 24, 25, 26, 27, 28, 29, 30, 31, 32, 33, 34, 35]) hP rfl) (hD.sub [0, 1, 36, 37, 38, 2, 3, 4, 5, 6, 7, 8, 9, 10, 11, 12, 13, 14, 15, 16, 17, 18, 19, 20, 21, 22, 23, 24, 25, 26, 27, 28, 29, 30, 31, 32, 33, 34, 35] rfl rfl) hS dX1_init_75
