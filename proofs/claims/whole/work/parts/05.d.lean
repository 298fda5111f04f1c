def f_X1_addWord_L11 (N : Nat) (k_2 : (Nat → Nat → Int32) → (Nat → Nat → Int32) → Option ((Nat → Int32) × (Int32) × (Nat → Nat → Int32) × (Nat → Nat → Int32))) (t_letters : Nat → Int32) (t_wordCount : Int32) (p1 : Int64) : Nat → (Int32) → (Int32) → (Nat → Nat → Int32) → (Nat → Nat → Int32) → Option ((Nat → Int32) × (Int32) × (Nat → Nat → Int32) × (Nat → Nat → Int32))
  | 0, _, _, _, _ => none
  | n_2 + 1, v4_3, v5_4, x_m_5, y_m_6 => (if v5_4 < 0 then (k_2 x_m_5 y_m_6) else zz_gd (zz_in t_wordCount 16) (zz_gd (zz_in v5_4 5) (zz_let (upd (y_m_6 t_wordCount.toNatClampNeg) v5_4.toNatClampNeg v4_3) (fun row_10 => zz_let (zz_up2 y_m_6 t_wordCount.toNatClampNeg row_10) (fun y_m_11 => zz_b1 (f_X6_timesIn N p1 (t_letters v5_4.toNatClampNeg)) (fun r_12 => zz_let (upd (x_m_5 t_wordCount.toNatClampNeg) v5_4.toNatClampNeg r_12) (fun row_13 => zz_let (zz_up2 x_m_5 t_wordCount.toNatClampNeg row_13) (fun x_m_14 => zz_let (v4_3 + (x_m_14 t_wordCount.toNatClampNeg v5_4.toNatClampNeg)) (fun v4_15 => zz_let (v5_4 + (-1 : Int32)) (fun v5_16 => (f_X1_addWord_L11 N k_2 t_letters t_wordCount p1 n_2 v4_15 v5_16 x_m_14 y_m_11)))))))))))
theorem f_X1_addWord_L11_s (N : Nat) (k_2 : (Nat → Nat → Int32) → (Nat → Nat → Int32) → Option ((Nat → Int32) × (Int32) × (Nat → Nat → Int32) × (Nat → Nat → Int32))) (t_letters : Nat → Int32) (t_wordCount : Int32) (p1 : Int64) (n_2 : Nat) (v4_3 : Int32) (v5_4 : Int32) (x_m_5 : Nat → Nat → Int32) (y_m_6 : Nat → Nat → Int32) : f_X1_addWord_L11 N k_2 t_letters t_wordCount p1 (n_2 + 1) v4_3 v5_4 x_m_5 y_m_6 = (if v5_4 < 0 then (k_2 x_m_5 y_m_6) else zz_gd (zz_in t_wordCount 16) (zz_gd (zz_in v5_4 5) (zz_let (upd (y_m_6 t_wordCount.toNatClampNeg) v5_4.toNatClampNeg v4_3) (fun row_10 => zz_let (zz_up2 y_m_6 t_wordCount.toNatClampNeg row_10) (fun y_m_11 => zz_b1 (f_X6_timesIn N p1 (t_letters v5_4.toNatClampNeg)) (fun r_12 => zz_let (upd (x_m_5 t_wordCount.toNatClampNeg) v5_4.toNatClampNeg r_12) (fun row_13 => zz_let (zz_up2 x_m_5 t_wordCount.toNatClampNeg row_13) (fun x_m_14 => zz_let (v4_3 + (x_m_14 t_wordCount.toNatClampNeg v5_4.toNatClampNeg)) (fun v4_15 => zz_let (v5_4 + (-1 : Int32)) (fun v5_16 => (f_X1_addWord_L11 N k_2 t_letters t_wordCount p1 n_2 v4_15 v5_16 x_m_14 y_m_11))))))))))) := rfl
def f_X1_addWord (N : Nat) (t_letters : Nat → Int32) (t_letterCount : Int32) (t_left : Nat → Int32) (t_wordCount : Int32) (x_m : Nat → Nat → Int32) (y_m : Nat → Nat → Int32) (p1 : Int64) (p3 : Int32) : Option ((Nat → Int32) × (Int32) × (Nat → Nat → Int32) × (Nat → Nat → Int32)) := zz_let (t_letterCount - (1 : Int32)) (fun v5_1 => zz_let (fun (x_m_17 : Nat → Nat → Int32) (y_m_18 : Nat → Nat → Int32) => zz_gd (zz_in t_wordCount 16) (zz_let (upd t_left t_wordCount.toNatClampNeg p3) (fun t_left_20 => zz_let (t_wordCount + (1 : Int32)) (fun t_wordCount_21 => (some (t_left_20, t_wordCount_21, x_m_17, y_m_18)))))) (fun k_2 => f_X1_addWord_L11 N k_2 t_letters t_wordCount p1 N (0 : Int32) v5_1 x_m y_m))
abbrev rm_X1_addWord : Room := { frames := 2, cells := 0, slots := 0, locals := 47 }
theorem mi_X1_addWord : zMI RX1 yX1_addWord cX1_addWord 6 none 2 := ⟨⟨tw_4_13, ts_X1_addWord, tw_1_6, tw_4_14⟩, by decide +kernel, by decide +kernel, by decide +kernel⟩
set_option maxHeartbeats 4000000 in
set_option maxRecDepth 100000 in
theorem k_X1_addWord (l : Launch) (D : va_G) (c : Nat → ClassId) (N : Nat) (t0 : Nat) (tA_letters : Nat) (xA : Nat) (yA : Nat) (tA_left : Nat) (tA_given : Nat) (tA_first : Nat) (t_ways : Int32) (t_letters : Nat → Int32) (t_letterCount : Int32) (t_left : Nat → Int32) (t_wordCount : Int32) (t_given : Nat → Int32) (t_first : Nat → Int32) (t_most : Int32) (xA_x : Nat) (xr : Nat → Nat) (x_m : Nat → Nat → Int32) (yA_x : Nat) (yr : Nat → Nat) (y_m : Nat → Nat → Int32) (p1 : Int64) (p3 : Int32) (o_t_left : Nat → Int32) (o_t_wordCount : Int32) (o_x_m : Nat → Nat → Int32) (o_y_m : Nat → Nat → Int32) (hf : f_X1_addWord N t_letters t_letterCount t_left t_wordCount x_m y_m p1 p3 = some (o_t_left, o_t_wordCount, o_x_m, o_y_m)) : zMWv l D c yX1_addWord cX1_addWord 6 none rm_X1_addWord (wX1 c t0 tA_letters xA yA tA_left tA_given tA_first t_ways t_letters t_letterCount t_left t_wordCount t_given t_first t_most ++ wG c xA xr x_m ++ wG c yA yr y_m) (wX1 c t0 tA_letters xA yA tA_left tA_given tA_first t_ways t_letters t_letterCount o_t_left o_t_wordCount t_given t_first t_most ++ wG c xA xr o_x_m ++ wG c yA yr o_y_m) [.ref t0, .long p1, .int p3] := by
  intro sz
  refine zIW (by decide) (Nat.le_of_ble_eq_true rfl) ?_
  intro p e s m args below meth c0 Q A hAe hQ hx hb hr hlk hml hts hown hP hE hD hS hA hsz hmn hX ls hl
  rw [← hAe] at hQ
  have S : CallFix p m c0 cX1_addWord 6 s args zT RX1 := ⟨hx, hb, hml, hown, hts⟩
  have hl : lv_has ls 6 [(0, .ref t0), (1, .long p1), (3, .int p3)] := hl
  unfold f_X1_addWord at hf
  refine lv_iconst (v := (0 : Int32)) hx hb dX1_addWord_0 (by decide) ?_
  refine lv_istore (lv' := [(4, .int (0 : Int32)), (0, .ref t0), (1, .long p1), (3, .int p3)]) hx hb dX1_addWord_1 hl (by decide) rfl (fun ls hl => ?_)
  refine lv_aload_n hx hb dX1_addWord_3 rfl (lv_at hl 1 rfl) ?_
  refine zget S uw_X1 hE hP 0 2 rfl rfl (by decide) tw_1_200 rfl rfl dX1_addWord_4 ?_
  refine lv_iconst (v := (1 : Int32)) hx hb dX1_addWord_7 (by decide) ?_
  refine lv_isub hx hb dX1_addWord_8 ?_
  obtain ⟨v5_1, ev5_1, hf⟩ := zz_let_use hf
  refine zti ev5_1 ?_
  refine lv_istore (lv' := [(5, .int v5_1), (4, .int (0 : Int32)), (0, .ref t0), (1, .long p1), (3, .int p3)]) hx hb dX1_addWord_9 hl (by decide) rfl (fun ls hl => ?_)
  obtain ⟨k_2, hk_2, hf⟩ := zz_let_use hf
  have hX_2 : ∀ (x_m_17 : Nat → Nat → Int32) (y_m_18 : Nat → Nat → Int32) (H : Heap) (locs : List Loc) (ls : Array Slot), k_2 x_m_17 y_m_18 = some (o_t_left, o_t_wordCount, o_x_m, o_y_m) → va_P D vwCl (wX1 c t0 tA_letters xA yA tA_left tA_given tA_first t_ways t_letters t_letterCount t_left t_wordCount t_given t_first t_most ++ wG c xA xr x_m_17 ++ wG c yA yr y_m_18) H → va_D A (wX1 c t0 tA_letters xA yA tA_left tA_given tA_first t_ways t_letters t_letterCount t_left t_wordCount t_given t_first t_most ++ wG c xA xr x_m_17 ++ wG c yA yr y_m_18) → va_S A s.heap H locs → lv_has ls 6 [(0, .ref t0), (3, .int p3)] → W p l e rm_X1_addWord s m args below meth c0 H locs 0 0 Q (F0 m 76 ls []) := by
    intro x_m_17 y_m_18 H locs ls hf hP hD hS hl
    subst hk_2
    refine lv_aload_n hx hb dX1_addWord_76 rfl (lv_at hl 0 rfl) ?_
    refine zget S uw_X1 hE hP 0 5 rfl rfl (by decide) tw_1_203 rfl rfl dX1_addWord_77 ?_
    refine lv_aload_n hx hb dX1_addWord_80 rfl (lv_at hl 0 rfl) ?_
    refine zget S uw_X1 hE hP 0 6 rfl rfl (by decide) tw_1_204 rfl rfl dX1_addWord_81 ?_
    refine lv_iload_n hx hb dX1_addWord_84 rfl (lv_at hl 1 rfl) ?_
    obtain ⟨hin_19, hf⟩ := zz_gd_use hf
    obtain ⟨t_left_20, et_left_20, hf⟩ := zz_let_use hf
    refine zist hx hb hE hP hD hS 2 (wX1 c t0 tA_letters xA yA tA_left tA_given tA_first t_ways t_letters t_letterCount t_left_20 t_wordCount t_given t_first t_most ++ wG c xA xr x_m_17 ++ wG c yA yr y_m_18) rfl rfl et_left_20 (zz_in_ok hin_19) dX1_addWord_85 (fun H locs hP hD hS => ?_)
    refine lv_aload_n hx hb dX1_addWord_86 rfl (lv_at hl 0 rfl) ?_
    refine lv_dup hx hb dX1_addWord_87 rfl ?_
    refine zget S uw_X1 hE hP 0 6 rfl rfl (by decide) tw_1_204 rfl rfl dX1_addWord_88 ?_
    refine lv_iconst (v := (1 : Int32)) hx hb dX1_addWord_91 (by decide) ?_
    refine lv_iadd hx hb dX1_addWord_92 ?_
    obtain ⟨t_wordCount_21, et_wordCount_21, hf⟩ := zz_let_use hf
    refine zti et_wordCount_21 ?_
    refine zput S uw_X1 tyX1_ok nmX1 hE hP hD hS 0 6 (ty := .int) (wX1 c t0 tA_letters xA yA tA_left tA_given tA_first t_ways t_letters t_letterCount t_left_20 t_wordCount_21 t_given t_first t_most ++ wG c xA xr x_m_17 ++ wG c yA yr y_m_18) rfl rfl (by decide) tw_1_204 rfl rfl (by decide +kernel) rfl rfl (Nat.le_of_ble_eq_true rfl) rfl dX1_addWord_93 (fun H locs hP hD hS => ?_)
    cases hf
    exact zRWv hQ hx hb hr hlk hP hD hS dX1_addWord_96
  have hL_2 : ∀ (n_2 : Nat) (v4_3 : Int32) (v5_4 : Int32) (x_m_5 : Nat → Nat → Int32) (y_m_6 : Nat → Nat → Int32) (H : Heap) (locs : List Loc) (ls : Array Slot), f_X1_addWord_L11 N k_2 t_letters t_wordCount p1 n_2 v4_3 v5_4 x_m_5 y_m_6 = some (o_t_left, o_t_wordCount, o_x_m, o_y_m) → va_P D vwCl (wX1 c t0 tA_letters xA yA tA_left tA_given tA_first t_ways t_letters t_letterCount t_left t_wordCount t_given t_first t_most ++ wG c xA xr x_m_5 ++ wG c yA yr y_m_6) H → va_D A (wX1 c t0 tA_letters xA yA tA_left tA_given tA_first t_ways t_letters t_letterCount t_left t_wordCount t_given t_first t_most ++ wG c xA xr x_m_5 ++ wG c yA yr y_m_6) → va_S A s.heap H locs → lv_has ls 6 [(0, .ref t0), (1, .long p1), (3, .int p3), (4, .int v4_3), (5, .int v5_4)] → W p l e rm_X1_addWord s m args below meth c0 H locs 0 0 Q (F0 m 11 ls []) := by
    intro n_2
    induction n_2 with
    | zero => intro v4_3 v5_4 x_m_5 y_m_6 H locs ls hf hP hD hS hl; exact zz_none hf
    | succ n_2 ih_2 =>
      intro v4_3 v5_4 x_m_5 y_m_6 H locs ls hf hP hD hS hl
      rw [f_X1_addWord_L11_s] at hf
      refine lv_iload hx hb dX1_addWord_11 (lv_at hl 4 rfl) ?_
      refine lv_if_lt (tgt := 76) hx hb dX1_addWord_13 (by decide) (fun hc_7 => ?_) (fun hc_7 => ?_)
      · have hf := zz_it hf hc_7
        exact hX_2 x_m_5 y_m_6 H locs ls hf hP hD hS (lv_sub hl [0, 2] rfl)
      · have hf := zz_if hf hc_7
        refine lv_aload_n hx hb dX1_addWord_16 rfl (lv_at hl 0 rfl) ?_
        refine zget S uw_X1 hE hP 0 4 rfl rfl (by decide) tw_1_202 rfl rfl dX1_addWord_17 ?_
        refine lv_aload_n hx hb dX1_addWord_20 rfl (lv_at hl 0 rfl) ?_
        refine zget S uw_X1 hE hP 0 6 rfl rfl (by decide) tw_1_204 rfl rfl dX1_addWord_21 ?_
        obtain ⟨hin_8, hf⟩ := zz_gd_use hf
        refine zaG hx hb hE hP 22 rfl (zz_in_ok hin_8) dX1_addWord_24 ?_
        refine lv_iload hx hb dX1_addWord_25 (lv_at hl 4 rfl) ?_
        refine lv_iload hx hb dX1_addWord_27 (lv_at hl 3 rfl) ?_
        obtain ⟨hin_9, hf⟩ := zz_gd_use hf
        obtain ⟨row_10, erow_10, hf⟩ := zz_let_use hf
        obtain ⟨y_m_11, ey_m_11, hf⟩ := zz_let_use hf
        have hjb := (zz_in_lt hin_8)
        refine zist hx hb hE hP hD hS (22 + (1 + t_wordCount.toNatClampNeg)) (wX1 c t0 tA_letters xA yA tA_left tA_given tA_first t_ways t_letters t_letterCount t_left t_wordCount t_given t_first t_most ++ wG c xA xr x_m_5 ++ wG c yA yr y_m_11) (zapp rfl (wG_r (zz_in_lt hin_8))) (zsr rfl (wG_s (zz_in_lt hin_8) ey_m_11)) erow_10 (zz_in_ok hin_9) dX1_addWord_29 (fun H locs hP hD hS => ?_)
        refine lv_aload_n hx hb dX1_addWord_30 rfl (lv_at hl 0 rfl) ?_
        refine zget S uw_X1 hE hP 0 3 rfl rfl (by decide) tw_1_201 rfl rfl dX1_addWord_31 ?_
        refine lv_aload_n hx hb dX1_addWord_34 rfl (lv_at hl 0 rfl) ?_
        refine zget S uw_X1 hE hP 0 6 rfl rfl (by decide) tw_1_204 rfl rfl dX1_addWord_35 ?_
        refine zaG hx hb hE hP 5 rfl (zz_in_ok hin_8) dX1_addWord_38 ?_
        refine lv_iload hx hb dX1_addWord_39 (lv_at hl 4 rfl) ?_
        refine lv_lload_n hx hb dX1_addWord_41 rfl (lv_at hl 1 rfl) ?_
        refine lv_aload_n hx hb dX1_addWord_42 rfl (lv_at hl 0 rfl) ?_
        refine zget S uw_X1 hE hP 0 1 rfl rfl (by decide) tw_1_199 rfl rfl dX1_addWord_43 ?_
        refine lv_iload hx hb dX1_addWord_46 (lv_at hl 4 rfl) ?_
        refine zild hx hb hE hP 1 rfl (zz_in_ok hin_9) dX1_addWord_48 ?_
        obtain ⟨r_12, he_12, hf⟩ := zz_b1_use hf
        refine zcNi (As := [.long p1, .int (t_letters v5_4.toNatClampNeg)]) (rest := [.int v5_4, .ref (xr t_wordCount.toNatClampNeg)]) S (k_X6_timesIn l D c N  p1 (t_letters v5_4.toNatClampNeg) r_12 he_12) mi_X6_timesIn tn_X1_73 ⟨(Nat.le_of_ble_eq_true rfl), (Nat.le_of_ble_eq_true rfl)⟩ ⟨rfl, rfl⟩ (zpnil) hE hX hS rfl hl.1 rfl (Nat.le_of_ble_eq_true rfl) dX1_addWord_49 ⟨(Nat.le_of_ble_eq_true rfl), (Nat.le_of_ble_eq_true rfl)⟩ ?_
        obtain ⟨row_13, erow_13, hf⟩ := zz_let_use hf
        obtain ⟨x_m_14, ex_m_14, hf⟩ := zz_let_use hf
        have hjb := (zz_in_lt hin_8)
        refine zist hx hb hE hP hD hS (5 + (1 + t_wordCount.toNatClampNeg)) (wX1 c t0 tA_letters xA yA tA_left tA_given tA_first t_ways t_letters t_letterCount t_left t_wordCount t_given t_first t_most ++ wG c xA xr x_m_14 ++ wG c yA yr y_m_11) (zapl (zapp rfl (wG_r (zz_in_lt hin_8)))) (zsl (show (5 + (1 + t_wordCount.toNatClampNeg)) < 22 from by omega) (zsr rfl (wG_s (zz_in_lt hin_8) ex_m_14))) erow_13 (zz_in_ok hin_9) dX1_addWord_52 (fun H locs hP hD hS => ?_)
        refine lv_iload hx hb dX1_addWord_53 (lv_at hl 3 rfl) ?_
        refine lv_aload_n hx hb dX1_addWord_55 rfl (lv_at hl 0 rfl) ?_
        refine zget S uw_X1 hE hP 0 3 rfl rfl (by decide) tw_1_201 rfl rfl dX1_addWord_56 ?_
        refine lv_aload_n hx hb dX1_addWord_59 rfl (lv_at hl 0 rfl) ?_
        refine zget S uw_X1 hE hP 0 6 rfl rfl (by decide) tw_1_204 rfl rfl dX1_addWord_60 ?_
        refine zaG hx hb hE hP 5 rfl (zz_in_ok hin_8) dX1_addWord_63 ?_
        refine lv_iload hx hb dX1_addWord_64 (lv_at hl 4 rfl) ?_
        refine zild hx hb hE hP (5 + (1 + t_wordCount.toNatClampNeg)) (zapl (zapp rfl (wG_r (zz_in_lt hin_8)))) (zz_in_ok hin_9) dX1_addWord_66 ?_
        refine lv_iadd hx hb dX1_addWord_67 ?_
        obtain ⟨v4_15, ev4_15, hf⟩ := zz_let_use hf
        refine zti ev4_15 ?_
        refine lv_istore (lv' := [(4, .int v4_15), (0, .ref t0), (1, .long p1), (3, .int p3), (5, .int v5_4)]) hx hb dX1_addWord_68 hl (by decide) rfl (fun ls hl => ?_)
        obtain ⟨v5_16, ev5_16, hf⟩ := zz_let_use hf
        refine lv_iinc (v := v5_16) (lv' := [(5, .int v5_16), (4, .int v4_15), (0, .ref t0), (1, .long p1), (3, .int p3)]) hx hb dX1_addWord_70 hl (k := 4) rfl (by rw [← ev5_16]; rfl) (by decide) rfl (fun ls hl => ?_)
        refine lv_goto (tgt := 11) hx hb dX1_addWord_73 (by decide) ?_
        exact ih_2 v4_15 v5_16 x_m_14 y_m_11 H locs ls hf hP hD hS (lv_sub hl [2, 3, 4, 1, 0] rfl)
  exact hL_2 N (0 : Int32) v5_1 x_m y_m s.heap [] ls hf hP hD hS (lv_sub hl [2, 3, 4, 1, 0] rfl)
def f_X1_isInAny_L2 (N : Nat) (k_1 : Option (Int32)) (w_words : Nat → Int64) (w_personCount : Int32) (p1 : Int32) : Nat → (Int32) → Option (Int32)
  | 0, _ => none
  | n_1 + 1, v2_2 => (if w_personCount ≤ v2_2 then k_1 else zz_gd (zz_in v2_2 16) (zz_b1 (f_X6_timesIn N (w_words v2_2.toNatClampNeg) p1) (fun r_5 => (if r_5 ≤ 0 then zz_let (v2_2 + (1 : Int32)) (fun v2_7 => (f_X1_isInAny_L2 N k_1 w_words w_personCount p1 n_1 v2_7)) else (some (1 : Int32))))))
theorem f_X1_isInAny_L2_s (N : Nat) (k_1 : Option (Int32)) (w_words : Nat → Int64) (w_personCount : Int32) (p1 : Int32) (n_1 : Nat) (v2_2 : Int32) : f_X1_isInAny_L2 N k_1 w_words w_personCount p1 (n_1 + 1) v2_2 = (if w_personCount ≤ v2_2 then k_1 else zz_gd (zz_in v2_2 16) (zz_b1 (f_X6_timesIn N (w_words v2_2.toNatClampNeg) p1) (fun r_5 => (if r_5 ≤ 0 then zz_let (v2_2 + (1 : Int32)) (fun v2_7 => (f_X1_isInAny_L2 N k_1 w_words w_personCount p1 n_1 v2_7)) else (some (1 : Int32)))))) := rfl
def f_X1_isInAny (N : Nat) (w_words : Nat → Int64) (w_personCount : Int32) (p1 : Int32) : Option (Int32) := zz_let ((some (0 : Int32))) (fun k_1 => f_X1_isInAny_L2 N k_1 w_words w_personCount p1 N (0 : Int32))
abbrev rm_X1_isInAny : Room := { frames := 2, cells := 0, slots := 0, locals := 47 }
theorem mi_X1_isInAny : zMS yX1_isInAny cX1_isInAny 3 (some .boolean) 2 := ⟨⟨tw_4_5, tw_1_6, tw_4_6⟩, by decide +kernel, by decide +kernel, by decide +kernel⟩
set_option maxHeartbeats 4000000 in
set_option maxRecDepth 100000 in
theorem k_X1_isInAny (l : Launch) (D : va_G) (c : Nat → ClassId) (N : Nat) (w0 : Nat) (wA_numbers : Nat) (wA_syllables : Nat) (wA_days : Nat) (wA_words : Nat) (wA_parents : Nat) (wA_otherParents : Nat) (wA_kinds : Nat) (wA_hopeDays : Nat) (wA_hopeTenths : Nat) (w_numbers : Nat → Int32) (w_syllables : Nat → Int64) (w_syllableCount : Int32) (w_days : Nat → Int32) (w_words : Nat → Int64) (w_parents : Nat → Int32) (w_otherParents : Nat → Int32) (w_kinds : Nat → Int32) (w_personCount : Int32) (w_hopeDays : Nat → Int32) (w_hopeTenths : Nat → Int32) (w_hopeCount : Int32) (w_degreesTold : Int32) (p1 : Int32) (o : Int32) (hf : f_X1_isInAny N w_words w_personCount p1 = some o) : zMPi l D c yX1_isInAny cX1_isInAny 3 (some .boolean) rm_X1_isInAny (wX5 c w0 wA_numbers wA_syllables wA_days wA_words wA_parents wA_otherParents wA_kinds wA_hopeDays wA_hopeTenths w_numbers w_syllables w_syllableCount w_days w_words w_parents w_otherParents w_kinds w_personCount w_hopeDays w_hopeTenths w_hopeCount w_degreesTold) [.ref w0, .int p1] o := by
  refine zIP (by decide) (Nat.le_of_ble_eq_true rfl) ?_
  intro p e s m args below meth c0 Q hQ hx hb hr hlk hml hts hown hP hE hX hS ls hl
  have S : CallFix p m c0 cX1_isInAny 3 s args zT RX1 := ⟨hx, hb, hml, hown, hts⟩
  have hl : lv_has ls 3 [(0, .ref w0), (1, .int p1)] := hl
  unfold f_X1_isInAny at hf
  refine lv_iconst (v := (0 : Int32)) hx hb dX1_isInAny_0 (by decide) ?_
  refine lv_istore_n (lv' := [(2, .int (0 : Int32)), (0, .ref w0), (1, .int p1)]) hx hb dX1_isInAny_1 rfl hl (by decide) rfl (fun ls hl => ?_)
  obtain ⟨k_1, hk_1, hf⟩ := zz_let_use hf
  have hX_1 : ∀ (ls : Array Slot), k_1 = some o → lv_has ls 3 [] → W p l e rm_X1_isInAny s m args below meth c0 s.heap [] 0 0 Q (F0 m 31 ls []) := by
    intro ls hf hl
    subst hk_1
    refine lv_iconst (v := (0 : Int32)) hx hb dX1_isInAny_31 (by decide) ?_
    exact zRPz hQ hx hb hr hlk rfl (Option.some.inj hf) dX1_isInAny_32
  have hL_1 : ∀ (n_1 : Nat) (v2_2 : Int32) (ls : Array Slot), f_X1_isInAny_L2 N k_1 w_words w_personCount p1 n_1 v2_2 = some o → lv_has ls 3 [(0, .ref w0), (1, .int p1), (2, .int v2_2)] → W p l e rm_X1_isInAny s m args below meth c0 s.heap [] 0 0 Q (F0 m 2 ls []) := by
    intro n_1
    induction n_1 with
    | zero => intro v2_2 ls hf hl; exact zz_none hf
    | succ n_1 ih_1 =>
      intro v2_2 ls hf hl
      rw [f_X1_isInAny_L2_s] at hf
      refine lv_iload_n hx hb dX1_isInAny_2 rfl (lv_at hl 2 rfl) ?_
      refine lv_aload_n hx hb dX1_isInAny_3 rfl (lv_at hl 0 rfl) ?_
      refine zget S uw_X5 hE hP 0 8 rfl rfl (by decide) tw_1_54 rfl rfl dX1_isInAny_4 ?_
      refine lv_icmp_ge (tgt := 31) hx hb dX1_isInAny_7 (by decide) (fun hc_3 => ?_) (fun hc_3 => ?_)
      · have hf := zz_it hf hc_3
        exact hX_1 ls hf (lv_sub hl [] rfl)
      · have hf := zz_if hf hc_3
        refine lv_aload_n hx hb dX1_isInAny_10 rfl (lv_at hl 0 rfl) ?_
        refine zget S uw_X5 hE hP 0 4 rfl rfl (by decide) tw_1_44 rfl rfl dX1_isInAny_11 ?_
        refine lv_iload_n hx hb dX1_isInAny_14 rfl (lv_at hl 2 rfl) ?_
        obtain ⟨hin_4, hf⟩ := zz_gd_use hf
        refine zlld hx hb hE hP 4 rfl (zz_in_ok hin_4) dX1_isInAny_15 ?_
        refine lv_iload_n hx hb dX1_isInAny_16 rfl (lv_at hl 1 rfl) ?_
        obtain ⟨r_5, he_5, hf⟩ := zz_b1_use hf
        refine zcNi (As := [.long (w_words v2_2.toNatClampNeg), .int p1]) (rest := []) S (k_X6_timesIn l D c N  (w_words v2_2.toNatClampNeg) p1 r_5 he_5) mi_X6_timesIn tn_X1_73 ⟨(Nat.le_of_ble_eq_true rfl), (Nat.le_of_ble_eq_true rfl)⟩ ⟨rfl, rfl⟩ (zpnil) hE hX hS rfl hl.1 rfl (Nat.le_of_ble_eq_true rfl) dX1_isInAny_17 ⟨(Nat.le_of_ble_eq_true rfl), (Nat.le_of_ble_eq_true rfl)⟩ ?_
        refine lv_if_le (tgt := 25) hx hb dX1_isInAny_20 (by decide) (fun hc_6 => ?_) (fun hc_6 => ?_)
        · have hf := zz_it hf hc_6
          obtain ⟨v2_7, ev2_7, hf⟩ := zz_let_use hf
          refine lv_iinc (v := v2_7) (lv' := [(2, .int v2_7), (0, .ref w0), (1, .int p1)]) hx hb dX1_isInAny_25 hl (k := 2) rfl (by rw [← ev2_7]; rfl) (by decide) rfl (fun ls hl => ?_)
          refine lv_goto (tgt := 2) hx hb dX1_isInAny_28 (by decide) ?_
          exact ih_1 v2_7 ls hf (lv_sub hl [1, 2, 0] rfl)
        · have hf := zz_if hf hc_6
          refine lv_iconst (v := (1 : Int32)) hx hb dX1_isInAny_23 (by decide) ?_
          exact zRPz hQ hx hb hr hlk rfl (Option.some.inj hf) dX1_isInAny_24
  exact hL_1 N (0 : Int32) ls hf (lv_sub hl [1, 2, 0] rfl)
def f_X1_findLetters_L7 (N : Nat) (k_1 : (Nat → Int32) → (Int32) → Option (Int32 × (Nat → Int32) × (Int32))) (w_words : Nat → Int64) (w_personCount : Int32) : Nat → (Int32) → (Nat → Int32) → (Int32) → Option (Int32 × (Nat → Int32) × (Int32))
  | 0, _, _, _ => none
  | n_1 + 1, v2_2, t_letters_3, t_letterCount_4 => (if (26 : Int32) ≤ v2_2 then (k_1 t_letters_3 t_letterCount_4) else zz_b1 (f_X1_isInAny N w_words w_personCount v2_2) (fun r_6 => zz_let (fun (t_letters_13 : Nat → Int32) (t_letterCount_14 : Int32) => zz_let (v2_2 + (1 : Int32)) (fun v2_15 => (f_X1_findLetters_L7 N k_1 w_words w_personCount n_1 v2_15 t_letters_13 t_letterCount_14))) (fun k_12 => (if r_6 = 0 then (k_12 t_letters_3 t_letterCount_4) else (if t_letterCount_4 < (5 : Int32) then zz_gd (zz_in t_letterCount_4 5) (zz_let (upd t_letters_3 t_letterCount_4.toNatClampNeg v2_2) (fun t_letters_10 => zz_let (t_letterCount_4 + (1 : Int32)) (fun t_letterCount_11 => (k_12 t_letters_10 t_letterCount_11)))) else (some ((0 : Int32), t_letters_3, t_letterCount_4)))))))
theorem f_X1_findLetters_L7_s (N : Nat) (k_1 : (Nat → Int32) → (Int32) → Option (Int32 × (Nat → Int32) × (Int32))) (w_words : Nat → Int64) (w_personCount : Int32) (n_1 : Nat) (v2_2 : Int32) (t_letters_3 : Nat → Int32) (t_letterCount_4 : Int32) : f_X1_findLetters_L7 N k_1 w_words w_personCount (n_1 + 1) v2_2 t_letters_3 t_letterCount_4 = (if (26 : Int32) ≤ v2_2 then (k_1 t_letters_3 t_letterCount_4) else zz_b1 (f_X1_isInAny N w_words w_personCount v2_2) (fun r_6 => zz_let (fun (t_letters_13 : Nat → Int32) (t_letterCount_14 : Int32) => zz_let (v2_2 + (1 : Int32)) (fun v2_15 => (f_X1_findLetters_L7 N k_1 w_words w_personCount n_1 v2_15 t_letters_13 t_letterCount_14))) (fun k_12 => (if r_6 = 0 then (k_12 t_letters_3 t_letterCount_4) else (if t_letterCount_4 < (5 : Int32) then zz_gd (zz_in t_letterCount_4 5) (zz_let (upd t_letters_3 t_letterCount_4.toNatClampNeg v2_2) (fun t_letters_10 => zz_let (t_letterCount_4 + (1 : Int32)) (fun t_letterCount_11 => (k_12 t_letters_10 t_letterCount_11)))) else (some ((0 : Int32), t_letters_3, t_letterCount_4))))))) := rfl
def f_X1_findLetters (N : Nat) (t_letters : Nat → Int32) (w_words : Nat → Int64) (w_personCount : Int32) : Option (Int32 × (Nat → Int32) × (Int32)) := zz_let (fun (t_letters_16 : Nat → Int32) (t_letterCount_17 : Int32) => (some ((1 : Int32), t_letters_16, t_letterCount_17))) (fun k_1 => f_X1_findLetters_L7 N k_1 w_words w_personCount N (0 : Int32) t_letters (0 : Int32))
abbrev rm_X1_findLetters : Room := { frames := 3, cells := 0, slots := 0, locals := 69 }
theorem mi_X1_findLetters : zMI RX1 yX1_findLetters cX1_findLetters 3 (some .boolean) 1 := ⟨⟨tw_4_2, ts_X1_findLetters, tw_1_6, tw_4_3⟩, by decide +kernel, by decide +kernel, by decide +kernel⟩
set_option maxHeartbeats 4000000 in
set_option maxRecDepth 100000 in
theorem k_X1_findLetters (l : Launch) (D : va_G) (c : Nat → ClassId) (N : Nat) (t0 : Nat) (tA_letters : Nat) (xA : Nat) (yA : Nat) (tA_left : Nat) (tA_given : Nat) (tA_first : Nat) (t_ways : Int32) (t_letters : Nat → Int32) (t_letterCount : Int32) (t_left : Nat → Int32) (t_wordCount : Int32) (t_given : Nat → Int32) (t_first : Nat → Int32) (t_most : Int32) (xA_x : Nat) (xr : Nat → Nat) (x_m : Nat → Nat → Int32) (yA_x : Nat) (yr : Nat → Nat) (y_m : Nat → Nat → Int32) (w0 : Nat) (wA_numbers : Nat) (wA_syllables : Nat) (wA_days : Nat) (wA_words : Nat) (wA_parents : Nat) (wA_otherParents : Nat) (wA_kinds : Nat) (wA_hopeDays : Nat) (wA_hopeTenths : Nat) (w_numbers : Nat → Int32) (w_syllables : Nat → Int64) (w_syllableCount : Int32) (w_days : Nat → Int32) (w_words : Nat → Int64) (w_parents : Nat → Int32) (w_otherParents : Nat → Int32) (w_kinds : Nat → Int32) (w_personCount : Int32) (w_hopeDays : Nat → Int32) (w_hopeTenths : Nat → Int32) (w_hopeCount : Int32) (w_degreesTold : Int32)  (o : Int32) (o_t_letters : Nat → Int32) (o_t_letterCount : Int32) (hf : f_X1_findLetters N t_letters w_words w_personCount = some (o, o_t_letters, o_t_letterCount)) : zMWi l D c yX1_findLetters cX1_findLetters 3 (some .boolean) rm_X1_findLetters (wX1 c t0 tA_letters xA yA tA_left tA_given tA_first t_ways t_letters t_letterCount t_left t_wordCount t_given t_first t_most ++ wG c xA xr x_m ++ wG c yA yr y_m ++ wX5 c w0 wA_numbers wA_syllables wA_days wA_words wA_parents wA_otherParents wA_kinds wA_hopeDays wA_hopeTenths w_numbers w_syllables w_syllableCount w_days w_words w_parents w_otherParents w_kinds w_personCount w_hopeDays w_hopeTenths w_hopeCount w_degreesTold) (wX1 c t0 tA_letters xA yA tA_left tA_given tA_first t_ways o_t_letters o_t_letterCount t_left t_wordCount t_given t_first t_most ++ wG c xA xr x_m ++ wG c yA yr y_m ++ wX5 c w0 wA_numbers wA_syllables wA_days wA_words wA_parents wA_otherParents wA_kinds wA_hopeDays wA_hopeTenths w_numbers w_syllables w_syllableCount w_days w_words w_parents w_otherParents w_kinds w_personCount w_hopeDays w_hopeTenths w_hopeCount w_degreesTold) [.ref t0, .ref w0] o := by
  intro sz
  refine zIW (by decide) (Nat.le_of_ble_eq_true rfl) ?_
  intro p e s m args below meth c0 Q A hAe hQ hx hb hr hlk hml hts hown hP hE hD hS hA hsz hmn hX ls hl
  rw [← hAe] at hQ
  have S : CallFix p m c0 cX1_findLetters 3 s args zT RX1 := ⟨hx, hb, hml, hown, hts⟩
  have hl : lv_has ls 3 [(0, .ref t0), (1, .ref w0)] := hl
  unfold f_X1_findLetters at hf
  refine lv_aload_n hx hb dX1_findLetters_0 rfl (lv_at hl 0 rfl) ?_
  refine lv_iconst (v := (0 : Int32)) hx hb dX1_findLetters_1 (by decide) ?_
  refine zput S uw_X1 tyX1_ok nmX1 hE hP hD hS 0 2 (ty := .int) (wX1 c t0 tA_letters xA yA tA_left tA_given tA_first t_ways t_letters (0 : Int32) t_left t_wordCount t_given t_first t_most ++ wG c xA xr x_m ++ wG c yA yr y_m ++ wX5 c w0 wA_numbers wA_syllables wA_days wA_words wA_parents wA_otherParents wA_kinds wA_hopeDays wA_hopeTenths w_numbers w_syllables w_syllableCount w_days w_words w_parents w_otherParents w_kinds w_personCount w_hopeDays w_hopeTenths w_hopeCount w_degreesTold) rfl rfl (by decide) tw_1_200 rfl rfl (by decide +kernel) rfl rfl (Nat.le_of_ble_eq_true rfl) rfl dX1_findLetters_2 (fun H locs hP hD hS => ?_)
  refine lv_iconst (v := (0 : Int32)) hx hb dX1_findLetters_5 (by decide) ?_
  refine lv_istore_n (lv' := [(2, .int (0 : Int32)), (0, .ref t0), (1, .ref w0)]) hx hb dX1_findLetters_6 rfl hl (by decide) rfl (fun ls hl => ?_)
  obtain ⟨k_1, hk_1, hf⟩ := zz_let_use hf
  have hX_1 : ∀ (t_letters_16 : Nat → Int32) (t_letterCount_17 : Int32) (H : Heap) (locs : List Loc) (ls : Array Slot), k_1 t_letters_16 t_letterCount_17 = some (o, o_t_letters, o_t_letterCount) → va_P D vwCl (wX1 c t0 tA_letters xA yA tA_left tA_given tA_first t_ways t_letters_16 t_letterCount_17 t_left t_wordCount t_given t_first t_most ++ wG c xA xr x_m ++ wG c yA yr y_m ++ wX5 c w0 wA_numbers wA_syllables wA_days wA_words wA_parents wA_otherParents wA_kinds wA_hopeDays wA_hopeTenths w_numbers w_syllables w_syllableCount w_days w_words w_parents w_otherParents w_kinds w_personCount w_hopeDays w_hopeTenths w_hopeCount w_degreesTold) H → va_D A (wX1 c t0 tA_letters xA yA tA_left tA_given tA_first t_ways t_letters_16 t_letterCount_17 t_left t_wordCount t_given t_first t_most ++ wG c xA xr x_m ++ wG c yA yr y_m ++ wX5 c w0 wA_numbers wA_syllables wA_days wA_words wA_parents wA_otherParents wA_kinds wA_hopeDays wA_hopeTenths w_numbers w_syllables w_syllableCount w_days w_words w_parents w_otherParents w_kinds w_personCount w_hopeDays w_hopeTenths w_hopeCount w_degreesTold) → va_S A s.heap H locs → lv_has ls 3 [] → W p l e rm_X1_findLetters s m args below meth c0 H locs 0 0 Q (F0 m 57 ls []) := by
    intro t_letters_16 t_letterCount_17 H locs ls hf hP hD hS hl
    subst hk_1
    refine lv_iconst (v := (1 : Int32)) hx hb dX1_findLetters_57 (by decide) ?_
    cases hf
    exact zRWz hQ hx hb hr hlk rfl rfl hP hD hS dX1_findLetters_58
  have hL_1 : ∀ (n_1 : Nat) (v2_2 : Int32) (t_letters_3 : Nat → Int32) (t_letterCount_4 : Int32) (H : Heap) (locs : List Loc) (ls : Array Slot), f_X1_findLetters_L7 N k_1 w_words w_personCount n_1 v2_2 t_letters_3 t_letterCount_4 = some (o, o_t_letters, o_t_letterCount) → va_P D vwCl (wX1 c t0 tA_letters xA yA tA_left tA_given tA_first t_ways t_letters_3 t_letterCount_4 t_left t_wordCount t_given t_first t_most ++ wG c xA xr x_m ++ wG c yA yr y_m ++ wX5 c w0 wA_numbers wA_syllables wA_days wA_words wA_parents wA_otherParents wA_kinds wA_hopeDays wA_hopeTenths w_numbers w_syllables w_syllableCount w_days w_words w_parents w_otherParents w_kinds w_personCount w_hopeDays w_hopeTenths w_hopeCount w_degreesTold) H → va_D A (wX1 c t0 tA_letters xA yA tA_left tA_given tA_first t_ways t_letters_3 t_letterCount_4 t_left t_wordCount t_given t_first t_most ++ wG c xA xr x_m ++ wG c yA yr y_m ++ wX5 c w0 wA_numbers wA_syllables wA_days wA_words wA_parents wA_otherParents wA_kinds wA_hopeDays wA_hopeTenths w_numbers w_syllables w_syllableCount w_days w_words w_parents w_otherParents w_kinds w_personCount w_hopeDays w_hopeTenths w_hopeCount w_degreesTold) → va_S A s.heap H locs → lv_has ls 3 [(0, .ref t0), (1, .ref w0), (2, .int v2_2)] → W p l e rm_X1_findLetters s m args below meth c0 H locs 0 0 Q (F0 m 7 ls []) := by
    intro n_1
    induction n_1 with
    | zero => intro v2_2 t_letters_3 t_letterCount_4 H locs ls hf hP hD hS hl; exact zz_none hf
    | succ n_1 ih_1 =>
      intro v2_2 t_letters_3 t_letterCount_4 H locs ls hf hP hD hS hl
      rw [f_X1_findLetters_L7_s] at hf
      refine lv_iload_n hx hb dX1_findLetters_7 rfl (lv_at hl 2 rfl) ?_
      refine lv_bipush (v := (26 : Int32)) hx hb dX1_findLetters_8 (by decide) ?_
      refine lv_icmp_ge (tgt := 57) hx hb dX1_findLetters_10 (by decide) (fun hc_5 => ?_) (fun hc_5 => ?_)
      · have hf := zz_it hf hc_5
        exact hX_1 t_letters_3 t_letterCount_4 H locs ls hf hP hD hS (lv_sub hl [] rfl)
      · have hf := zz_if hf hc_5
        refine lv_aload_n hx hb dX1_findLetters_13 rfl (lv_at hl 1 rfl) ?_
        refine lv_iload_n hx hb dX1_findLetters_14 rfl (lv_at hl 2 rfl) ?_
        obtain ⟨r_6, he_6, hf⟩ := zz_b1_use hf
        refine zcSi (As := [.ref w0, .int v2_2]) (rest := []) S (k_X1_isInAny l D c N w0 wA_numbers wA_syllables wA_days wA_words wA_parents wA_otherParents wA_kinds wA_hopeDays wA_hopeTenths w_numbers w_syllables w_syllableCount w_days w_words w_parents w_otherParents w_kinds w_personCount w_hopeDays w_hopeTenths w_hopeCount w_degreesTold v2_2 r_6 he_6) mi_X1_isInAny tw_4_4 ⟨(Nat.le_of_ble_eq_true rfl), (Nat.le_of_ble_eq_true rfl)⟩ ⟨rfl, rfl⟩ (zpsub (is := [39, 40, 41, 42, 43, 44, 45, 46, 47, 48]) hP rfl) hE hX hS rfl hl.1 rfl (Nat.le_of_ble_eq_true rfl) dX1_findLetters_15 ⟨(Nat.le_of_ble_eq_true rfl), (Nat.le_of_ble_eq_true rfl)⟩ ?_
        obtain ⟨k_12, hk_12, hf⟩ := zz_let_use hf
        have hJ_12 : ∀ (t_letters_13 : Nat → Int32) (t_letterCount_14 : Int32) (H : Heap) (locs : List Loc) (ls : Array Slot), k_12 t_letters_13 t_letterCount_14 = some (o, o_t_letters, o_t_letterCount) → va_P D vwCl (wX1 c t0 tA_letters xA yA tA_left tA_given tA_first t_ways t_letters_13 t_letterCount_14 t_left t_wordCount t_given t_first t_most ++ wG c xA xr x_m ++ wG c yA yr y_m ++ wX5 c w0 wA_numbers wA_syllables wA_days wA_words wA_parents wA_otherParents wA_kinds wA_hopeDays wA_hopeTenths w_numbers w_syllables w_syllableCount w_days w_words w_parents w_otherParents w_kinds w_personCount w_hopeDays w_hopeTenths w_hopeCount w_degreesTold) H → va_D A (wX1 c t0 tA_letters xA yA tA_left tA_given tA_first t_ways t_letters_13 t_letterCount_14 t_left t_wordCount t_given t_first t_most ++ wG c xA xr x_m ++ wG c yA yr y_m ++ wX5 c w0 wA_numbers wA_syllables wA_days wA_words wA_parents wA_otherParents wA_kinds wA_hopeDays wA_hopeTenths w_numbers w_syllables w_syllableCount w_days w_words w_parents w_otherParents w_kinds w_personCount w_hopeDays w_hopeTenths w_hopeCount w_degreesTold) → va_S A s.heap H locs → lv_has ls 3 [(0, .ref t0), (1, .ref w0), (2, .int v2_2)] → W p l e rm_X1_findLetters s m args below meth c0 H locs 0 0 Q (F0 m 51 ls []) := by
          intro t_letters_13 t_letterCount_14 H locs ls hf hP hD hS hl
          subst hk_12
          obtain ⟨v2_15, ev2_15, hf⟩ := zz_let_use hf
          refine lv_iinc (v := v2_15) (lv' := [(2, .int v2_15), (0, .ref t0), (1, .ref w0)]) hx hb dX1_findLetters_51 hl (k := 2) rfl (by rw [← ev2_15]; rfl) (by decide) rfl (fun ls hl => ?_)
          refine lv_goto (tgt := 7) hx hb dX1_findLetters_54 (by decide) ?_
          exact ih_1 v2_15 t_letters_13 t_letterCount_14 H locs ls hf hP hD hS (lv_sub hl [1, 2, 0] rfl)
        refine lv_if_eq (tgt := 51) hx hb dX1_findLetters_18 (by decide) (fun hc_7 => ?_) (fun hc_7 => ?_)
        · have hf := zz_it hf hc_7
          exact hJ_12 t_letters_3 t_letterCount_4 H locs ls hf hP hD hS (lv_sub hl [0, 1, 2] rfl)
        · have hf := zz_if hf hc_7
          refine lv_aload_n hx hb dX1_findLetters_21 rfl (lv_at hl 0 rfl) ?_
          refine zget S uw_X1 hE hP 0 2 rfl rfl (by decide) tw_1_200 rfl rfl dX1_findLetters_22 ?_
          refine lv_iconst (v := (5 : Int32)) hx hb dX1_findLetters_25 (by decide) ?_
          refine lv_icmp_lt (tgt := 31) hx hb dX1_findLetters_26 (by decide) (fun hc_8 => ?_) (fun hc_8 => ?_)
          · have hf := zz_it hf hc_8
            refine lv_aload_n hx hb dX1_findLetters_31 rfl (lv_at hl 0 rfl) ?_
            refine zget S uw_X1 hE hP 0 1 rfl rfl (by decide) tw_1_199 rfl rfl dX1_findLetters_32 ?_
            refine lv_aload_n hx hb dX1_findLetters_35 rfl (lv_at hl 0 rfl) ?_
            refine zget S uw_X1 hE hP 0 2 rfl rfl (by decide) tw_1_200 rfl rfl dX1_findLetters_36 ?_
            refine lv_iload_n hx hb dX1_findLetters_39 rfl (lv_at hl 2 rfl) ?_
            obtain ⟨hin_9, hf⟩ := zz_gd_use hf
            obtain ⟨t_letters_10, et_letters_10, hf⟩ := zz_let_use hf
            refine zist hx hb hE hP hD hS 1 (wX1 c t0 tA_letters xA yA tA_left tA_given tA_first t_ways t_letters_10 t_letterCount_4 t_left t_wordCount t_given t_first t_most ++ wG c xA xr x_m ++ wG c yA yr y_m ++ wX5 c w0 wA_numbers wA_syllables wA_days wA_words wA_parents wA_otherParents wA_kinds wA_hopeDays wA_hopeTenths w_numbers w_syllables w_syllableCount w_days w_words w_parents w_otherParents w_kinds w_personCount w_hopeDays w_hopeTenths w_hopeCount w_degreesTold) rfl rfl et_letters_10 (zz_in_ok hin_9) dX1_findLetters_40 (fun H locs hP hD hS => ?_)
            refine lv_aload_n hx hb dX1_findLetters_41 rfl (lv_at hl 0 rfl) ?_
            refine lv_dup hx hb dX1_findLetters_42 rfl ?_
            refine zget S uw_X1 hE hP 0 2 rfl rfl (by decide) tw_1_200 rfl rfl dX1_findLetters_43 ?_
            refine lv_iconst (v := (1 : Int32)) hx hb dX1_findLetters_46 (by decide) ?_
            refine lv_iadd hx hb dX1_findLetters_47 ?_
            obtain ⟨t_letterCount_11, et_letterCount_11, hf⟩ := zz_let_use hf
            refine zti et_letterCount_11 ?_
            refine zput S uw_X1 tyX1_ok nmX1 hE hP hD hS 0 2 (ty := .int) (wX1 c t0 tA_letters xA yA tA_left tA_given tA_first t_ways t_letters_10 t_letterCount_11 t_left t_wordCount t_given t_first t_most ++ wG c xA xr x_m ++ wG c yA yr y_m ++ wX5 c w0 wA_numbers wA_syllables wA_days wA_words wA_parents wA_otherParents wA_kinds wA_hopeDays wA_hopeTenths w_numbers w_syllables w_syllableCount w_days w_words w_parents w_otherParents w_kinds w_personCount w_hopeDays w_hopeTenths w_hopeCount w_degreesTold) rfl rfl (by decide) tw_1_200 rfl rfl (by decide +kernel) rfl rfl (Nat.le_of_ble_eq_true rfl) rfl dX1_findLetters_48 (fun H locs hP hD hS => ?_)
            exact hJ_12 t_letters_10 t_letterCount_11 H locs ls hf hP hD hS (lv_sub hl [0, 1, 2] rfl)
          · have hf := zz_if hf hc_8
            refine lv_iconst (v := (0 : Int32)) hx hb dX1_findLetters_29 (by decide) ?_
            cases hf
            exact zRWz hQ hx hb hr hlk rfl rfl hP hD hS dX1_findLetters_30
  exact hL_1 N (0 : Int32) t_letters (0 : Int32) H locs ls hf hP hD hS (lv_sub hl [1, 2, 0] rfl)
def f_X1_addWay (N : Nat) (t_ways : Int32) (t_letterCount : Int32) (t_given : Nat → Int32) (t_first : Nat → Int32) : Option ((Int32) × (Nat → Int32)) := zz_let (fun (t_first_5 : Nat → Int32) => zz_let (t_ways + (1 : Int32)) (fun t_ways_6 => (some (t_ways_6, t_first_5)))) (fun k_4 => (if t_ways = 0 then zz_gd (zz_cp (0 : Int32) (0 : Int32) t_letterCount 5 5) (zz_let (va_cpy t_given t_first (0 : Int32).toNatClampNeg (0 : Int32).toNatClampNeg t_letterCount.toNatClampNeg) (fun t_first_3 => (k_4 t_first_3))) else (k_4 t_first)))
abbrev rm_X1_addWay : Room := { frames := 1, cells := 0, slots := 0, locals := 40 }
theorem mi_X1_addWay : zMI RX1 yX1_addWay cX1_addWay 1 none 0 := ⟨⟨tw_4_21, ts_X1_addWay, tw_1_6, tw_4_22⟩, by decide +kernel, by decide +kernel, by decide +kernel⟩
set_option maxHeartbeats 4000000 in
set_option maxRecDepth 100000 in
theorem k_X1_addWay (l : Launch) (D : va_G) (c : Nat → ClassId) (N : Nat) (t0 : Nat) (tA_letters : Nat) (xA : Nat) (yA : Nat) (tA_left : Nat) (tA_given : Nat) (tA_first : Nat) (t_ways : Int32) (t_letters : Nat → Int32) (t_letterCount : Int32) (t_left : Nat → Int32) (t_wordCount : Int32) (t_given : Nat → Int32) (t_first : Nat → Int32) (t_most : Int32) (xA_x : Nat) (xr : Nat → Nat) (x_m : Nat → Nat → Int32) (yA_x : Nat) (yr : Nat → Nat) (y_m : Nat → Nat → Int32)  (o_t_ways : Int32) (o_t_first : Nat → Int32) (hf : f_X1_addWay N t_ways t_letterCount t_given t_first = some (o_t_ways, o_t_first)) : zMWv l D c yX1_addWay cX1_addWay 1 none rm_X1_addWay (wX1 c t0 tA_letters xA yA tA_left tA_given tA_first t_ways t_letters t_letterCount t_left t_wordCount t_given t_first t_most ++ wG c xA xr x_m ++ wG c yA yr y_m) (wX1 c t0 tA_letters xA yA tA_left tA_given tA_first o_t_ways t_letters t_letterCount t_left t_wordCount t_given o_t_first t_most ++ wG c xA xr x_m ++ wG c yA yr y_m) [.ref t0] := by
  intro sz
  refine zIW (by decide) (Nat.le_of_ble_eq_true rfl) ?_
  intro p e s m args below meth c0 Q A hAe hQ hx hb hr hlk hml hts hown hP hE hD hS hA hsz hmn hX ls hl
  rw [← hAe] at hQ
  have S : CallFix p m c0 cX1_addWay 1 s args zT RX1 := ⟨hx, hb, hml, hown, hts⟩
  have hl : lv_has ls 1 [(0, .ref t0)] := hl
  unfold f_X1_addWay at hf
  refine lv_aload_n hx hb dX1_addWay_0 rfl (lv_at hl 0 rfl) ?_
  refine zget S uw_X1 hE hP 0 0 rfl rfl (by decide) tw_1_197 rfl rfl dX1_addWay_1 ?_
  obtain ⟨k_4, hk_4, hf⟩ := zz_let_use hf
  have hJ_4 : ∀ (t_first_5 : Nat → Int32) (H : Heap) (locs : List Loc) (ls : Array Slot), k_4 t_first_5 = some (o_t_ways, o_t_first) → va_P D vwCl (wX1 c t0 tA_letters xA yA tA_left tA_given tA_first t_ways t_letters t_letterCount t_left t_wordCount t_given t_first_5 t_most ++ wG c xA xr x_m ++ wG c yA yr y_m) H → va_D A (wX1 c t0 tA_letters xA yA tA_left tA_given tA_first t_ways t_letters t_letterCount t_left t_wordCount t_given t_first_5 t_most ++ wG c xA xr x_m ++ wG c yA yr y_m) → va_S A s.heap H locs → lv_has ls 1 [(0, .ref t0)] → W p l e rm_X1_addWay s m args below meth c0 H locs 0 0 Q (F0 m 24 ls []) := by
    intro t_first_5 H locs ls hf hP hD hS hl
    subst hk_4
    refine lv_aload_n hx hb dX1_addWay_24 rfl (lv_at hl 0 rfl) ?_
    refine lv_dup hx hb dX1_addWay_25 rfl ?_
    refine zget S uw_X1 hE hP 0 0 rfl rfl (by decide) tw_1_197 rfl rfl dX1_addWay_26 ?_
    refine lv_iconst (v := (1 : Int32)) hx hb dX1_addWay_29 (by decide) ?_
    refine lv_iadd hx hb dX1_addWay_30 ?_
    obtain ⟨t_ways_6, et_ways_6, hf⟩ := zz_let_use hf
    refine zti et_ways_6 ?_
    refine zput S uw_X1 tyX1_ok nmX1 hE hP hD hS 0 0 (ty := .int) (wX1 c t0 tA_letters xA yA tA_left tA_given tA_first t_ways_6 t_letters t_letterCount t_left t_wordCount t_given t_first_5 t_most ++ wG c xA xr x_m ++ wG c yA yr y_m) rfl rfl (by decide) tw_1_197 rfl rfl (by decide +kernel) rfl rfl (Nat.le_of_ble_eq_true rfl) rfl dX1_addWay_31 (fun H locs hP hD hS => ?_)
    cases hf
    exact zRWv hQ hx hb hr hlk hP hD hS dX1_addWay_34
  refine lv_if_ne (tgt := 24) hx hb dX1_addWay_4 (by decide) (fun hc_1 => ?_) (fun hc_1 => ?_)
  · have hf := zz_if hf hc_1
    exact hJ_4 t_first s.heap [] ls hf hP hD hS (lv_sub hl [0] rfl)
  · have hf := zz_it hf hc_1
    refine lv_aload_n hx hb dX1_addWay_7 rfl (lv_at hl 0 rfl) ?_
    refine zget S uw_X1 hE hP 0 7 rfl rfl (by decide) tw_1_205 rfl rfl dX1_addWay_8 ?_
    refine lv_iconst (v := (0 : Int32)) hx hb dX1_addWay_11 (by decide) ?_
    refine lv_aload_n hx hb dX1_addWay_12 rfl (lv_at hl 0 rfl) ?_
    refine zget S uw_X1 hE hP 0 8 rfl rfl (by decide) tw_1_206 rfl rfl dX1_addWay_13 ?_
    refine lv_iconst (v := (0 : Int32)) hx hb dX1_addWay_16 (by decide) ?_
    refine lv_aload_n hx hb dX1_addWay_17 rfl (lv_at hl 0 rfl) ?_
    refine zget S uw_X1 hE hP 0 2 rfl rfl (by decide) tw_1_200 rfl rfl dX1_addWay_18 ?_
    obtain ⟨hcp_2, hf⟩ := zz_gd_use hf
    obtain ⟨t_first_3, et_first_3, hf⟩ := zz_let_use hf
    refine zcpi hx hb (hml.trans hl.1.symm) hown (hts _ tw_4_23) (hts _ tw_2_61) (hts _ tw_2_60) (hts _ tw_1_9) hE hP hD hS 3 4 (wX1 c t0 tA_letters xA yA tA_left tA_given tA_first t_ways t_letters t_letterCount t_left t_wordCount t_given t_first_3 t_most ++ wG c xA xr x_m ++ wG c yA yr y_m) rfl rfl rfl et_first_3 (zz_cp_1 hcp_2) (zz_cp_2 hcp_2) (zz_cp_3 hcp_2) (zz_cp_4 hcp_2) (zz_cp_5 hcp_2) (Nat.le_of_ble_eq_true rfl) (Nat.le_of_ble_eq_true rfl) dX1_addWay_21 (fun H locs hP hD hS => ?_)
    exact hJ_4 t_first_3 H locs ls hf hP hD hS (lv_sub hl [0] rfl)
def f_X1_greatestFor_L7 (N : Nat) (k_1 : (Int32) → Option (Int32)) (t_left : Nat → Int32) (t_wordCount : Int32) (x_m : Nat → Nat → Int32) (y_m : Nat → Nat → Int32) (p1 : Int32) : Nat → (Int32) → (Int32) → Option (Int32)
  | 0, _, _ => none
  | n_1 + 1, v2_2, v3_3 => (if t_wordCount ≤ v3_3 then (k_1 v2_2) else zz_gd (zz_in v3_3 16) (zz_gd (zz_in p1 5) (zz_let (fun (v2_11 : Int32) => zz_let (v3_3 + (1 : Int32)) (fun v3_12 => (f_X1_greatestFor_L7 N k_1 t_left t_wordCount x_m y_m p1 n_1 v2_11 v3_12))) (fun k_10 => (if (x_m v3_3.toNatClampNeg p1.toNatClampNeg) ≤ 0 then (k_10 v2_2) else zz_b1 (f_J9_floorDiv_7cf53 N ((t_left v3_3.toNatClampNeg) - (y_m v3_3.toNatClampNeg p1.toNatClampNeg)) (x_m v3_3.toNatClampNeg p1.toNatClampNeg)) (fun r_8 => zz_let (if r_8 < v2_2 then r_8 else v2_2) (fun v2_9 => (k_10 v2_9))))))))
theorem f_X1_greatestFor_L7_s (N : Nat) (k_1 : (Int32) → Option (Int32)) (t_left : Nat → Int32) (t_wordCount : Int32) (x_m : Nat → Nat → Int32) (y_m : Nat → Nat → Int32) (p1 : Int32) (n_1 : Nat) (v2_2 : Int32) (v3_3 : Int32) : f_X1_greatestFor_L7 N k_1 t_left t_wordCount x_m y_m p1 (n_1 + 1) v2_2 v3_3 = (if t_wordCount ≤ v3_3 then (k_1 v2_2) else zz_gd (zz_in v3_3 16) (zz_gd (zz_in p1 5) (zz_let (fun (v2_11 : Int32) => zz_let (v3_3 + (1 : Int32)) (fun v3_12 => (f_X1_greatestFor_L7 N k_1 t_left t_wordCount x_m y_m p1 n_1 v2_11 v3_12))) (fun k_10 => (if (x_m v3_3.toNatClampNeg p1.toNatClampNeg) ≤ 0 then (k_10 v2_2) else zz_b1 (f_J9_floorDiv_7cf53 N ((t_left v3_3.toNatClampNeg) - (y_m v3_3.toNatClampNeg p1.toNatClampNeg)) (x_m v3_3.toNatClampNeg p1.toNatClampNeg)) (fun r_8 => zz_let (if r_8 < v2_2 then r_8 else v2_2) (fun v2_9 => (k_10 v2_9)))))))) := rfl
def f_X1_greatestFor (N : Nat) (t_left : Nat → Int32) (t_wordCount : Int32) (t_most : Int32) (x_m : Nat → Nat → Int32) (y_m : Nat → Nat → Int32) (p1 : Int32) : Option (Int32) := zz_let (fun (v2_13 : Int32) => (some v2_13)) (fun k_1 => f_X1_greatestFor_L7 N k_1 t_left t_wordCount x_m y_m p1 N t_most (0 : Int32))
abbrev rm_X1_greatestFor : Room := { frames := 1, cells := 0, slots := 0, locals := 24 }
theorem mi_X1_greatestFor : zMI RX1 yX1_greatestFor cX1_greatestFor 4 (some .int) 1 := ⟨⟨tw_4_26, ts_X1_greatestFor, tw_1_6, tw_4_27⟩, by decide +kernel, by decide +kernel, by decide +kernel⟩
set_option maxHeartbeats 4000000 in
set_option maxRecDepth 100000 in
theorem k_X1_greatestFor (l : Launch) (D : va_G) (c : Nat → ClassId) (N : Nat) (t0 : Nat) (tA_letters : Nat) (xA : Nat) (yA : Nat) (tA_left : Nat) (tA_given : Nat) (tA_first : Nat) (t_ways : Int32) (t_letters : Nat → Int32) (t_letterCount : Int32) (t_left : Nat → Int32) (t_wordCount : Int32) (t_given : Nat → Int32) (t_first : Nat → Int32) (t_most : Int32) (xA_x : Nat) (xr : Nat → Nat) (x_m : Nat → Nat → Int32) (yA_x : Nat) (yr : Nat → Nat) (y_m : Nat → Nat → Int32) (p1 : Int32) (o : Int32) (hf : f_X1_greatestFor N t_left t_wordCount t_most x_m y_m p1 = some o) : zMPi l D c yX1_greatestFor cX1_greatestFor 4 (some .int) rm_X1_greatestFor (wX1 c t0 tA_letters xA yA tA_left tA_given tA_first t_ways t_letters t_letterCount t_left t_wordCount t_given t_first t_most ++ wG c xA xr x_m ++ wG c yA yr y_m) [.ref t0, .int p1] o := by
  refine zIP (by decide) (Nat.le_of_ble_eq_true rfl) ?_
  intro p e s m args below meth c0 Q hQ hx hb hr hlk hml hts hown hP hE hX hS ls hl
  have S : CallFix p m c0 cX1_greatestFor 4 s args zT RX1 := ⟨hx, hb, hml, hown, hts⟩
  have hl : lv_has ls 4 [(0, .ref t0), (1, .int p1)] := hl
  unfold f_X1_greatestFor at hf
  refine lv_aload_n hx hb dX1_greatestFor_0 rfl (lv_at hl 0 rfl) ?_
  refine zget S uw_X1 hE hP 0 9 rfl rfl (by decide) tw_1_207 rfl rfl dX1_greatestFor_1 ?_
  refine lv_istore_n (lv' := [(2, .int t_most), (0, .ref t0), (1, .int p1)]) hx hb dX1_greatestFor_4 rfl hl (by decide) rfl (fun ls hl => ?_)
  refine lv_iconst (v := (0 : Int32)) hx hb dX1_greatestFor_5 (by decide) ?_
  refine lv_istore_n (lv' := [(3, .int (0 : Int32)), (2, .int t_most), (0, .ref t0), (1, .int p1)]) hx hb dX1_greatestFor_6 rfl hl (by decide) rfl (fun ls hl => ?_)
  obtain ⟨k_1, hk_1, hf⟩ := zz_let_use hf
  have hX_1 : ∀ (v2_13 : Int32) (ls : Array Slot), k_1 v2_13 = some o → lv_has ls 4 [(2, .int v2_13)] → W p l e rm_X1_greatestFor s m args below meth c0 s.heap [] 0 0 Q (F0 m 63 ls []) := by
    intro v2_13 ls hf hl
    subst hk_1
    refine lv_iload_n hx hb dX1_greatestFor_63 rfl (lv_at hl 0 rfl) ?_
    exact zRPi hQ hx hb hr hlk (Option.some.inj hf) dX1_greatestFor_64
  have hL_1 : ∀ (n_1 : Nat) (v2_2 : Int32) (v3_3 : Int32) (ls : Array Slot), f_X1_greatestFor_L7 N k_1 t_left t_wordCount x_m y_m p1 n_1 v2_2 v3_3 = some o → lv_has ls 4 [(0, .ref t0), (1, .int p1), (2, .int v2_2), (3, .int v3_3)] → W p l e rm_X1_greatestFor s m args below meth c0 s.heap [] 0 0 Q (F0 m 7 ls []) := by
    intro n_1
    induction n_1 with
    | zero => intro v2_2 v3_3 ls hf hl; exact zz_none hf
    | succ n_1 ih_1 =>
      intro v2_2 v3_3 ls hf hl
      rw [f_X1_greatestFor_L7_s] at hf
      refine lv_iload_n hx hb dX1_greatestFor_7 rfl (lv_at hl 3 rfl) ?_
      refine lv_aload_n hx hb dX1_greatestFor_8 rfl (lv_at hl 0 rfl) ?_
      refine zget S uw_X1 hE hP 0 6 rfl rfl (by decide) tw_1_204 rfl rfl dX1_greatestFor_9 ?_
      refine lv_icmp_ge (tgt := 63) hx hb dX1_greatestFor_12 (by decide) (fun hc_4 => ?_) (fun hc_4 => ?_)
      · have hf := zz_it hf hc_4
        exact hX_1 v2_2 ls hf (lv_sub hl [2] rfl)
      · have hf := zz_if hf hc_4
        refine lv_aload_n hx hb dX1_greatestFor_15 rfl (lv_at hl 0 rfl) ?_
        refine zget S uw_X1 hE hP 0 3 rfl rfl (by decide) tw_1_201 rfl rfl dX1_greatestFor_16 ?_
        refine lv_iload_n hx hb dX1_greatestFor_19 rfl (lv_at hl 3 rfl) ?_
        obtain ⟨hin_5, hf⟩ := zz_gd_use hf
        refine zaG hx hb hE hP 5 rfl (zz_in_ok hin_5) dX1_greatestFor_20 ?_
        refine lv_iload_n hx hb dX1_greatestFor_21 rfl (lv_at hl 1 rfl) ?_
        obtain ⟨hin_6, hf⟩ := zz_gd_use hf
        refine zild hx hb hE hP (5 + (1 + v3_3.toNatClampNeg)) (zapl (zapp rfl (wG_r (zz_in_lt hin_5)))) (zz_in_ok hin_6) dX1_greatestFor_22 ?_
        obtain ⟨k_10, hk_10, hf⟩ := zz_let_use hf
        have hJ_10 : ∀ (v2_11 : Int32) (ls : Array Slot), k_10 v2_11 = some o → lv_has ls 4 [(0, .ref t0), (1, .int p1), (2, .int v2_11), (3, .int v3_3)] → W p l e rm_X1_greatestFor s m args below meth c0 s.heap [] 0 0 Q (F0 m 57 ls []) := by
          intro v2_11 ls hf hl
          subst hk_10
          obtain ⟨v3_12, ev3_12, hf⟩ := zz_let_use hf
          refine lv_iinc (v := v3_12) (lv' := [(3, .int v3_12), (0, .ref t0), (1, .int p1), (2, .int v2_11)]) hx hb dX1_greatestFor_57 hl (k := 3) rfl (by rw [← ev3_12]; rfl) (by decide) rfl (fun ls hl => ?_)
          refine lv_goto (tgt := 7) hx hb dX1_greatestFor_60 (by decide) ?_
          exact ih_1 v2_11 v3_12 ls hf (lv_sub hl [1, 2, 3, 0] rfl)
        refine lv_if_le (tgt := 57) hx hb dX1_greatestFor_23 (by decide) (fun hc_7 => ?_) (fun hc_7 => ?_)
        · have hf := zz_it hf hc_7
          exact hJ_10 v2_2 ls hf (lv_sub hl [0, 1, 2, 3] rfl)
        · have hf := zz_if hf hc_7
          refine lv_iload_n hx hb dX1_greatestFor_26 rfl (lv_at hl 2 rfl) ?_
          refine lv_aload_n hx hb dX1_greatestFor_27 rfl (lv_at hl 0 rfl) ?_
          refine zget S uw_X1 hE hP 0 5 rfl rfl (by decide) tw_1_203 rfl rfl dX1_greatestFor_28 ?_
          refine lv_iload_n hx hb dX1_greatestFor_31 rfl (lv_at hl 3 rfl) ?_
          refine zild hx hb hE hP 2 rfl (zz_in_ok hin_5) dX1_greatestFor_32 ?_
          refine lv_aload_n hx hb dX1_greatestFor_33 rfl (lv_at hl 0 rfl) ?_
          refine zget S uw_X1 hE hP 0 4 rfl rfl (by decide) tw_1_202 rfl rfl dX1_greatestFor_34 ?_
          refine lv_iload_n hx hb dX1_greatestFor_37 rfl (lv_at hl 3 rfl) ?_
          refine zaG hx hb hE hP 22 rfl (zz_in_ok hin_5) dX1_greatestFor_38 ?_
          refine lv_iload_n hx hb dX1_greatestFor_39 rfl (lv_at hl 1 rfl) ?_
          refine zild hx hb hE hP (22 + (1 + v3_3.toNatClampNeg)) (zapp rfl (wG_r (zz_in_lt hin_5))) (zz_in_ok hin_6) dX1_greatestFor_40 ?_
          refine lv_isub hx hb dX1_greatestFor_41 ?_
          refine lv_aload_n hx hb dX1_greatestFor_42 rfl (lv_at hl 0 rfl) ?_
          refine zget S uw_X1 hE hP 0 3 rfl rfl (by decide) tw_1_201 rfl rfl dX1_greatestFor_43 ?_
          refine lv_iload_n hx hb dX1_greatestFor_46 rfl (lv_at hl 3 rfl) ?_
          refine zaG hx hb hE hP 5 rfl (zz_in_ok hin_5) dX1_greatestFor_47 ?_
          refine lv_iload_n hx hb dX1_greatestFor_48 rfl (lv_at hl 1 rfl) ?_
          refine zild hx hb hE hP (5 + (1 + v3_3.toNatClampNeg)) (zapl (zapp rfl (wG_r (zz_in_lt hin_5)))) (zz_in_ok hin_6) dX1_greatestFor_49 ?_
          obtain ⟨r_8, he_8, hf⟩ := zz_b1_use hf
          refine zcSi (As := [.int ((t_left v3_3.toNatClampNeg) - (y_m v3_3.toNatClampNeg p1.toNatClampNeg)), .int (x_m v3_3.toNatClampNeg p1.toNatClampNeg)]) (rest := [.int v2_2]) S (k_J9_floorDiv_7cf53 l D c N  ((t_left v3_3.toNatClampNeg) - (y_m v3_3.toNatClampNeg p1.toNatClampNeg)) (x_m v3_3.toNatClampNeg p1.toNatClampNeg) r_8 he_8) mi_J9_floorDiv_7cf53 tw_4_28 ⟨(Nat.le_of_ble_eq_true rfl), (Nat.le_of_ble_eq_true rfl)⟩ ⟨rfl, rfl⟩ (zpnil) hE hX hS rfl hl.1 rfl (Nat.le_of_ble_eq_true rfl) dX1_greatestFor_50 ⟨(Nat.le_of_ble_eq_true rfl), (Nat.le_of_ble_eq_true rfl)⟩ ?_
          refine va_mmin hx hb (hml.trans hl.1.symm) hown (hts _ tw_4_31) (hts _ tw_3_203) (hts _ tw_1_15) (hts _ tw_3_204) (Nat.le_of_ble_eq_true rfl) (Nat.le_of_ble_eq_true rfl) (Nat.zero_le _) (Nat.zero_le _) dX1_greatestFor_53 ?_
          obtain ⟨v2_9, ev2_9, hf⟩ := zz_let_use hf
          refine zti ev2_9 ?_
          refine lv_istore_n (lv' := [(2, .int v2_9), (0, .ref t0), (1, .int p1), (3, .int v3_3)]) hx hb dX1_greatestFor_56 rfl hl (by decide) rfl (fun ls hl => ?_)
          exact hJ_10 v2_9 ls hf (lv_sub hl [1, 2, 0, 3] rfl)
  exact hL_1 N t_most (0 : Int32) ls hf (lv_sub hl [2, 3, 1, 0] rfl)
def f_X1_leastFor_L4 (N : Nat) (k_1 : (Int32) → Option (Int32)) (t_left : Nat → Int32) (t_wordCount : Int32) (t_most : Int32) (x_m : Nat → Nat → Int32) (y_m : Nat → Nat → Int32) (p1 : Int32) : Nat → (Int32) → (Int32) → Option (Int32)
  | 0, _, _ => none
  | n_1 + 1, v2_2, v3_3 => (if t_wordCount ≤ v3_3 then (k_1 v2_2) else zz_gd (zz_in v3_3 16) (zz_gd (zz_in p1 5) (zz_let (fun (v2_12 : Int32) => zz_let (v3_3 + (1 : Int32)) (fun v3_13 => (f_X1_leastFor_L4 N k_1 t_left t_wordCount t_most x_m y_m p1 n_1 v2_12 v3_13))) (fun k_11 => (if (x_m v3_3.toNatClampNeg p1.toNatClampNeg) ≤ 0 then (k_11 v2_2) else zz_let ((t_left v3_3.toNatClampNeg) - ((y_m v3_3.toNatClampNeg p1.toNatClampNeg) * t_most)) (fun v4_8 => zz_b1 (f_J9_floorDiv_7cf53 N (-v4_8) (x_m v3_3.toNatClampNeg p1.toNatClampNeg)) (fun r_9 => zz_let (if v2_2 < (-r_9) then (-r_9) else v2_2) (fun v2_10 => (k_11 v2_10)))))))))
theorem f_X1_leastFor_L4_s (N : Nat) (k_1 : (Int32) → Option (Int32)) (t_left : Nat → Int32) (t_wordCount : Int32) (t_most : Int32) (x_m : Nat → Nat → Int32) (y_m : Nat → Nat → Int32) (p1 : Int32) (n_1 : Nat) (v2_2 : Int32) (v3_3 : Int32) : f_X1_leastFor_L4 N k_1 t_left t_wordCount t_most x_m y_m p1 (n_1 + 1) v2_2 v3_3 = (if t_wordCount ≤ v3_3 then (k_1 v2_2) else zz_gd (zz_in v3_3 16) (zz_gd (zz_in p1 5) (zz_let (fun (v2_12 : Int32) => zz_let (v3_3 + (1 : Int32)) (fun v3_13 => (f_X1_leastFor_L4 N k_1 t_left t_wordCount t_most x_m y_m p1 n_1 v2_12 v3_13))) (fun k_11 => (if (x_m v3_3.toNatClampNeg p1.toNatClampNeg) ≤ 0 then (k_11 v2_2) else zz_let ((t_left v3_3.toNatClampNeg) - ((y_m v3_3.toNatClampNeg p1.toNatClampNeg) * t_most)) (fun v4_8 => zz_b1 (f_J9_floorDiv_7cf53 N (-v4_8) (x_m v3_3.toNatClampNeg p1.toNatClampNeg)) (fun r_9 => zz_let (if v2_2 < (-r_9) then (-r_9) else v2_2) (fun v2_10 => (k_11 v2_10))))))))) := rfl
def f_X1_leastFor (N : Nat) (t_left : Nat → Int32) (t_wordCount : Int32) (t_most : Int32) (x_m : Nat → Nat → Int32) (y_m : Nat → Nat → Int32) (p1 : Int32) : Option (Int32) := zz_let (fun (v2_14 : Int32) => (some v2_14)) (fun k_1 => f_X1_leastFor_L4 N k_1 t_left t_wordCount t_most x_m y_m p1 N (1 : Int32) (0 : Int32))
abbrev rm_X1_leastFor : Room := { frames := 1, cells := 0, slots := 0, locals := 24 }
theorem mi_X1_leastFor : zMI RX1 yX1_leastFor cX1_leastFor 5 (some .int) 1 := ⟨⟨tw_4_34, ts_X1_leastFor, tw_1_6, tw_4_35⟩, by decide +kernel, by decide +kernel, by decide +kernel⟩
set_option maxHeartbeats 4000000 in
set_option maxRecDepth 100000 in
theorem k_X1_leastFor (l : Launch) (D : va_G) (c : Nat → ClassId) (N : Nat) (t0 : Nat) (tA_letters : Nat) (xA : Nat) (yA : Nat) (tA_left : Nat) (tA_given : Nat) (tA_first : Nat) (t_ways : Int32) (t_letters : Nat → Int32) (t_letterCount : Int32) (t_left : Nat → Int32) (t_wordCount : Int32) (t_given : Nat → Int32) (t_first : Nat → Int32) (t_most : Int32) (xA_x : Nat) (xr : Nat → Nat) (x_m : Nat → Nat → Int32) (yA_x : Nat) (yr : Nat → Nat) (y_m : Nat → Nat → Int32) (p1 : Int32) (o : Int32) (hf : f_X1_leastFor N t_left t_wordCount t_most x_m y_m p1 = some o) : zMPi l D c yX1_leastFor cX1_leastFor 5 (some .int) rm_X1_leastFor (wX1 c t0 tA_letters xA yA tA_left tA_given tA_first t_ways t_letters t_letterCount t_left t_wordCount t_given t_first t_most ++ wG c xA xr x_m ++ wG c yA yr y_m) [.ref t0, .int p1] o := by
  refine zIP (by decide) (Nat.le_of_ble_eq_true rfl) ?_
  intro p e s m args below meth c0 Q hQ hx hb hr hlk hml hts hown hP hE hX hS ls hl
  have S : CallFix p m c0 cX1_leastFor 5 s args zT RX1 := ⟨hx, hb, hml, hown, hts⟩
  have hl : lv_has ls 5 [(0, .ref t0), (1, .int p1)] := hl
  unfold f_X1_leastFor at hf
  refine lv_iconst (v := (1 : Int32)) hx hb dX1_leastFor_0 (by decide) ?_
  refine lv_istore_n (lv' := [(2, .int (1 : Int32)), (0, .ref t0), (1, .int p1)]) hx hb dX1_leastFor_1 rfl hl (by decide) rfl (fun ls hl => ?_)
  refine lv_iconst (v := (0 : Int32)) hx hb dX1_leastFor_2 (by decide) ?_
  refine lv_istore_n (lv' := [(3, .int (0 : Int32)), (2, .int (1 : Int32)), (0, .ref t0), (1, .int p1)]) hx hb dX1_leastFor_3 rfl hl (by decide) rfl (fun ls hl => ?_)
  obtain ⟨k_1, hk_1, hf⟩ := zz_let_use hf
  have hX_1 : ∀ (v2_14 : Int32) (ls : Array Slot), k_1 v2_14 = some o → lv_has ls 5 [(2, .int v2_14)] → W p l e rm_X1_leastFor s m args below meth c0 s.heap [] 0 0 Q (F0 m 71 ls []) := by
    intro v2_14 ls hf hl
    subst hk_1
    refine lv_iload_n hx hb dX1_leastFor_71 rfl (lv_at hl 0 rfl) ?_
    exact zRPi hQ hx hb hr hlk (Option.some.inj hf) dX1_leastFor_72
  have hL_1 : ∀ (n_1 : Nat) (v2_2 : Int32) (v3_3 : Int32) (ls : Array Slot), f_X1_leastFor_L4 N k_1 t_left t_wordCount t_most x_m y_m p1 n_1 v2_2 v3_3 = some o → lv_has ls 5 [(0, .ref t0), (1, .int p1), (2, .int v2_2), (3, .int v3_3)] → W p l e rm_X1_leastFor s m args below meth c0 s.heap [] 0 0 Q (F0 m 4 ls []) := by
    intro n_1
    induction n_1 with
    | zero => intro v2_2 v3_3 ls hf hl; exact zz_none hf
    | succ n_1 ih_1 =>
      intro v2_2 v3_3 ls hf hl
      rw [f_X1_leastFor_L4_s] at hf
      refine lv_iload_n hx hb dX1_leastFor_4 rfl (lv_at hl 3 rfl) ?_
      refine lv_aload_n hx hb dX1_leastFor_5 rfl (lv_at hl 0 rfl) ?_
      refine zget S uw_X1 hE hP 0 6 rfl rfl (by decide) tw_1_204 rfl rfl dX1_leastFor_6 ?_
      refine lv_icmp_ge (tgt := 71) hx hb dX1_leastFor_9 (by decide) (fun hc_4 => ?_) (fun hc_4 => ?_)
      · have hf := zz_it hf hc_4
        exact hX_1 v2_2 ls hf (lv_sub hl [2] rfl)
      · have hf := zz_if hf hc_4
        refine lv_aload_n hx hb dX1_leastFor_12 rfl (lv_at hl 0 rfl) ?_
        refine zget S uw_X1 hE hP 0 3 rfl rfl (by decide) tw_1_201 rfl rfl dX1_leastFor_13 ?_
        refine lv_iload_n hx hb dX1_leastFor_16 rfl (lv_at hl 3 rfl) ?_
        obtain ⟨hin_5, hf⟩ := zz_gd_use hf
        refine zaG hx hb hE hP 5 rfl (zz_in_ok hin_5) dX1_leastFor_17 ?_
        refine lv_iload_n hx hb dX1_leastFor_18 rfl (lv_at hl 1 rfl) ?_
        obtain ⟨hin_6, hf⟩ := zz_gd_use hf
        refine zild hx hb hE hP (5 + (1 + v3_3.toNatClampNeg)) (zapl (zapp rfl (wG_r (zz_in_lt hin_5)))) (zz_in_ok hin_6) dX1_leastFor_19 ?_
        obtain ⟨k_11, hk_11, hf⟩ := zz_let_use hf
        have hJ_11 : ∀ (v2_12 : Int32) (ls : Array Slot), k_11 v2_12 = some o → lv_has ls 5 [(0, .ref t0), (1, .int p1), (2, .int v2_12), (3, .int v3_3)] → W p l e rm_X1_leastFor s m args below meth c0 s.heap [] 0 0 Q (F0 m 65 ls []) := by
          intro v2_12 ls hf hl
          subst hk_11
          obtain ⟨v3_13, ev3_13, hf⟩ := zz_let_use hf
          refine lv_iinc (v := v3_13) (lv' := [(3, .int v3_13), (0, .ref t0), (1, .int p1), (2, .int v2_12)]) hx hb dX1_leastFor_65 hl (k := 3) rfl (by rw [← ev3_13]; rfl) (by decide) rfl (fun ls hl => ?_)
          refine lv_goto (tgt := 4) hx hb dX1_leastFor_68 (by decide) ?_
          exact ih_1 v2_12 v3_13 ls hf (lv_sub hl [1, 2, 3, 0] rfl)
        refine lv_if_le (tgt := 65) hx hb dX1_leastFor_20 (by decide) (fun hc_7 => ?_) (fun hc_7 => ?_)
        · have hf := zz_it hf hc_7
          exact hJ_11 v2_2 ls hf (lv_sub hl [0, 1, 2, 3] rfl)
        · have hf := zz_if hf hc_7
          refine lv_aload_n hx hb dX1_leastFor_23 rfl (lv_at hl 0 rfl) ?_
          refine zget S uw_X1 hE hP 0 5 rfl rfl (by decide) tw_1_203 rfl rfl dX1_leastFor_24 ?_
          refine lv_iload_n hx hb dX1_leastFor_27 rfl (lv_at hl 3 rfl) ?_
          refine zild hx hb hE hP 2 rfl (zz_in_ok hin_5) dX1_leastFor_28 ?_
          refine lv_aload_n hx hb dX1_leastFor_29 rfl (lv_at hl 0 rfl) ?_
          refine zget S uw_X1 hE hP 0 4 rfl rfl (by decide) tw_1_202 rfl rfl dX1_leastFor_30 ?_
          refine lv_iload_n hx hb dX1_leastFor_33 rfl (lv_at hl 3 rfl) ?_
          refine zaG hx hb hE hP 22 rfl (zz_in_ok hin_5) dX1_leastFor_34 ?_
          refine lv_iload_n hx hb dX1_leastFor_35 rfl (lv_at hl 1 rfl) ?_
          refine zild hx hb hE hP (22 + (1 + v3_3.toNatClampNeg)) (zapp rfl (wG_r (zz_in_lt hin_5))) (zz_in_ok hin_6) dX1_leastFor_36 ?_
          refine lv_aload_n hx hb dX1_leastFor_37 rfl (lv_at hl 0 rfl) ?_
          refine zget S uw_X1 hE hP 0 9 rfl rfl (by decide) tw_1_207 rfl rfl dX1_leastFor_38 ?_
          refine lv_imul hx hb dX1_leastFor_41 ?_
          refine lv_isub hx hb dX1_leastFor_42 ?_
          obtain ⟨v4_8, ev4_8, hf⟩ := zz_let_use hf
          refine zti ev4_8 ?_
          refine lv_istore (lv' := [(4, .int v4_8), (0, .ref t0), (1, .int p1), (2, .int v2_2), (3, .int v3_3)]) hx hb dX1_leastFor_43 hl (by decide) rfl (fun ls hl => ?_)
          refine lv_iload_n hx hb dX1_leastFor_45 rfl (lv_at hl 3 rfl) ?_
          refine lv_iload hx hb dX1_leastFor_46 (lv_at hl 0 rfl) ?_
          refine lv_ineg hx hb dX1_leastFor_48 ?_
          refine lv_aload_n hx hb dX1_leastFor_49 rfl (lv_at hl 1 rfl) ?_
          refine zget S uw_X1 hE hP 0 3 rfl rfl (by decide) tw_1_201 rfl rfl dX1_leastFor_50 ?_
          refine lv_iload_n hx hb dX1_leastFor_53 rfl (lv_at hl 4 rfl) ?_
          refine zaG hx hb hE hP 5 rfl (zz_in_ok hin_5) dX1_leastFor_54 ?_
          refine lv_iload_n hx hb dX1_leastFor_55 rfl (lv_at hl 2 rfl) ?_
          refine zild hx hb hE hP (5 + (1 + v3_3.toNatClampNeg)) (zapl (zapp rfl (wG_r (zz_in_lt hin_5)))) (zz_in_ok hin_6) dX1_leastFor_56 ?_
          obtain ⟨r_9, he_9, hf⟩ := zz_b1_use hf
          refine zcSi (As := [.int (-v4_8), .int (x_m v3_3.toNatClampNeg p1.toNatClampNeg)]) (rest := [.int v2_2]) S (k_J9_floorDiv_7cf53 l D c N  (-v4_8) (x_m v3_3.toNatClampNeg p1.toNatClampNeg) r_9 he_9) mi_J9_floorDiv_7cf53 tw_4_28 ⟨(Nat.le_of_ble_eq_true rfl), (Nat.le_of_ble_eq_true rfl)⟩ ⟨rfl, rfl⟩ (zpnil) hE hX hS rfl hl.1 rfl (Nat.le_of_ble_eq_true rfl) dX1_leastFor_57 ⟨(Nat.le_of_ble_eq_true rfl), (Nat.le_of_ble_eq_true rfl)⟩ ?_
          refine lv_ineg hx hb dX1_leastFor_60 ?_
          refine va_mmax hx hb (hml.trans hl.1.symm) hown (hts _ tw_4_36) (hts _ tw_4_37) (hts _ tw_1_15) (hts _ tw_4_38) (Nat.le_of_ble_eq_true rfl) (Nat.le_of_ble_eq_true rfl) (Nat.zero_le _) (Nat.zero_le _) dX1_leastFor_61 ?_
          obtain ⟨v2_10, ev2_10, hf⟩ := zz_let_use hf
          refine zti ev2_10 ?_
          refine lv_istore_n (lv' := [(2, .int v2_10), (4, .int v4_8), (0, .ref t0), (1, .int p1), (3, .int v3_3)]) hx hb dX1_leastFor_64 rfl hl (by decide) rfl (fun ls hl => ?_)
          exact hJ_11 v2_10 ls hf (lv_sub hl [2, 3, 0, 4] rfl)
  exact hL_1 N (1 : Int32) (0 : Int32) ls hf (lv_sub hl [2, 3, 1, 0] rfl)
def f_X1_take_L2 (N : Nat) (k_1 : (Nat → Int32) → Option ((Nat → Int32))) (t_wordCount : Int32) (x_m : Nat → Nat → Int32) (p1 : Int32) (p2 : Int32) : Nat → (Int32) → (Nat → Int32) → Option ((Nat → Int32))
  | 0, _, _ => none
  | n_1 + 1, v3_2, t_left_3 => (if t_wordCount ≤ v3_2 then (k_1 t_left_3) else zz_gd (zz_in v3_2 16) (zz_gd (zz_in p1 5) (zz_let (upd t_left_3 v3_2.toNatClampNeg ((t_left_3 v3_2.toNatClampNeg) - ((x_m v3_2.toNatClampNeg p1.toNatClampNeg) * p2))) (fun t_left_7 => zz_let (v3_2 + (1 : Int32)) (fun v3_8 => (f_X1_take_L2 N k_1 t_wordCount x_m p1 p2 n_1 v3_8 t_left_7))))))
theorem f_X1_take_L2_s (N : Nat) (k_1 : (Nat → Int32) → Option ((Nat → Int32))) (t_wordCount : Int32) (x_m : Nat → Nat → Int32) (p1 : Int32) (p2 : Int32) (n_1 : Nat) (v3_2 : Int32) (t_left_3 : Nat → Int32) : f_X1_take_L2 N k_1 t_wordCount x_m p1 p2 (n_1 + 1) v3_2 t_left_3 = (if t_wordCount ≤ v3_2 then (k_1 t_left_3) else zz_gd (zz_in v3_2 16) (zz_gd (zz_in p1 5) (zz_let (upd t_left_3 v3_2.toNatClampNeg ((t_left_3 v3_2.toNatClampNeg) - ((x_m v3_2.toNatClampNeg p1.toNatClampNeg) * p2))) (fun t_left_7 => zz_let (v3_2 + (1 : Int32)) (fun v3_8 => (f_X1_take_L2 N k_1 t_wordCount x_m p1 p2 n_1 v3_8 t_left_7)))))) := rfl
def f_X1_take (N : Nat) (t_left : Nat → Int32) (t_wordCount : Int32) (x_m : Nat → Nat → Int32) (p1 : Int32) (p2 : Int32) : Option ((Nat → Int32)) := zz_let (fun (t_left_9 : Nat → Int32) => (some t_left_9)) (fun k_1 => f_X1_take_L2 N k_1 t_wordCount x_m p1 p2 N (0 : Int32) t_left)
abbrev rm_X1_take : Room := { frames := 0, cells := 0, slots := 0, locals := 0 }
theorem mi_X1_take : zMI RX1 yX1_take cX1_take 4 none 2 := ⟨⟨tw_4_41, ts_X1_take, tw_1_6, tw_4_42⟩, by decide +kernel, by decide +kernel, by decide +kernel⟩
set_option maxHeartbeats 4000000 in
set_option maxRecDepth 100000 in
theorem k_X1_take (l : Launch) (D : va_G) (c : Nat → ClassId) (N : Nat) (t0 : Nat) (tA_letters : Nat) (xA : Nat) (yA : Nat) (tA_left : Nat) (tA_given : Nat) (tA_first : Nat) (t_ways : Int32) (t_letters : Nat → Int32) (t_letterCount : Int32) (t_left : Nat → Int32) (t_wordCount : Int32) (t_given : Nat → Int32) (t_first : Nat → Int32) (t_most : Int32) (xA_x : Nat) (xr : Nat → Nat) (x_m : Nat → Nat → Int32) (yA_x : Nat) (yr : Nat → Nat) (y_m : Nat → Nat → Int32) (p1 : Int32) (p2 : Int32) (o_t_left : Nat → Int32) (hf : f_X1_take N t_left t_wordCount x_m p1 p2 = some o_t_left) : zMWv l D c yX1_take cX1_take 4 none rm_X1_take (wX1 c t0 tA_letters xA yA tA_left tA_given tA_first t_ways t_letters t_letterCount t_left t_wordCount t_given t_first t_most ++ wG c xA xr x_m ++ wG c yA yr y_m) (wX1 c t0 tA_letters xA yA tA_left tA_given tA_first t_ways t_letters t_letterCount o_t_left t_wordCount t_given t_first t_most ++ wG c xA xr x_m ++ wG c yA yr y_m) [.ref t0, .int p1, .int p2] := by
  intro sz
  refine zIW (by decide) (Nat.le_of_ble_eq_true rfl) ?_
  intro p e s m args below meth c0 Q A hAe hQ hx hb hr hlk hml hts hown hP hE hD hS hA hsz hmn hX ls hl
  rw [← hAe] at hQ
  have S : CallFix p m c0 cX1_take 4 s args zT RX1 := ⟨hx, hb, hml, hown, hts⟩
  have hl : lv_has ls 4 [(0, .ref t0), (1, .int p1), (2, .int p2)] := hl
  unfold f_X1_take at hf
  refine lv_iconst (v := (0 : Int32)) hx hb dX1_take_0 (by decide) ?_
  refine lv_istore_n (lv' := [(3, .int (0 : Int32)), (0, .ref t0), (1, .int p1), (2, .int p2)]) hx hb dX1_take_1 rfl hl (by decide) rfl (fun ls hl => ?_)
  obtain ⟨k_1, hk_1, hf⟩ := zz_let_use hf
  have hX_1 : ∀ (t_left_9 : Nat → Int32) (H : Heap) (locs : List Loc) (ls : Array Slot), k_1 t_left_9 = some o_t_left → va_P D vwCl (wX1 c t0 tA_letters xA yA tA_left tA_given tA_first t_ways t_letters t_letterCount t_left_9 t_wordCount t_given t_first t_most ++ wG c xA xr x_m ++ wG c yA yr y_m) H → va_D A (wX1 c t0 tA_letters xA yA tA_left tA_given tA_first t_ways t_letters t_letterCount t_left_9 t_wordCount t_given t_first t_most ++ wG c xA xr x_m ++ wG c yA yr y_m) → va_S A s.heap H locs → lv_has ls 4 [] → W p l e rm_X1_take s m args below meth c0 H locs 0 0 Q (F0 m 35 ls []) := by
    intro t_left_9 H locs ls hf hP hD hS hl
    subst hk_1
    cases hf
    exact zRWv hQ hx hb hr hlk hP hD hS dX1_take_35
  have hL_1 : ∀ (n_1 : Nat) (v3_2 : Int32) (t_left_3 : Nat → Int32) (H : Heap) (locs : List Loc) (ls : Array Slot), f_X1_take_L2 N k_1 t_wordCount x_m p1 p2 n_1 v3_2 t_left_3 = some o_t_left → va_P D vwCl (wX1 c t0 tA_letters xA yA tA_left tA_given tA_first t_ways t_letters t_letterCount t_left_3 t_wordCount t_given t_first t_most ++ wG c xA xr x_m ++ wG c yA yr y_m) H → va_D A (wX1 c t0 tA_letters xA yA tA_left tA_given tA_first t_ways t_letters t_letterCount t_left_3 t_wordCount t_given t_first t_most ++ wG c xA xr x_m ++ wG c yA yr y_m) → va_S A s.heap H locs → lv_has ls 4 [(0, .ref t0), (1, .int p1), (2, .int p2), (3, .int v3_2)] → W p l e rm_X1_take s m args below meth c0 H locs 0 0 Q (F0 m 2 ls []) := by
    intro n_1
    induction n_1 with
    | zero => intro v3_2 t_left_3 H locs ls hf hP hD hS hl; exact zz_none hf
    | succ n_1 ih_1 =>
      intro v3_2 t_left_3 H locs ls hf hP hD hS hl
      rw [f_X1_take_L2_s] at hf
      refine lv_iload_n hx hb dX1_take_2 rfl (lv_at hl 3 rfl) ?_
      refine lv_aload_n hx hb dX1_take_3 rfl (lv_at hl 0 rfl) ?_
      refine zget S uw_X1 hE hP 0 6 rfl rfl (by decide) tw_1_204 rfl rfl dX1_take_4 ?_
      refine lv_icmp_ge (tgt := 35) hx hb dX1_take_7 (by decide) (fun hc_4 => ?_) (fun hc_4 => ?_)
      · have hf := zz_it hf hc_4
        exact hX_1 t_left_3 H locs ls hf hP hD hS (lv_sub hl [] rfl)
      · have hf := zz_if hf hc_4
        refine lv_aload_n hx hb dX1_take_10 rfl (lv_at hl 0 rfl) ?_
        refine zget S uw_X1 hE hP 0 5 rfl rfl (by decide) tw_1_203 rfl rfl dX1_take_11 ?_
        refine lv_iload_n hx hb dX1_take_14 rfl (lv_at hl 3 rfl) ?_
        refine lv_dup2_11 hx hb dX1_take_15 rfl rfl ?_
        obtain ⟨hin_5, hf⟩ := zz_gd_use hf
        refine zild hx hb hE hP 2 rfl (zz_in_ok hin_5) dX1_take_16 ?_
        refine lv_aload_n hx hb dX1_take_17 rfl (lv_at hl 0 rfl) ?_
        refine zget S uw_X1 hE hP 0 3 rfl rfl (by decide) tw_1_201 rfl rfl dX1_take_18 ?_
        refine lv_iload_n hx hb dX1_take_21 rfl (lv_at hl 3 rfl) ?_
        refine zaG hx hb hE hP 5 rfl (zz_in_ok hin_5) dX1_take_22 ?_
        refine lv_iload_n hx hb dX1_take_23 rfl (lv_at hl 1 rfl) ?_
        obtain ⟨hin_6, hf⟩ := zz_gd_use hf
        refine zild hx hb hE hP (5 + (1 + v3_2.toNatClampNeg)) (zapl (zapp rfl (wG_r (zz_in_lt hin_5)))) (zz_in_ok hin_6) dX1_take_24 ?_
        refine lv_iload_n hx hb dX1_take_25 rfl (lv_at hl 2 rfl) ?_
        refine lv_imul hx hb dX1_take_26 ?_
        refine lv_isub hx hb dX1_take_27 ?_
        obtain ⟨t_left_7, et_left_7, hf⟩ := zz_let_use hf
        refine zist hx hb hE hP hD hS 2 (wX1 c t0 tA_letters xA yA tA_left tA_given tA_first t_ways t_letters t_letterCount t_left_7 t_wordCount t_given t_first t_most ++ wG c xA xr x_m ++ wG c yA yr y_m) rfl rfl et_left_7 (zz_in_ok hin_5) dX1_take_28 (fun H locs hP hD hS => ?_)
        obtain ⟨v3_8, ev3_8, hf⟩ := zz_let_use hf
        refine lv_iinc (v := v3_8) (lv' := [(3, .int v3_8), (0, .ref t0), (1, .int p1), (2, .int p2)]) hx hb dX1_take_29 hl (k := 3) rfl (by rw [← ev3_8]; rfl) (by decide) rfl (fun ls hl => ?_)
        refine lv_goto (tgt := 2) hx hb dX1_take_32 (by decide) ?_
        exact ih_1 v3_8 t_left_7 H locs ls hf hP hD hS (lv_sub hl [1, 2, 3, 0] rfl)
  exact hL_1 N (0 : Int32) t_left s.heap [] ls hf hP hD hS (lv_sub hl [1, 2, 3, 0] rfl)
def f_X1_give_L25 (N : Nat) (k_6 : (Int32) → (Nat → Int32) → (Nat → Int32) → (Nat → Int32) → Option ((Int32) × (Nat → Int32) × (Nat → Int32) × (Nat → Int32))) (self : (Int32) → (Int32) → (Nat → Int32) → (Int32) → (Nat → Int32) → (Nat → Int32) → (Int32) → (Nat → Nat → Int32) → (Nat → Nat → Int32) → (Int32) → Option ((Int32) × (Nat → Int32) × (Nat → Int32) × (Nat → Int32))) (t_letterCount : Int32) (t_wordCount : Int32) (t_most : Int32) (x_m : Nat → Nat → Int32) (y_m : Nat → Nat → Int32) (p1 : Int32) (r_4 : Int32) : Nat → (Int32) → (Int32) → (Nat → Int32) → (Nat → Int32) → (Nat → Int32) → Option ((Int32) × (Nat → Int32) × (Nat → Int32) × (Nat → Int32))
  | 0, _, _, _, _, _ => none
  | n_6 + 1, v3_7, t_ways_8, t_left_9, t_given_10, t_first_11 => (if r_4 < v3_7 then (k_6 t_ways_8 t_left_9 t_given_10 t_first_11) else zz_gd (zz_in p1 5) (zz_let (upd t_given_10 p1.toNatClampNeg v3_7) (fun t_given_14 => zz_b1 (f_X1_take N t_left_9 t_wordCount x_m p1 v3_7) (fun t_left_15 => zz_b4 (self t_ways_8 t_letterCount t_left_15 t_wordCount t_given_14 t_first_11 t_most x_m y_m (p1 + (1 : Int32))) (fun t_ways_16 t_left_17 t_given_18 t_first_19 => zz_b1 (f_X1_take N t_left_17 t_wordCount x_m p1 (-v3_7)) (fun t_left_20 => zz_let (v3_7 + (1 : Int32)) (fun v3_21 => (f_X1_give_L25 N k_6 self t_letterCount t_wordCount t_most x_m y_m p1 r_4 n_6 v3_21 t_ways_16 t_left_20 t_given_18 t_first_19))))))))
theorem f_X1_give_L25_s (N : Nat) (k_6 : (Int32) → (Nat → Int32) → (Nat → Int32) → (Nat → Int32) → Option ((Int32) × (Nat → Int32) × (Nat → Int32) × (Nat → Int32))) (self : (Int32) → (Int32) → (Nat → Int32) → (Int32) → (Nat → Int32) → (Nat → Int32) → (Int32) → (Nat → Nat → Int32) → (Nat → Nat → Int32) → (Int32) → Option ((Int32) × (Nat → Int32) × (Nat → Int32) × (Nat → Int32))) (t_letterCount : Int32) (t_wordCount : Int32) (t_most : Int32) (x_m : Nat → Nat → Int32) (y_m : Nat → Nat → Int32) (p1 : Int32) (r_4 : Int32) (n_6 : Nat) (v3_7 : Int32) (t_ways_8 : Int32) (t_left_9 : Nat → Int32) (t_given_10 : Nat → Int32) (t_first_11 : Nat → Int32) : f_X1_give_L25 N k_6 self t_letterCount t_wordCount t_most x_m y_m p1 r_4 (n_6 + 1) v3_7 t_ways_8 t_left_9 t_given_10 t_first_11 = (if r_4 < v3_7 then (k_6 t_ways_8 t_left_9 t_given_10 t_first_11) else zz_gd (zz_in p1 5) (zz_let (upd t_given_10 p1.toNatClampNeg v3_7) (fun t_given_14 => zz_b1 (f_X1_take N t_left_9 t_wordCount x_m p1 v3_7) (fun t_left_15 => zz_b4 (self t_ways_8 t_letterCount t_left_15 t_wordCount t_given_14 t_first_11 t_most x_m y_m (p1 + (1 : Int32))) (fun t_ways_16 t_left_17 t_given_18 t_first_19 => zz_b1 (f_X1_take N t_left_17 t_wordCount x_m p1 (-v3_7)) (fun t_left_20 => zz_let (v3_7 + (1 : Int32)) (fun v3_21 => (f_X1_give_L25 N k_6 self t_letterCount t_wordCount t_most x_m y_m p1 r_4 n_6 v3_21 t_ways_16 t_left_20 t_given_18 t_first_19)))))))) := rfl
def f_X1_give (N : Nat) : Nat → (Int32) → (Int32) → (Nat → Int32) → (Int32) → (Nat → Int32) → (Nat → Int32) → (Int32) → (Nat → Nat → Int32) → (Nat → Nat → Int32) → (Int32) → Option ((Int32) × (Nat → Int32) × (Nat → Int32) × (Nat → Int32))
  | 0, _, _, _, _, _, _, _, _, _, _ => none
  | dd + 1, t_ways, t_letterCount, t_left, t_wordCount, t_given, t_first, t_most, x_m, y_m, p1 => (if p1 < t_letterCount then zz_b1 (f_X1_greatestFor N t_left t_wordCount t_most x_m y_m p1) (fun r_4 => zz_b1 (f_X1_leastFor N t_left t_wordCount t_most x_m y_m p1) (fun r_5 => zz_let (fun (t_ways_22 : Int32) (t_left_23 : Nat → Int32) (t_given_24 : Nat → Int32) (t_first_25 : Nat → Int32) => (some (t_ways_22, t_left_23, t_given_24, t_first_25))) (fun k_6 => f_X1_give_L25 N k_6 (f_X1_give N dd) t_letterCount t_wordCount t_most x_m y_m p1 r_4 N r_5 t_ways t_left t_given t_first))) else zz_b2 (f_X1_addWay N t_ways t_letterCount t_given t_first) (fun t_ways_2 t_first_3 => (some (t_ways_2, t_left, t_given, t_first_3))))
theorem f_X1_give_s (N dd : Nat) (t_ways : Int32) (t_letterCount : Int32) (t_left : Nat → Int32) (t_wordCount : Int32) (t_given : Nat → Int32) (t_first : Nat → Int32) (t_most : Int32) (x_m : Nat → Nat → Int32) (y_m : Nat → Nat → Int32) (p1 : Int32) : f_X1_give N (dd + 1) t_ways t_letterCount t_left t_wordCount t_given t_first t_most x_m y_m p1 = (if p1 < t_letterCount then zz_b1 (f_X1_greatestFor N t_left t_wordCount t_most x_m y_m p1) (fun r_4 => zz_b1 (f_X1_leastFor N t_left t_wordCount t_most x_m y_m p1) (fun r_5 => zz_let (fun (t_ways_22 : Int32) (t_left_23 : Nat → Int32) (t_given_24 : Nat → Int32) (t_first_25 : Nat → Int32) => (some (t_ways_22, t_left_23, t_given_24, t_first_25))) (fun k_6 => f_X1_give_L25 N k_6 (f_X1_give N dd) t_letterCount t_wordCount t_most x_m y_m p1 r_4 N r_5 t_ways t_left t_given t_first))) else zz_b2 (f_X1_addWay N t_ways t_letterCount t_given t_first) (fun t_ways_2 t_first_3 => (some (t_ways_2, t_left, t_given, t_first_3)))) := rfl
abbrev rm_X1_give (dd : Nat) : Room := { frames := dd + 2, cells := 0, slots := 0, locals := dd * 23 + 60 }
theorem mi_X1_give : zMI RX1 yX1_give cX1_give 4 none 1 := ⟨⟨tw_4_17, ts_X1_give, tw_1_6, tw_4_18⟩, by decide +kernel, by decide +kernel, by decide +kernel⟩
set_option maxHeartbeats 4000000 in
set_option maxRecDepth 100000 in
theorem k_X1_give (l : Launch) (D : va_G) (c : Nat → ClassId) (N : Nat) : ∀ (dd : Nat) (t0 : Nat) (tA_letters : Nat) (xA : Nat) (yA : Nat) (tA_left : Nat) (tA_given : Nat) (tA_first : Nat) (t_ways : Int32) (t_letters : Nat → Int32) (t_letterCount : Int32) (t_left : Nat → Int32) (t_wordCount : Int32) (t_given : Nat → Int32) (t_first : Nat → Int32) (t_most : Int32) (xA_x : Nat) (xr : Nat → Nat) (x_m : Nat → Nat → Int32) (yA_x : Nat) (yr : Nat → Nat) (y_m : Nat → Nat → Int32) (p1 : Int32) (o_t_ways : Int32) (o_t_left : Nat → Int32) (o_t_given : Nat → Int32) (o_t_first : Nat → Int32) (hf : f_X1_give N dd t_ways t_letterCount t_left t_wordCount t_given t_first t_most x_m y_m p1 = some (o_t_ways, o_t_left, o_t_given, o_t_first)), zMWv l D c yX1_give cX1_give 4 none (rm_X1_give dd) (wX1 c t0 tA_letters xA yA tA_left tA_given tA_first t_ways t_letters t_letterCount t_left t_wordCount t_given t_first t_most ++ wG c xA xr x_m ++ wG c yA yr y_m) (wX1 c t0 tA_letters xA yA tA_left tA_given tA_first o_t_ways t_letters t_letterCount o_t_left t_wordCount o_t_given o_t_first t_most ++ wG c xA xr x_m ++ wG c yA yr y_m) [.ref t0, .int p1] := by
  intro dd
  induction dd with
  | zero => intro t0 tA_letters xA yA tA_left tA_given tA_first t_ways t_letters t_letterCount t_left t_wordCount t_given t_first t_most xA_x xr x_m yA_x yr y_m p1 o_t_ways o_t_left o_t_given o_t_first hf; exact zz_none hf
  | succ dd ihd =>
    intro t0 tA_letters xA yA tA_left tA_given tA_first t_ways t_letters t_letterCount t_left t_wordCount t_given t_first t_most xA_x xr x_m yA_x yr y_m p1 o_t_ways o_t_left o_t_given o_t_first hf
    intro sz
    refine zIW (by decide) (Nat.le_of_ble_eq_true rfl) ?_
    intro p e s m args below meth c0 Q A hAe hQ hx hb hr hlk hml hts hown hP hE hD hS hA hsz hmn hX ls hl
    rw [← hAe] at hQ
    have S : CallFix p m c0 cX1_give 4 s args zT RX1 := ⟨hx, hb, hml, hown, hts⟩
    have hl : lv_has ls 4 [(0, .ref t0), (1, .int p1)] := hl
    rw [f_X1_give_s] at hf
    refine lv_iload_n hx hb dX1_give_0 rfl (lv_at hl 1 rfl) ?_
    refine lv_aload_n hx hb dX1_give_1 rfl (lv_at hl 0 rfl) ?_
    refine zget S uw_X1 hE hP 0 2 rfl rfl (by decide) tw_1_200 rfl rfl dX1_give_2 ?_
    refine lv_icmp_lt (tgt := 13) hx hb dX1_give_5 (by decide) (fun hc_1 => ?_) (fun hc_1 => ?_)
    · have hf := zz_it hf hc_1
      refine lv_aload_n hx hb dX1_give_13 rfl (lv_at hl 0 rfl) ?_
      refine lv_iload_n hx hb dX1_give_14 rfl (lv_at hl 1 rfl) ?_
      obtain ⟨r_4, he_4, hf⟩ := zz_b1_use hf
      refine zcVi (As := [.int p1]) (rest := []) S (k_X1_greatestFor l D c N t0 tA_letters xA yA tA_left tA_given tA_first t_ways t_letters t_letterCount t_left t_wordCount t_given t_first t_most xA xr x_m yA yr y_m p1 r_4 he_4) mi_X1_greatestFor tw_4_24 ⟨by show 1 + 1 ≤ (dd + 1) + 2; omega, by show 8 + (4 + 11) + 24 ≤ (dd + 1) * 23 + 60; omega⟩ ⟨rfl, rfl⟩ hP hE hX hS (ci := 1) rfl rfl (q0 := 0) rfl rfl hl.1 rfl (Nat.le_of_ble_eq_true rfl) dX1_give_15 ⟨(Nat.le_of_ble_eq_true rfl), (Nat.le_of_ble_eq_true rfl)⟩ ?_
      refine lv_istore_n (lv' := [(2, .int r_4), (0, .ref t0), (1, .int p1)]) hx hb dX1_give_18 rfl hl (by decide) rfl (fun ls hl => ?_)
      refine lv_aload_n hx hb dX1_give_19 rfl (lv_at hl 1 rfl) ?_
      refine lv_iload_n hx hb dX1_give_20 rfl (lv_at hl 2 rfl) ?_
      obtain ⟨r_5, he_5, hf⟩ := zz_b1_use hf
      refine zcVi (As := [.int p1]) (rest := []) S (k_X1_leastFor l D c N t0 tA_letters xA yA tA_left tA_given tA_first t_ways t_letters t_letterCount t_left t_wordCount t_given t_first t_most xA xr x_m yA yr y_m p1 r_5 he_5) mi_X1_leastFor tw_4_32 ⟨by show 1 + 1 ≤ (dd + 1) + 2; omega, by show 8 + (5 + 11) + 24 ≤ (dd + 1) * 23 + 60; omega⟩ ⟨rfl, rfl⟩ hP hE hX hS (ci := 1) rfl rfl (q0 := 0) rfl rfl hl.1 rfl (Nat.le_of_ble_eq_true rfl) dX1_give_21 ⟨(Nat.le_of_ble_eq_true rfl), (Nat.le_of_ble_eq_true rfl)⟩ ?_
      refine lv_istore_n (lv' := [(3, .int r_5), (2, .int r_4), (0, .ref t0), (1, .int p1)]) hx hb dX1_give_24 rfl hl (by decide) rfl (fun ls hl => ?_)
      obtain ⟨k_6, hk_6, hf⟩ := zz_let_use hf
      have hX_6 : ∀ (t_ways_22 : Int32) (t_left_23 : Nat → Int32) (t_given_24 : Nat → Int32) (t_first_25 : Nat → Int32) (H : Heap) (locs : List Loc) (ls : Array Slot), k_6 t_ways_22 t_left_23 t_given_24 t_first_25 = some (o_t_ways, o_t_left, o_t_given, o_t_first) → va_P D vwCl (wX1 c t0 tA_letters xA yA tA_left tA_given tA_first t_ways_22 t_letters t_letterCount t_left_23 t_wordCount t_given_24 t_first_25 t_most ++ wG c xA xr x_m ++ wG c yA yr y_m) H → va_D A (wX1 c t0 tA_letters xA yA tA_left tA_given tA_first t_ways_22 t_letters t_letterCount t_left_23 t_wordCount t_given_24 t_first_25 t_most ++ wG c xA xr x_m ++ wG c yA yr y_m) → va_S A s.heap H locs → lv_has ls 4 [] → W p l e (rm_X1_give (dd + 1)) s m args below meth c0 H locs 0 0 Q (F0 m 63 ls []) := by
        intro t_ways_22 t_left_23 t_given_24 t_first_25 H locs ls hf hP hD hS hl
        subst hk_6
        cases hf
        exact zRWv hQ hx hb hr hlk hP hD hS dX1_give_63
      have hL_6 : ∀ (n_6 : Nat) (v3_7 : Int32) (t_ways_8 : Int32) (t_left_9 : Nat → Int32) (t_given_10 : Nat → Int32) (t_first_11 : Nat → Int32) (H : Heap) (locs : List Loc) (ls : Array Slot), f_X1_give_L25 N k_6 (f_X1_give N dd) t_letterCount t_wordCount t_most x_m y_m p1 r_4 n_6 v3_7 t_ways_8 t_left_9 t_given_10 t_first_11 = some (o_t_ways, o_t_left, o_t_given, o_t_first) → va_P D vwCl (wX1 c t0 tA_letters xA yA tA_left tA_given tA_first t_ways_8 t_letters t_letterCount t_left_9 t_wordCount t_given_10 t_first_11 t_most ++ wG c xA xr x_m ++ wG c yA yr y_m) H → va_D A (wX1 c t0 tA_letters xA yA tA_left tA_given tA_first t_ways_8 t_letters t_letterCount t_left_9 t_wordCount t_given_10 t_first_11 t_most ++ wG c xA xr x_m ++ wG c yA yr y_m) → va_S A s.heap H locs → lv_has ls 4 [(0, .ref t0), (1, .int p1), (2, .int r_4), (3, .int v3_7)] → W p l e (rm_X1_give (dd + 1)) s m args below meth c0 H locs 0 0 Q (F0 m 25 ls []) := by
        intro n_6
        induction n_6 with
        | zero => intro v3_7 t_ways_8 t_left_9 t_given_10 t_first_11 H locs ls hf hP hD hS hl; exact zz_none hf
        | succ n_6 ih_6 =>
          intro v3_7 t_ways_8 t_left_9 t_given_10 t_first_11 H locs ls hf hP hD hS hl
          rw [f_X1_give_L25_s] at hf
          refine lv_iload_n hx hb dX1_give_25 rfl (lv_at hl 3 rfl) ?_
          refine lv_iload_n hx hb dX1_give_26 rfl (lv_at hl 2 rfl) ?_
          refine lv_icmp_gt (tgt := 63) hx hb dX1_give_27 (by decide) (fun hc_12 => ?_) (fun hc_12 => ?_)
          · have hf := zz_it hf hc_12
            exact hX_6 t_ways_8 t_left_9 t_given_10 t_first_11 H locs ls hf hP hD hS (lv_sub hl [] rfl)
          · have hf := zz_if hf hc_12
            refine lv_aload_n hx hb dX1_give_30 rfl (lv_at hl 0 rfl) ?_
            refine zget S uw_X1 hE hP 0 7 rfl rfl (by decide) tw_1_205 rfl rfl dX1_give_31 ?_
            refine lv_iload_n hx hb dX1_give_34 rfl (lv_at hl 1 rfl) ?_
            refine lv_iload_n hx hb dX1_give_35 rfl (lv_at hl 3 rfl) ?_
            obtain ⟨hin_13, hf⟩ := zz_gd_use hf
            obtain ⟨t_given_14, et_given_14, hf⟩ := zz_let_use hf
            refine zist hx hb hE hP hD hS 3 (wX1 c t0 tA_letters xA yA tA_left tA_given tA_first t_ways_8 t_letters t_letterCount t_left_9 t_wordCount t_given_14 t_first_11 t_most ++ wG c xA xr x_m ++ wG c yA yr y_m) rfl rfl et_given_14 (zz_in_ok hin_13) dX1_give_36 (fun H locs hP hD hS => ?_)
            refine lv_aload_n hx hb dX1_give_37 rfl (lv_at hl 0 rfl) ?_
            refine lv_iload_n hx hb dX1_give_38 rfl (lv_at hl 1 rfl) ?_
            refine lv_iload_n hx hb dX1_give_39 rfl (lv_at hl 3 rfl) ?_
            obtain ⟨t_left_15, he_15, hf⟩ := zz_b1_use hf
            refine zwVv (As := [.int p1, .int v3_7]) (rest := []) (wr := []) (wX1 c t0 tA_letters xA yA tA_left tA_given tA_first t_ways_8 t_letters t_letterCount t_left_15 t_wordCount t_given_14 t_first_11 t_most ++ wG c xA xr x_m ++ wG c yA yr y_m) [0, 1, 2, 3, 4, 5, 6, 7, 8, 9, 10, 11, 12, 13, 14, 15, 16, 17, 18, 19, 20, 21, 22, 23, 24, 25, 26, 27, 28, 29, 30, 31, 32, 33, 34, 35, 36, 37, 38] [] [0, 1, 2, 3, 4, 5, 6, 7, 8, 9, 10, 11, 12, 13, 14, 15, 16, 17, 18, 19, 20, 21, 22, 23, 24, 25, 26, 27, 28, 29, 30, 31, 32, 33, 34, 35, 36, 37, 38] S (k_X1_take l D c N t0 tA_letters xA yA tA_left tA_given tA_first t_ways_8 t_letters t_letterCount t_left_9 t_wordCount t_given_14 t_first_11 t_most xA xr x_m yA yr y_m p1 v3_7 t_left_15 he_15) mi_X1_take tw_4_39 ⟨by show 0 + 1 ≤ (dd + 1) + 2; omega, by show 8 + (4 + 11) + 0 ≤ (dd + 1) * 23 + 60; omega⟩ ⟨rfl, rfl⟩ hP hD hS hA rfl rfl rfl rfl (by decide) rfl rfl hE hX (ci := 1) rfl rfl (q0 := 0) rfl rfl hl.1 rfl (Nat.le_of_ble_eq_true rfl) dX1_give_40 ⟨(Nat.le_of_ble_eq_true rfl), (Nat.le_of_ble_eq_true rfl)⟩ (fun H locs hP hD hS => ?_)
            refine lv_aload_n hx hb dX1_give_43 rfl (lv_at hl 0 rfl) ?_
            refine lv_iload_n hx hb dX1_give_44 rfl (lv_at hl 1 rfl) ?_
            refine lv_iconst (v := (1 : Int32)) hx hb dX1_give_45 (by decide) ?_
            refine lv_iadd hx hb dX1_give_46 ?_
            obtain ⟨t_ways_16, t_left_17, t_given_18, t_first_19, he_19, hf⟩ := zz_b4_use hf
            refine zwVv (As := [.int (p1 + (1 : Int32))]) (rest := []) (wr := []) (wX1 c t0 tA_letters xA yA tA_left tA_given tA_first t_ways_16 t_letters t_letterCount t_left_17 t_wordCount t_given_18 t_first_19 t_most ++ wG c xA xr x_m ++ wG c yA yr y_m) [0, 1, 2, 3, 4, 5, 6, 7, 8, 9, 10, 11, 12, 13, 14, 15, 16, 17, 18, 19, 20, 21, 22, 23, 24, 25, 26, 27, 28, 29, 30, 31, 32, 33, 34, 35, 36, 37, 38] [] [0, 1, 2, 3, 4, 5, 6, 7, 8, 9, 10, 11, 12, 13, 14, 15, 16, 17, 18, 19, 20, 21, 22, 23, 24, 25, 26, 27, 28, 29, 30, 31, 32, 33, 34, 35, 36, 37, 38] S (ihd t0 tA_letters xA yA tA_left tA_given tA_first t_ways_8 t_letters t_letterCount t_left_15 t_wordCount t_given_14 t_first_11 t_most xA xr x_m yA yr y_m (p1 + (1 : Int32)) t_ways_16 t_left_17 t_given_18 t_first_19 he_19) mi_X1_give tw_4_15 ⟨by show (dd + 2) + 1 ≤ (dd + 1) + 2; omega, by show 8 + (4 + 11) + (dd * 23 + 60) ≤ (dd + 1) * 23 + 60; omega⟩ ⟨rfl, rfl⟩ hP hD hS hA rfl rfl rfl rfl (by decide) rfl rfl hE hX (ci := 1) rfl rfl (q0 := 0) rfl rfl hl.1 rfl (Nat.le_of_ble_eq_true rfl) dX1_give_47 ⟨(Nat.le_of_ble_eq_true rfl), (Nat.le_of_ble_eq_true rfl)⟩ (fun H locs hP hD hS => ?_)
            refine lv_aload_n hx hb dX1_give_50 rfl (lv_at hl 0 rfl) ?_
            refine lv_iload_n hx hb dX1_give_51 rfl (lv_at hl 1 rfl) ?_
            refine lv_iload_n hx hb dX1_give_52 rfl (lv_at hl 3 rfl) ?_
            refine lv_ineg hx hb dX1_give_53 ?_
            obtain ⟨t_left_20, he_20, hf⟩ := zz_b1_use hf
            refine zwVv (As := [.int p1, .int (-v3_7)]) (rest := []) (wr := []) (wX1 c t0 tA_letters xA yA tA_left tA_given tA_first t_ways_16 t_letters t_letterCount t_left_20 t_wordCount t_given_18 t_first_19 t_most ++ wG c xA xr x_m ++ wG c yA yr y_m) [0, 1, 2, 3, 4, 5, 6, 7, 8, 9, 10, 11, 12, 13, 14, 15, 16, 17, 18, 19, 20, 21, 22, 23, 24, 25, 26, 27, 28, 29, 30, 31, 32, 33, 34, 35, 36, 37, 38] [] [0, 1, 2, 3, 4, 5, 6, 7, 8, 9, 10, 11, 12, 13, 14, 15, 16, 17, 18, 19, 20, 21, 22, 23, 24, 25, 26, 27, 28, 29, 30, 31, 32, 33, 34, 35, 36, 37, 38] S (k_X1_take l D c N t0 tA_letters xA yA tA_left tA_given tA_first t_ways_16 t_letters t_letterCount t_left_17 t_wordCount t_given_18 t_first_19 t_most xA xr x_m yA yr y_m p1 (-v3_7) t_left_20 he_20) mi_X1_take tw_4_39 ⟨by show 0 + 1 ≤ (dd + 1) + 2; omega, by show 8 + (4 + 11) + 0 ≤ (dd + 1) * 23 + 60; omega⟩ ⟨rfl, rfl⟩ hP hD hS hA rfl rfl rfl rfl (by decide) rfl rfl hE hX (ci := 1) rfl rfl (q0 := 0) rfl rfl hl.1 rfl (Nat.le_of_ble_eq_true rfl) dX1_give_54 ⟨(Nat.le_of_ble_eq_true rfl), (Nat.le_of_ble_eq_true rfl)⟩ (fun H locs hP hD hS => ?_)
            obtain ⟨v3_21, ev3_21, hf⟩ := zz_let_use hf
            refine lv_iinc (v := v3_21) (lv' := [(3, .int v3_21), (0, .ref t0), (1, .int p1), (2, .int r_4)]) hx hb dX1_give_57 hl (k := 3) rfl (by rw [← ev3_21]; rfl) (by decide) rfl (fun ls hl => ?_)
            refine lv_goto (tgt := 25) hx hb dX1_give_60 (by decide) ?_
            exact ih_6 v3_21 t_ways_16 t_left_20 t_given_18 t_first_19 H locs ls hf hP hD hS (lv_sub hl [1, 2, 3, 0] rfl)
      exact hL_6 N r_5 t_ways t_left t_given t_first s.heap [] ls hf hP hD hS (lv_sub hl [2, 3, 1, 0] rfl)
    · have hf := zz_if hf hc_1
      refine lv_aload_n hx hb dX1_give_8 rfl (lv_at hl 0 rfl) ?_
      obtain ⟨t_ways_2, t_first_3, he_3, hf⟩ := zz_b2_use hf
      refine zwVv (As := []) (rest := []) (wr := []) (wX1 c t0 tA_letters xA yA tA_left tA_given tA_first t_ways_2 t_letters t_letterCount t_left t_wordCount t_given t_first_3 t_most ++ wG c xA xr x_m ++ wG c yA yr y_m) [0, 1, 2, 3, 4, 5, 6, 7, 8, 9, 10, 11, 12, 13, 14, 15, 16, 17, 18, 19, 20, 21, 22, 23, 24, 25, 26, 27, 28, 29, 30, 31, 32, 33, 34, 35, 36, 37, 38] [] [0, 1, 2, 3, 4, 5, 6, 7, 8, 9, 10, 11, 12, 13, 14, 15, 16, 17, 18, 19, 20, 21, 22, 23, 24, 25, 26, 27, 28, 29, 30, 31, 32, 33, 34, 35, 36, 37, 38] S (k_X1_addWay l D c N t0 tA_letters xA yA tA_left tA_given tA_first t_ways t_letters t_letterCount t_left t_wordCount t_given t_first t_most xA xr x_m yA yr y_m  t_ways_2 t_first_3 he_3) mi_X1_addWay tw_4_19 ⟨by show 1 + 1 ≤ (dd + 1) + 2; omega, by show 8 + (1 + 11) + 40 ≤ (dd + 1) * 23 + 60; omega⟩ ⟨rfl, rfl⟩ hP hD hS hA rfl rfl rfl rfl (by decide) rfl rfl hE hX (ci := 1) rfl rfl (q0 := 0) rfl rfl hl.1 rfl (Nat.le_of_ble_eq_true rfl) dX1_give_9 ⟨(Nat.le_of_ble_eq_true rfl), (Nat.le_of_ble_eq_true rfl)⟩ (fun H locs hP hD hS => ?_)
      cases hf
      exact zRWv hQ hx hb hr hlk hP hD hS dX1_give_12
def f_X1_solve_L27 (N : Nat) (k_5 : (Nat → Int32) → (Int32) → (Nat → Nat → Int32) → (Nat → Nat → Int32) → Option (Int32 × (Int32) × (Nat → Int32) × (Int32) × (Nat → Int32) × (Int32) × (Nat → Int32) × (Nat → Int32) × (Int32) × (Nat → Nat → Int32) × (Nat → Nat → Int32))) (w_days : Nat → Int32) (w_words : Nat → Int64) (w_personCount : Int32) (t_letters_2 : Nat → Int32) (t_letterCount_3 : Int32) : Nat → (Int32) → (Nat → Int32) → (Int32) → (Nat → Nat → Int32) → (Nat → Nat → Int32) → Option (Int32 × (Int32) × (Nat → Int32) × (Int32) × (Nat → Int32) × (Int32) × (Nat → Int32) × (Nat → Int32) × (Int32) × (Nat → Nat → Int32) × (Nat → Nat → Int32))
  | 0, _, _, _, _, _ => none
  | n_5 + 1, v3_6, t_left_7, t_wordCount_8, x_m_9, y_m_10 => (if w_personCount ≤ v3_6 then (k_5 t_left_7 t_wordCount_8 x_m_9 y_m_10) else zz_gd (zz_in v3_6 16) (zz_let (fun (t_left_19 : Nat → Int32) (t_wordCount_20 : Int32) (x_m_21 : Nat → Nat → Int32) (y_m_22 : Nat → Nat → Int32) => zz_let (v3_6 + (1 : Int32)) (fun v3_23 => (f_X1_solve_L27 N k_5 w_days w_words w_personCount t_letters_2 t_letterCount_3 n_5 v3_23 t_left_19 t_wordCount_20 x_m_21 y_m_22))) (fun k_18 => (if (w_words v3_6.toNatClampNeg) = (0 : Int64) then (k_18 t_left_7 t_wordCount_8 x_m_9 y_m_10) else zz_b4 (f_X1_addWord N t_letters_2 t_letterCount_3 t_left_7 t_wordCount_8 x_m_9 y_m_10 (w_words v3_6.toNatClampNeg) (w_days v3_6.toNatClampNeg)) (fun t_left_14 t_wordCount_15 x_m_16 y_m_17 => (k_18 t_left_14 t_wordCount_15 x_m_16 y_m_17))))))
theorem f_X1_solve_L27_s (N : Nat) (k_5 : (Nat → Int32) → (Int32) → (Nat → Nat → Int32) → (Nat → Nat → Int32) → Option (Int32 × (Int32) × (Nat → Int32) × (Int32) × (Nat → Int32) × (Int32) × (Nat → Int32) × (Nat → Int32) × (Int32) × (Nat → Nat → Int32) × (Nat → Nat → Int32))) (w_days : Nat → Int32) (w_words : Nat → Int64) (w_personCount : Int32) (t_letters_2 : Nat → Int32) (t_letterCount_3 : Int32) (n_5 : Nat) (v3_6 : Int32) (t_left_7 : Nat → Int32) (t_wordCount_8 : Int32) (x_m_9 : Nat → Nat → Int32) (y_m_10 : Nat → Nat → Int32) : f_X1_solve_L27 N k_5 w_days w_words w_personCount t_letters_2 t_letterCount_3 (n_5 + 1) v3_6 t_left_7 t_wordCount_8 x_m_9 y_m_10 = (if w_personCount ≤ v3_6 then (k_5 t_left_7 t_wordCount_8 x_m_9 y_m_10) else zz_gd (zz_in v3_6 16) (zz_let (fun (t_left_19 : Nat → Int32) (t_wordCount_20 : Int32) (x_m_21 : Nat → Nat → Int32) (y_m_22 : Nat → Nat → Int32) => zz_let (v3_6 + (1 : Int32)) (fun v3_23 => (f_X1_solve_L27 N k_5 w_days w_words w_personCount t_letters_2 t_letterCount_3 n_5 v3_23 t_left_19 t_wordCount_20 x_m_21 y_m_22))) (fun k_18 => (if (w_words v3_6.toNatClampNeg) = (0 : Int64) then (k_18 t_left_7 t_wordCount_8 x_m_9 y_m_10) else zz_b4 (f_X1_addWord N t_letters_2 t_letterCount_3 t_left_7 t_wordCount_8 x_m_9 y_m_10 (w_words v3_6.toNatClampNeg) (w_days v3_6.toNatClampNeg)) (fun t_left_14 t_wordCount_15 x_m_16 y_m_17 => (k_18 t_left_14 t_wordCount_15 x_m_16 y_m_17)))))) := rfl
def f_X1_solve (N : Nat) (t_letters : Nat → Int32) (t_left : Nat → Int32) (t_wordCount : Int32) (t_given : Nat → Int32) (t_first : Nat → Int32) (x_m : Nat → Nat → Int32) (y_m : Nat → Nat → Int32) (w_days : Nat → Int32) (w_words : Nat → Int64) (w_personCount : Int32) (p2 : Int32) : Option (Int32 × (Int32) × (Nat → Int32) × (Int32) × (Nat → Int32) × (Int32) × (Nat → Int32) × (Nat → Int32) × (Int32) × (Nat → Nat → Int32) × (Nat → Nat → Int32)) := zz_b3 (f_X1_findLetters N t_letters w_words w_personCount) (fun r_1 t_letters_2 t_letterCount_3 => (if r_1 = 0 then (some ((0 : Int32), (0 : Int32), t_letters_2, t_letterCount_3, t_left, t_wordCount, t_given, t_first, p2, x_m, y_m)) else zz_let (fun (t_left_24 : Nat → Int32) (t_wordCount_25 : Int32) (x_m_26 : Nat → Nat → Int32) (y_m_27 : Nat → Nat → Int32) => zz_b4 (f_X1_give N 7 (0 : Int32) t_letterCount_3 t_left_24 t_wordCount_25 t_given t_first p2 x_m_26 y_m_27 (0 : Int32)) (fun t_ways_28 t_left_29 t_given_30 t_first_31 => (some ((1 : Int32), t_ways_28, t_letters_2, t_letterCount_3, t_left_29, t_wordCount_25, t_given_30, t_first_31, p2, x_m_26, y_m_27)))) (fun k_5 => f_X1_solve_L27 N k_5 w_days w_words w_personCount t_letters_2 t_letterCount_3 N (0 : Int32) t_left (0 : Int32) x_m y_m)))
abbrev rm_X1_solve : Room := { frames := 10, cells := 0, slots := 0, locals := 244 }
theorem mi_X1_solve : zMI RX1 yX1_solve cX1_solve 4 (some .boolean) 2 := ⟨⟨tw_3_237, tw_3_238, tw_1_6, tw_3_239⟩, by decide +kernel, by decide +kernel, by decide +kernel⟩
set_option maxHeartbeats 4000000 in
set_option maxRecDepth 100000 in
theorem k_X1_solve (l : Launch) (D : va_G) (c : Nat → ClassId) (N : Nat) (t0 : Nat) (tA_letters : Nat) (xA : Nat) (yA : Nat) (tA_left : Nat) (tA_given : Nat) (tA_first : Nat) (t_ways : Int32) (t_letters : Nat → Int32) (t_letterCount : Int32) (t_left : Nat → Int32) (t_wordCount : Int32) (t_given : Nat → Int32) (t_first : Nat → Int32) (t_most : Int32) (xA_x : Nat) (xr : Nat → Nat) (x_m : Nat → Nat → Int32) (yA_x : Nat) (yr : Nat → Nat) (y_m : Nat → Nat → Int32) (w0 : Nat) (wA_numbers : Nat) (wA_syllables : Nat) (wA_days : Nat) (wA_words : Nat) (wA_parents : Nat) (wA_otherParents : Nat) (wA_kinds : Nat) (wA_hopeDays : Nat) (wA_hopeTenths : Nat) (w_numbers : Nat → Int32) (w_syllables : Nat → Int64) (w_syllableCount : Int32) (w_days : Nat → Int32) (w_words : Nat → Int64) (w_parents : Nat → Int32) (w_otherParents : Nat → Int32) (w_kinds : Nat → Int32) (w_personCount : Int32) (w_hopeDays : Nat → Int32) (w_hopeTenths : Nat → Int32) (w_hopeCount : Int32) (w_degreesTold : Int32) (p2 : Int32) (o : Int32) (o_t_ways : Int32) (o_t_letters : Nat → Int32) (o_t_letterCount : Int32) (o_t_left : Nat → Int32) (o_t_wordCount : Int32) (o_t_given : Nat → Int32) (o_t_first : Nat → Int32) (o_t_most : Int32) (o_x_m : Nat → Nat → Int32) (o_y_m : Nat → Nat → Int32) (hf : f_X1_solve N t_letters t_left t_wordCount t_given t_first x_m y_m w_days w_words w_personCount p2 = some (o, o_t_ways, o_t_letters, o_t_letterCount, o_t_left, o_t_wordCount, o_t_given, o_t_first, o_t_most, o_x_m, o_y_m)) : zMWi l D c yX1_solve cX1_solve 4 (some .boolean) rm_X1_solve (wX1 c t0 tA_letters xA yA tA_left tA_given tA_first t_ways t_letters t_letterCount t_left t_wordCount t_given t_first t_most ++ wG c xA xr x_m ++ wG c yA yr y_m ++ wX5 c w0 wA_numbers wA_syllables wA_days wA_words wA_parents wA_otherParents wA_kinds wA_hopeDays wA_hopeTenths w_numbers w_syllables w_syllableCount w_days w_words w_parents w_otherParents w_kinds w_personCount w_hopeDays w_hopeTenths w_hopeCount w_degreesTold) (wX1 c t0 tA_letters xA yA tA_left tA_given tA_first o_t_ways o_t_letters o_t_letterCount o_t_left o_t_wordCount o_t_given o_t_first o_t_most ++ wG c xA xr o_x_m ++ wG c yA yr o_y_m ++ wX5 c w0 wA_numbers wA_syllables wA_days wA_words wA_parents wA_otherParents wA_kinds wA_hopeDays wA_hopeTenths w_numbers w_syllables w_syllableCount w_days w_words w_parents w_otherParents w_kinds w_personCount w_hopeDays w_hopeTenths w_hopeCount w_degreesTold) [.ref t0, .ref w0, .int p2] o := by
  intro sz
  refine zIW (by decide) (Nat.le_of_ble_eq_true rfl) ?_
  intro p e s m args below meth c0 Q A hAe hQ hx hb hr hlk hml hts hown hP hE hD hS hA hsz hmn hX ls hl
  rw [← hAe] at hQ
  have S : CallFix p m c0 cX1_solve 4 s args zT RX1 := ⟨hx, hb, hml, hown, hts⟩
  have hl : lv_has ls 4 [(0, .ref t0), (1, .ref w0), (2, .int p2)] := hl
  unfold f_X1_solve at hf
  refine lv_aload_n hx hb dX1_solve_0 rfl (lv_at hl 0 rfl) ?_
  refine lv_iconst (v := (0 : Int32)) hx hb dX1_solve_1 (by decide) ?_
  refine zput S uw_X1 tyX1_ok nmX1 hE hP hD hS 0 0 (ty := .int) (wX1 c t0 tA_letters xA yA tA_left tA_given tA_first (0 : Int32) t_letters t_letterCount t_left t_wordCount t_given t_first t_most ++ wG c xA xr x_m ++ wG c yA yr y_m ++ wX5 c w0 wA_numbers wA_syllables wA_days wA_words wA_parents wA_otherParents wA_kinds wA_hopeDays wA_hopeTenths w_numbers w_syllables w_syllableCount w_days w_words w_parents w_otherParents w_kinds w_personCount w_hopeDays w_hopeTenths w_hopeCount w_degreesTold) rfl rfl (by decide) tw_1_197 rfl rfl (by decide +kernel) rfl rfl (Nat.le_of_ble_eq_true rfl) rfl dX1_solve_2 (fun H locs hP hD hS => ?_)
  refine lv_aload_n hx hb dX1_solve_5 rfl (lv_at hl 0 rfl) ?_
  refine lv_iload_n hx hb dX1_solve_6 rfl (lv_at hl 2 rfl) ?_
  refine zput S uw_X1 tyX1_ok nmX1 hE hP hD hS 0 9 (ty := .int) (wX1 c t0 tA_letters xA yA tA_left tA_given tA_first (0 : Int32) t_letters t_letterCount t_left t_wordCount t_given t_first p2 ++ wG c xA xr x_m ++ wG c yA yr y_m ++ wX5 c w0 wA_numbers wA_syllables wA_days wA_words wA_parents wA_otherParents wA_kinds wA_hopeDays wA_hopeTenths w_numbers w_syllables w_syllableCount w_days w_words w_parents w_otherParents w_kinds w_personCount w_hopeDays w_hopeTenths w_hopeCount w_degreesTold) rfl rfl (by decide) tw_1_207 rfl rfl (by decide +kernel) rfl rfl (Nat.le_of_ble_eq_true rfl) rfl dX1_solve_7 (fun H locs hP hD hS => ?_)
  refine lv_aload_n hx hb dX1_solve_10 rfl (lv_at hl 0 rfl) ?_
  refine lv_aload_n hx hb dX1_solve_11 rfl (lv_at hl 1 rfl) ?_
  obtain ⟨r_1, t_letters_2, t_letterCount_3, he_3, hf⟩ := zz_b3_use hf
  refine zwVi (As := [.ref w0]) (rest := []) (wr := []) (wX1 c t0 tA_letters xA yA tA_left tA_given tA_first (0 : Int32) t_letters_2 t_letterCount_3 t_left t_wordCount t_given t_first p2 ++ wG c xA xr x_m ++ wG c yA yr y_m ++ wX5 c w0 wA_numbers wA_syllables wA_days wA_words wA_parents wA_otherParents wA_kinds wA_hopeDays wA_hopeTenths w_numbers w_syllables w_syllableCount w_days w_words w_parents w_otherParents w_kinds w_personCount w_hopeDays w_hopeTenths w_hopeCount w_degreesTold) [0, 1, 2, 3, 4, 5, 6, 7, 8, 9, 10, 11, 12, 13, 14, 15, 16, 17, 18, 19, 20, 21, 22, 23, 24, 25, 26, 27, 28, 29, 30, 31, 32, 33, 34, 35, 36, 37, 38, 39, 40, 41, 42, 43, 44, 45, 46, 47, 48] [] [0, 1, 2, 3, 4, 5, 6, 7, 8, 9, 10, 11, 12, 13, 14, 15, 16, 17, 18, 19, 20, 21, 22, 23, 24, 25, 26, 27, 28, 29, 30, 31, 32, 33, 34, 35, 36, 37, 38, 39, 40, 41, 42, 43, 44, 45, 46, 47, 48] S (k_X1_findLetters l D c N t0 tA_letters xA yA tA_left tA_given tA_first (0 : Int32) t_letters t_letterCount t_left t_wordCount t_given t_first p2 xA xr x_m yA yr y_m w0 wA_numbers wA_syllables wA_days wA_words wA_parents wA_otherParents wA_kinds wA_hopeDays wA_hopeTenths w_numbers w_syllables w_syllableCount w_days w_words w_parents w_otherParents w_kinds w_personCount w_hopeDays w_hopeTenths w_hopeCount w_degreesTold  r_1 t_letters_2 t_letterCount_3 he_3) mi_X1_findLetters tw_4_0 ⟨(Nat.le_of_ble_eq_true rfl), (Nat.le_of_ble_eq_true rfl)⟩ ⟨rfl, rfl⟩ hP hD hS hA rfl rfl rfl rfl (by decide) rfl rfl hE hX (ci := 1) rfl rfl (q0 := 0) rfl rfl hl.1 rfl (Nat.le_of_ble_eq_true rfl) dX1_solve_12 ⟨(Nat.le_of_ble_eq_true rfl), (Nat.le_of_ble_eq_true rfl)⟩ (fun H locs hP hD hS => ?_)
  refine lv_if_ne (tgt := 20) hx hb dX1_solve_15 (by decide) (fun hc_4 => ?_) (fun hc_4 => ?_)
  · have hf := zz_if hf hc_4
    refine lv_aload_n hx hb dX1_solve_20 rfl (lv_at hl 0 rfl) ?_
    refine lv_iconst (v := (0 : Int32)) hx hb dX1_solve_21 (by decide) ?_
    refine zput S uw_X1 tyX1_ok nmX1 hE hP hD hS 0 6 (ty := .int) (wX1 c t0 tA_letters xA yA tA_left tA_given tA_first (0 : Int32) t_letters_2 t_letterCount_3 t_left (0 : Int32) t_given t_first p2 ++ wG c xA xr x_m ++ wG c yA yr y_m ++ wX5 c w0 wA_numbers wA_syllables wA_days wA_words wA_parents wA_otherParents wA_kinds wA_hopeDays wA_hopeTenths w_numbers w_syllables w_syllableCount w_days w_words w_parents w_otherParents w_kinds w_personCount w_hopeDays w_hopeTenths w_hopeCount w_degreesTold) rfl rfl (by decide) tw_1_204 rfl rfl (by decide +kernel) rfl rfl (Nat.le_of_ble_eq_true rfl) rfl dX1_solve_22 (fun H locs hP hD hS => ?_)
    refine lv_iconst (v := (0 : Int32)) hx hb dX1_solve_25 (by decide) ?_
    refine lv_istore_n (lv' := [(3, .int (0 : Int32)), (0, .ref t0), (1, .ref w0), (2, .int p2)]) hx hb dX1_solve_26 rfl hl (by decide) rfl (fun ls hl => ?_)
    obtain ⟨k_5, hk_5, hf⟩ := zz_let_use hf
    have hX_5 : ∀ (t_left_24 : Nat → Int32) (t_wordCount_25 : Int32) (x_m_26 : Nat → Nat → Int32) (y_m_27 : Nat → Nat → Int32) (H : Heap) (locs : List Loc) (ls : Array Slot), k_5 t_left_24 t_wordCount_25 x_m_26 y_m_27 = some (o, o_t_ways, o_t_letters, o_t_letterCount, o_t_left, o_t_wordCount, o_t_given, o_t_first, o_t_most, o_x_m, o_y_m) → va_P D vwCl (wX1 c t0 tA_letters xA yA tA_left tA_given tA_first (0 : Int32) t_letters_2 t_letterCount_3 t_left_24 t_wordCount_25 t_given t_first p2 ++ wG c xA xr x_m_26 ++ wG c yA yr y_m_27 ++ wX5 c w0 wA_numbers wA_syllables wA_days wA_words wA_parents wA_otherParents wA_kinds wA_hopeDays wA_hopeTenths w_numbers w_syllables w_syllableCount w_days w_words w_parents w_otherParents w_kinds w_personCount w_hopeDays w_hopeTenths w_hopeCount w_degreesTold) H → va_D A (wX1 c t0 tA_letters xA yA tA_left tA_given tA_first (0 : Int32) t_letters_2 t_letterCount_3 t_left_24 t_wordCount_25 t_given t_first p2 ++ wG c xA xr x_m_26 ++ wG c yA yr y_m_27 ++ wX5 c w0 wA_numbers wA_syllables wA_days wA_words wA_parents wA_otherParents wA_kinds wA_hopeDays wA_hopeTenths w_numbers w_syllables w_syllableCount w_days w_words w_parents w_otherParents w_kinds w_personCount w_hopeDays w_hopeTenths w_hopeCount w_degreesTold) → va_S A s.heap H locs → lv_has ls 4 [(0, .ref t0)] → W p l e rm_X1_solve s m args below meth c0 H locs 0 0 Q (F0 m 68 ls []) := by
      intro t_left_24 t_wordCount_25 x_m_26 y_m_27 H locs ls hf hP hD hS hl
      subst hk_5
      refine lv_aload_n hx hb dX1_solve_68 rfl (lv_at hl 0 rfl) ?_
      refine lv_iconst (v := (0 : Int32)) hx hb dX1_solve_69 (by decide) ?_
      obtain ⟨t_ways_28, t_left_29, t_given_30, t_first_31, he_31, hf⟩ := zz_b4_use hf
      refine zwVv (As := [.int (0 : Int32)]) (rest := []) (wr := (wX5 c w0 wA_numbers wA_syllables wA_days wA_words wA_parents wA_otherParents wA_kinds wA_hopeDays wA_hopeTenths w_numbers w_syllables w_syllableCount w_days w_words w_parents w_otherParents w_kinds w_personCount w_hopeDays w_hopeTenths w_hopeCount w_degreesTold)) (wX1 c t0 tA_letters xA yA tA_left tA_given tA_first t_ways_28 t_letters_2 t_letterCount_3 t_left_29 t_wordCount_25 t_given_30 t_first_31 p2 ++ wG c xA xr x_m_26 ++ wG c yA yr y_m_27 ++ wX5 c w0 wA_numbers wA_syllables wA_days wA_words wA_parents wA_otherParents wA_kinds wA_hopeDays wA_hopeTenths w_numbers w_syllables w_syllableCount w_days w_words w_parents w_otherParents w_kinds w_personCount w_hopeDays w_hopeTenths w_hopeCount w_degreesTold) [0, 1, 2, 3, 4, 5, 6, 7, 8, 9, 10, 11, 12, 13, 14, 15, 16, 17, 18, 19, 20, 21, 22, 23, 24, 25, 26, 27, 28, 29, 30, 31, 32, 33, 34, 35, 36, 37, 38] [39, 40, 41, 42, 43, 44, 45, 46, 47, 48] [10, 11, 12, 13, 14, 15, 16, 17, 18, 19, 20, 21, 22, 23, 24, 25, 26, 27, 28, 29, 30, 31, 32, 33, 34, 35, 36, 37, 38, 39, 40, 41, 42, 43, 44, 45, 46, 47, 48, 0, 1, 2, 3, 4, 5, 6, 7, 8, 9] S (k_X1_give l D c N 7 t0 tA_letters xA yA tA_left tA_given tA_first (0 : Int32) t_letters_2 t_letterCount_3 t_left_24 t_wordCount_25 t_given t_first p2 xA xr x_m_26 yA yr y_m_27 (0 : Int32) t_ways_28 t_left_29 t_given_30 t_first_31 he_31) mi_X1_give tw_4_15 ⟨(Nat.le_of_ble_eq_true rfl), (Nat.le_of_ble_eq_true rfl)⟩ ⟨rfl, rfl⟩ hP hD hS hA rfl rfl rfl rfl (by decide) rfl rfl hE hX (ci := 1) rfl rfl (q0 := 0) rfl rfl hl.1 rfl (Nat.le_of_ble_eq_true rfl) dX1_solve_70 ⟨(Nat.le_of_ble_eq_true rfl), (Nat.le_of_ble_eq_true rfl)⟩ (fun H locs hP hD hS => ?_)
      refine lv_iconst (v := (1 : Int32)) hx hb dX1_solve_73 (by decide) ?_
      cases hf
      exact zRWz hQ hx hb hr hlk rfl rfl hP hD hS dX1_solve_74
    have hL_5 : ∀ (n_5 : Nat) (v3_6 : Int32) (t_left_7 : Nat → Int32) (t_wordCount_8 : Int32) (x_m_9 : Nat → Nat → Int32) (y_m_10 : Nat → Nat → Int32) (H : Heap) (locs : List Loc) (ls : Array Slot), f_X1_solve_L27 N k_5 w_days w_words w_personCount t_letters_2 t_letterCount_3 n_5 v3_6 t_left_7 t_wordCount_8 x_m_9 y_m_10 = some (o, o_t_ways, o_t_letters, o_t_letterCount, o_t_left, o_t_wordCount, o_t_given, o_t_first, o_t_most, o_x_m, o_y_m) → va_P D vwCl (wX1 c t0 tA_letters xA yA tA_left tA_given tA_first (0 : Int32) t_letters_2 t_letterCount_3 t_left_7 t_wordCount_8 t_given t_first p2 ++ wG c xA xr x_m_9 ++ wG c yA yr y_m_10 ++ wX5 c w0 wA_numbers wA_syllables wA_days wA_words wA_parents wA_otherParents wA_kinds wA_hopeDays wA_hopeTenths w_numbers w_syllables w_syllableCount w_days w_words w_parents w_otherParents w_kinds w_personCount w_hopeDays w_hopeTenths w_hopeCount w_degreesTold) H → va_D A (wX1 c t0 tA_letters xA yA tA_left tA_given tA_first (0 : Int32) t_letters_2 t_letterCount_3 t_left_7 t_wordCount_8 t_given t_first p2 ++ wG c xA xr x_m_9 ++ wG c yA yr y_m_10 ++ wX5 c w0 wA_numbers wA_syllables wA_days wA_words wA_parents wA_otherParents wA_kinds wA_hopeDays wA_hopeTenths w_numbers w_syllables w_syllableCount w_days w_words w_parents w_otherParents w_kinds w_personCount w_hopeDays w_hopeTenths w_hopeCount w_degreesTold) → va_S A s.heap H locs → lv_has ls 4 [(0, .ref t0), (1, .ref w0), (3, .int v3_6)] → W p l e rm_X1_solve s m args below meth c0 H locs 0 0 Q (F0 m 27 ls []) := by
      intro n_5
      induction n_5 with
      | zero => intro v3_6 t_left_7 t_wordCount_8 x_m_9 y_m_10 H locs ls hf hP hD hS hl; exact zz_none hf
      | succ n_5 ih_5 =>
        intro v3_6 t_left_7 t_wordCount_8 x_m_9 y_m_10 H locs ls hf hP hD hS hl
        rw [f_X1_solve_L27_s] at hf
        refine lv_iload_n hx hb dX1_solve_27 rfl (lv_at hl 2 rfl) ?_
        refine lv_aload_n hx hb dX1_solve_28 rfl (lv_at hl 1 rfl) ?_
        refine zget S uw_X5 hE hP 39 8 rfl rfl (by decide) tw_1_54 rfl rfl dX1_solve_29 ?_
        refine lv_icmp_ge (tgt := 68) hx hb dX1_solve_32 (by decide) (fun hc_11 => ?_) (fun hc_11 => ?_)
        · have hf := zz_it hf hc_11
          exact hX_5 t_left_7 t_wordCount_8 x_m_9 y_m_10 H locs ls hf hP hD hS (lv_sub hl [0] rfl)
        · have hf := zz_if hf hc_11
          refine lv_aload_n hx hb dX1_solve_35 rfl (lv_at hl 1 rfl) ?_
          refine zget S uw_X5 hE hP 39 4 rfl rfl (by decide) tw_1_44 rfl rfl dX1_solve_36 ?_
          refine lv_iload_n hx hb dX1_solve_39 rfl (lv_at hl 2 rfl) ?_
          obtain ⟨hin_12, hf⟩ := zz_gd_use hf
          refine zlld hx hb hE hP 43 rfl (zz_in_ok hin_12) dX1_solve_40 ?_
          refine lv_lconst (v := (0 : Int64)) hx hb dX1_solve_41 (by decide) ?_
          obtain ⟨k_18, hk_18, hf⟩ := zz_let_use hf
          have hJ_18 : ∀ (t_left_19 : Nat → Int32) (t_wordCount_20 : Int32) (x_m_21 : Nat → Nat → Int32) (y_m_22 : Nat → Nat → Int32) (H : Heap) (locs : List Loc) (ls : Array Slot), k_18 t_left_19 t_wordCount_20 x_m_21 y_m_22 = some (o, o_t_ways, o_t_letters, o_t_letterCount, o_t_left, o_t_wordCount, o_t_given, o_t_first, o_t_most, o_x_m, o_y_m) → va_P D vwCl (wX1 c t0 tA_letters xA yA tA_left tA_given tA_first (0 : Int32) t_letters_2 t_letterCount_3 t_left_19 t_wordCount_20 t_given t_first p2 ++ wG c xA xr x_m_21 ++ wG c yA yr y_m_22 ++ wX5 c w0 wA_numbers wA_syllables wA_days wA_words wA_parents wA_otherParents wA_kinds wA_hopeDays wA_hopeTenths w_numbers w_syllables w_syllableCount w_days w_words w_parents w_otherParents w_kinds w_personCount w_hopeDays w_hopeTenths w_hopeCount w_degreesTold) H → va_D A (wX1 c t0 tA_letters xA yA tA_left tA_given tA_first (0 : Int32) t_letters_2 t_letterCount_3 t_left_19 t_wordCount_20 t_given t_first p2 ++ wG c xA xr x_m_21 ++ wG c yA yr y_m_22 ++ wX5 c w0 wA_numbers wA_syllables wA_days wA_words wA_parents wA_otherParents wA_kinds wA_hopeDays wA_hopeTenths w_numbers w_syllables w_syllableCount w_days w_words w_parents w_otherParents w_kinds w_personCount w_hopeDays w_hopeTenths w_hopeCount w_degreesTold) → va_S A s.heap H locs → lv_has ls 4 [(0, .ref t0), (1, .ref w0), (3, .int v3_6)] → W p l e rm_X1_solve s m args below meth c0 H locs 0 0 Q (F0 m 62 ls []) := by
            intro t_left_19 t_wordCount_20 x_m_21 y_m_22 H locs ls hf hP hD hS hl
            subst hk_18
            obtain ⟨v3_23, ev3_23, hf⟩ := zz_let_use hf
            refine lv_iinc (v := v3_23) (lv' := [(3, .int v3_23), (0, .ref t0), (1, .ref w0)]) hx hb dX1_solve_62 hl (k := 2) rfl (by rw [← ev3_23]; rfl) (by decide) rfl (fun ls hl => ?_)
            refine lv_goto (tgt := 27) hx hb dX1_solve_65 (by decide) ?_
            exact ih_5 v3_23 t_left_19 t_wordCount_20 x_m_21 y_m_22 H locs ls hf hP hD hS (lv_sub hl [1, 2, 0] rfl)
          refine zlc_eq (tgt := 62) hx hb dX1_solve_42 dX1_solve_43 (by decide) (fun hc_13 => ?_) (fun hc_13 => ?_)
          · have hf := zz_it hf hc_13
            exact hJ_18 t_left_7 t_wordCount_8 x_m_9 y_m_10 H locs ls hf hP hD hS (lv_sub hl [0, 1, 2] rfl)
          · have hf := zz_if hf hc_13
            refine lv_aload_n hx hb dX1_solve_46 rfl (lv_at hl 0 rfl) ?_
            refine lv_aload_n hx hb dX1_solve_47 rfl (lv_at hl 1 rfl) ?_
            refine zget S uw_X5 hE hP 39 4 rfl rfl (by decide) tw_1_44 rfl rfl dX1_solve_48 ?_
            refine lv_iload_n hx hb dX1_solve_51 rfl (lv_at hl 2 rfl) ?_
            refine zlld hx hb hE hP 43 rfl (zz_in_ok hin_12) dX1_solve_52 ?_
            refine lv_aload_n hx hb dX1_solve_53 rfl (lv_at hl 1 rfl) ?_
            refine zget S uw_X5 hE hP 39 3 rfl rfl (by decide) tw_1_41 rfl rfl dX1_solve_54 ?_
            refine lv_iload_n hx hb dX1_solve_57 rfl (lv_at hl 2 rfl) ?_
            refine zild hx hb hE hP 42 rfl (zz_in_ok hin_12) dX1_solve_58 ?_
            obtain ⟨t_left_14, t_wordCount_15, x_m_16, y_m_17, he_17, hf⟩ := zz_b4_use hf
            refine zwVv (As := [.long (w_words v3_6.toNatClampNeg), .int (w_days v3_6.toNatClampNeg)]) (rest := []) (wr := (wX5 c w0 wA_numbers wA_syllables wA_days wA_words wA_parents wA_otherParents wA_kinds wA_hopeDays wA_hopeTenths w_numbers w_syllables w_syllableCount w_days w_words w_parents w_otherParents w_kinds w_personCount w_hopeDays w_hopeTenths w_hopeCount w_degreesTold)) (wX1 c t0 tA_letters xA yA tA_left tA_given tA_first (0 : Int32) t_letters_2 t_letterCount_3 t_left_14 t_wordCount_15 t_given t_first p2 ++ wG c xA xr x_m_16 ++ wG c yA yr y_m_17 ++ wX5 c w0 wA_numbers wA_syllables wA_days wA_words wA_parents wA_otherParents wA_kinds wA_hopeDays wA_hopeTenths w_numbers w_syllables w_syllableCount w_days w_words w_parents w_otherParents w_kinds w_personCount w_hopeDays w_hopeTenths w_hopeCount w_degreesTold) [0, 1, 2, 3, 4, 5, 6, 7, 8, 9, 10, 11, 12, 13, 14, 15, 16, 17, 18, 19, 20, 21, 22, 23, 24, 25, 26, 27, 28, 29, 30, 31, 32, 33, 34, 35, 36, 37, 38] [39, 40, 41, 42, 43, 44, 45, 46, 47, 48] [10, 11, 12, 13, 14, 15, 16, 17, 18, 19, 20, 21, 22, 23, 24, 25, 26, 27, 28, 29, 30, 31, 32, 33, 34, 35, 36, 37, 38, 39, 40, 41, 42, 43, 44, 45, 46, 47, 48, 0, 1, 2, 3, 4, 5, 6, 7, 8, 9] S (k_X1_addWord l D c N t0 tA_letters xA yA tA_left tA_given tA_first (0 : Int32) t_letters_2 t_letterCount_3 t_left_7 t_wordCount_8 t_given t_first p2 xA xr x_m_9 yA yr y_m_10 (w_words v3_6.toNatClampNeg) (w_days v3_6.toNatClampNeg) t_left_14 t_wordCount_15 x_m_16 y_m_17 he_17) mi_X1_addWord tw_4_11 ⟨(Nat.le_of_ble_eq_true rfl), (Nat.le_of_ble_eq_true rfl)⟩ ⟨rfl, rfl⟩ hP hD hS hA rfl rfl rfl rfl (by decide) rfl rfl hE hX (ci := 1) rfl rfl (q0 := 0) rfl rfl hl.1 rfl (Nat.le_of_ble_eq_true rfl) dX1_solve_59 ⟨(Nat.le_of_ble_eq_true rfl), (Nat.le_of_ble_eq_true rfl)⟩ (fun H locs hP hD hS => ?_)
            exact hJ_18 t_left_14 t_wordCount_15 x_m_16 y_m_17 H locs ls hf hP hD hS (lv_sub hl [0, 1, 2] rfl)
    exact hL_5 N (0 : Int32) t_left (0 : Int32) x_m y_m H locs ls hf hP hD hS (lv_sub hl [1, 2, 0] rfl)
  · have hf := zz_it hf hc_4
    refine lv_iconst (v := (0 : Int32)) hx hb dX1_solve_18 (by decide) ?_
    cases hf
    exact zRWz hQ hx hb hr hlk rfl rfl hP hD hS dX1_solve_19
def f_X1_firstNumberOf_L11 (N : Nat) (k_2 : Option (Int32)) (t_letters : Nat → Int32) (t_letterCount : Int32) (t_first : Nat → Int32) (p1 : Int32) : Nat → (Int32) → Option (Int32)
  | 0, _ => none
  | n_2 + 1, v2_3 => (if t_letterCount ≤ v2_3 then k_2 else zz_gd (zz_in v2_3 5) ((if (t_letters v2_3.toNatClampNeg) = p1 then (some (t_first v2_3.toNatClampNeg)) else zz_let (v2_3 + (1 : Int32)) (fun v2_7 => (f_X1_firstNumberOf_L11 N k_2 t_letters t_letterCount t_first p1 n_2 v2_7)))))
theorem f_X1_firstNumberOf_L11_s (N : Nat) (k_2 : Option (Int32)) (t_letters : Nat → Int32) (t_letterCount : Int32) (t_first : Nat → Int32) (p1 : Int32) (n_2 : Nat) (v2_3 : Int32) : f_X1_firstNumberOf_L11 N k_2 t_letters t_letterCount t_first p1 (n_2 + 1) v2_3 = (if t_letterCount ≤ v2_3 then k_2 else zz_gd (zz_in v2_3 5) ((if (t_letters v2_3.toNatClampNeg) = p1 then (some (t_first v2_3.toNatClampNeg)) else zz_let (v2_3 + (1 : Int32)) (fun v2_7 => (f_X1_firstNumberOf_L11 N k_2 t_letters t_letterCount t_first p1 n_2 v2_7))))) := rfl
def f_X1_firstNumberOf (N : Nat) (t_ways : Int32) (t_letters : Nat → Int32) (t_letterCount : Int32) (t_first : Nat → Int32) (p1 : Int32) : Option (Int32) := (if t_ways = 0 then (some (-1 : Int32)) else zz_let ((some (0 : Int32))) (fun k_2 => f_X1_firstNumberOf_L11 N k_2 t_letters t_letterCount t_first p1 N (0 : Int32)))
abbrev rm_X1_firstNumberOf : Room := { frames := 0, cells := 0, slots := 0, locals := 0 }
theorem mi_X1_firstNumberOf : zMI RX1 yX1_firstNumberOf cX1_firstNumberOf 3 (some .int) 1 := ⟨⟨tw_4_44, tw_4_45, tw_1_6, tw_4_46⟩, by decide +kernel, by decide +kernel, by decide +kernel⟩
set_option maxHeartbeats 4000000 in
set_option maxRecDepth 100000 in
theorem k_X1_firstNumberOf (l : Launch) (D : va_G) (c : Nat → ClassId) (N : Nat) (t0 : Nat) (tA_letters : Nat) (xA : Nat) (yA : Nat) (tA_left : Nat) (tA_given : Nat) (tA_first : Nat) (t_ways : Int32) (t_letters : Nat → Int32) (t_letterCount : Int32) (t_left : Nat → Int32) (t_wordCount : Int32) (t_given : Nat → Int32) (t_first : Nat → Int32) (t_most : Int32) (xA_x : Nat) (xr : Nat → Nat) (x_m : Nat → Nat → Int32) (yA_x : Nat) (yr : Nat → Nat) (y_m : Nat → Nat → Int32) (p1 : Int32) (o : Int32) (hf : f_X1_firstNumberOf N t_ways t_letters t_letterCount t_first p1 = some o) : zMPi l D c yX1_firstNumberOf cX1_firstNumberOf 3 (some .int) rm_X1_firstNumberOf (wX1 c t0 tA_letters xA yA tA_left tA_given tA_first t_ways t_letters t_letterCount t_left t_wordCount t_given t_first t_most ++ wG c xA xr x_m ++ wG c yA yr y_m) [.ref t0, .int p1] o := by
  refine zIP (by decide) (Nat.le_of_ble_eq_true rfl) ?_
  intro p e s m args below meth c0 Q hQ hx hb hr hlk hml hts hown hP hE hX hS ls hl
  have S : CallFix p m c0 cX1_firstNumberOf 3 s args zT RX1 := ⟨hx, hb, hml, hown, hts⟩
  have hl : lv_has ls 3 [(0, .ref t0), (1, .int p1)] := hl
  unfold f_X1_firstNumberOf at hf
  refine lv_aload_n hx hb dX1_firstNumberOf_0 rfl (lv_at hl 0 rfl) ?_
  refine zget S uw_X1 hE hP 0 0 rfl rfl (by decide) tw_1_197 rfl rfl dX1_firstNumberOf_1 ?_
  refine lv_if_ne (tgt := 9) hx hb dX1_firstNumberOf_4 (by decide) (fun hc_1 => ?_) (fun hc_1 => ?_)
  · have hf := zz_if hf hc_1
    refine lv_iconst (v := (0 : Int32)) hx hb dX1_firstNumberOf_9 (by decide) ?_
    refine lv_istore_n (lv' := [(2, .int (0 : Int32)), (0, .ref t0), (1, .int p1)]) hx hb dX1_firstNumberOf_10 rfl hl (by decide) rfl (fun ls hl => ?_)
    obtain ⟨k_2, hk_2, hf⟩ := zz_let_use hf
    have hX_2 : ∀ (ls : Array Slot), k_2 = some o → lv_has ls 3 [] → W p l e rm_X1_firstNumberOf s m args below meth c0 s.heap [] 0 0 Q (F0 m 42 ls []) := by
      intro ls hf hl
      subst hk_2
      refine lv_iconst (v := (0 : Int32)) hx hb dX1_firstNumberOf_42 (by decide) ?_
      exact zRPi hQ hx hb hr hlk (Option.some.inj hf) dX1_firstNumberOf_43
    have hL_2 : ∀ (n_2 : Nat) (v2_3 : Int32) (ls : Array Slot), f_X1_firstNumberOf_L11 N k_2 t_letters t_letterCount t_first p1 n_2 v2_3 = some o → lv_has ls 3 [(0, .ref t0), (1, .int p1), (2, .int v2_3)] → W p l e rm_X1_firstNumberOf s m args below meth c0 s.heap [] 0 0 Q (F0 m 11 ls []) := by
      intro n_2
      induction n_2 with
      | zero => intro v2_3 ls hf hl; exact zz_none hf
      | succ n_2 ih_2 =>
        intro v2_3 ls hf hl
        rw [f_X1_firstNumberOf_L11_s] at hf
        refine lv_iload_n hx hb dX1_firstNumberOf_11 rfl (lv_at hl 2 rfl) ?_
        refine lv_aload_n hx hb dX1_firstNumberOf_12 rfl (lv_at hl 0 rfl) ?_
        refine zget S uw_X1 hE hP 0 2 rfl rfl (by decide) tw_1_200 rfl rfl dX1_firstNumberOf_13 ?_
        refine lv_icmp_ge (tgt := 42) hx hb dX1_firstNumberOf_16 (by decide) (fun hc_4 => ?_) (fun hc_4 => ?_)
        · have hf := zz_it hf hc_4
          exact hX_2 ls hf (lv_sub hl [] rfl)
        · have hf := zz_if hf hc_4
          refine lv_aload_n hx hb dX1_firstNumberOf_19 rfl (lv_at hl 0 rfl) ?_
          refine zget S uw_X1 hE hP 0 1 rfl rfl (by decide) tw_1_199 rfl rfl dX1_firstNumberOf_20 ?_
          refine lv_iload_n hx hb dX1_firstNumberOf_23 rfl (lv_at hl 2 rfl) ?_
          obtain ⟨hin_5, hf⟩ := zz_gd_use hf
          refine zild hx hb hE hP 1 rfl (zz_in_ok hin_5) dX1_firstNumberOf_24 ?_
          refine lv_iload_n hx hb dX1_firstNumberOf_25 rfl (lv_at hl 1 rfl) ?_
          refine lv_icmp_ne (tgt := 36) hx hb dX1_firstNumberOf_26 (by decide) (fun hc_6 => ?_) (fun hc_6 => ?_)
          · have hf := zz_if hf hc_6
            obtain ⟨v2_7, ev2_7, hf⟩ := zz_let_use hf
            refine lv_iinc (v := v2_7) (lv' := [(2, .int v2_7), (0, .ref t0), (1, .int p1)]) hx hb dX1_firstNumberOf_36 hl (k := 2) rfl (by rw [← ev2_7]; rfl) (by decide) rfl (fun ls hl => ?_)
            refine lv_goto (tgt := 11) hx hb dX1_firstNumberOf_39 (by decide) ?_
            exact ih_2 v2_7 ls hf (lv_sub hl [1, 2, 0] rfl)
          · have hf := zz_it hf hc_6
            refine lv_aload_n hx hb dX1_firstNumberOf_29 rfl (lv_at hl 0 rfl) ?_
            refine zget S uw_X1 hE hP 0 8 rfl rfl (by decide) tw_1_206 rfl rfl dX1_firstNumberOf_30 ?_
            refine lv_iload_n hx hb dX1_firstNumberOf_33 rfl (lv_at hl 2 rfl) ?_
            refine zild hx hb hE hP 4 rfl (zz_in_ok hin_5) dX1_firstNumberOf_34 ?_
            exact zRPi hQ hx hb hr hlk (Option.some.inj hf) dX1_firstNumberOf_35
    exact hL_2 N (0 : Int32) ls hf (lv_sub hl [1, 2, 0] rfl)
  · have hf := zz_it hf hc_1
    refine lv_iconst (v := (-1 : Int32)) hx hb dX1_firstNumberOf_7 (by decide) ?_
    exact zRPi hQ hx hb hr hlk (Option.some.inj hf) dX1_firstNumberOf_8
def f_X4_isMissing (N : Nat) (s_size : Nat → Int32) (j : Nat) : Option (Int32) := (if (s_size j) = (-1 : Int32) then (some (1 : Int32)) else (some (0 : Int32)))
abbrev rm_X4_isMissing : Room := { frames := 0, cells := 0, slots := 0, locals := 0 }
theorem mi_X4_isMissing : zMI RX4 yX4_isMissing cX4_isMissing 1 (some .boolean) 0 := ⟨⟨tw_4_115, tw_4_116, tw_1_7, tw_4_117⟩, by decide +kernel, by decide +kernel, by decide +kernel⟩
set_option maxHeartbeats 4000000 in
set_option maxRecDepth 100000 in
theorem k_X4_isMissing (l : Launch) (D : va_G) (c : Nat → ClassId) (N : Nat) (sA : Nat) (so : Nat → Nat) (si : Nat → Nat) (s_lane : Nat → Int32) (s_size : Nat → Int32) (s_items : Nat → Nat → Int32) (j : Nat) (hj : j < 3)  (o : Int32) (hf : f_X4_isMissing N s_size j = some o) : zMPi l D c yX4_isMissing cX4_isMissing 1 (some .boolean) rm_X4_isMissing (wS c sA so si s_lane s_size s_items) [.ref (so j)] o := by
  refine zIP (by decide) (Nat.le_of_ble_eq_true rfl) ?_
  intro p e s m args below meth c0 Q hQ hx hb hr hlk hml hts hown hP hE hX hS ls hl
  have S : CallFix p m c0 cX4_isMissing 1 s args zT RX4 := ⟨hx, hb, hml, hown, hts⟩
  have hl : lv_has ls 1 [(0, .ref (so j))] := hl
  unfold f_X4_isMissing at hf
  refine lv_aload_n hx hb dX4_isMissing_0 rfl (lv_at hl 0 rfl) ?_
  refine zget S uw_X4 hE hP (1 + j) 2 (wS_o hj) rfl (by decide) tw_2_0 rfl rfl dX4_isMissing_1 ?_
  refine lv_iconst (v := (-1 : Int32)) hx hb dX4_isMissing_4 (by decide) ?_
  refine lv_icmp_ne (tgt := 12) hx hb dX4_isMissing_5 (by decide) (fun hc_1 => ?_) (fun hc_1 => ?_)
  · have hf := zz_if hf hc_1
    refine lv_iconst (v := (0 : Int32)) hx hb dX4_isMissing_12 (by decide) ?_
    exact zRPz hQ hx hb hr hlk rfl (Option.some.inj hf) dX4_isMissing_13
  · have hf := zz_it hf hc_1
    refine lv_iconst (v := (1 : Int32)) hx hb dX4_isMissing_8 (by decide) ?_
    refine lv_goto (tgt := 13) hx hb dX4_isMissing_9 (by decide) ?_
    exact zRPz hQ hx hb hr hlk rfl (Option.some.inj hf) dX4_isMissing_13
def f_X4_begin_L12 (N : Nat) (k_3 : (Nat → Nat → Int32) → Option ((Nat → Int32) × (Nat → Int32) × (Nat → Nat → Int32))) (j : Nat) : Nat → (Int32) → (Nat → Nat → Int32) → Option ((Nat → Int32) × (Nat → Int32) × (Nat → Nat → Int32))
  | 0, _, _ => none
  | n_3 + 1, v3_4, s_items_5 => (if (20 : Int32) ≤ v3_4 then (k_3 s_items_5) else zz_gd (zz_in v3_4 20) (zz_let (upd (s_items_5 j) v3_4.toNatClampNeg (0 : Int32)) (fun row_8 => zz_let (zz_up2 s_items_5 j row_8) (fun s_items_9 => zz_let (v3_4 + (1 : Int32)) (fun v3_10 => (f_X4_begin_L12 N k_3 j n_3 v3_10 s_items_9))))))
theorem f_X4_begin_L12_s (N : Nat) (k_3 : (Nat → Nat → Int32) → Option ((Nat → Int32) × (Nat → Int32) × (Nat → Nat → Int32))) (j : Nat) (n_3 : Nat) (v3_4 : Int32) (s_items_5 : Nat → Nat → Int32) : f_X4_begin_L12 N k_3 j (n_3 + 1) v3_4 s_items_5 = (if (20 : Int32) ≤ v3_4 then (k_3 s_items_5) else zz_gd (zz_in v3_4 20) (zz_let (upd (s_items_5 j) v3_4.toNatClampNeg (0 : Int32)) (fun row_8 => zz_let (zz_up2 s_items_5 j row_8) (fun s_items_9 => zz_let (v3_4 + (1 : Int32)) (fun v3_10 => (f_X4_begin_L12 N k_3 j n_3 v3_10 s_items_9)))))) := rfl
def f_X4_begin (N : Nat) (s_lane : Nat → Int32) (s_size : Nat → Int32) (s_items : Nat → Nat → Int32) (j : Nat) (p1 : Int32) (p2 : Int32) : Option ((Nat → Int32) × (Nat → Int32) × (Nat → Nat → Int32)) := zz_let (zz_up2 s_lane j p1) (fun s_lane_1 => zz_let (zz_up2 s_size j p2) (fun s_size_2 => zz_let (fun (s_items_11 : Nat → Nat → Int32) => (some (s_lane_1, s_size_2, s_items_11))) (fun k_3 => f_X4_begin_L12 N k_3 j N (0 : Int32) s_items)))
abbrev rm_X4_begin : Room := { frames := 0, cells := 0, slots := 0, locals := 0 }
theorem mi_X4_begin : zMI RX4 yX4_begin cX4_begin 4 none 2 := ⟨⟨tw_4_103, tw_4_104, tw_1_7, tw_4_105⟩, by decide +kernel, by decide +kernel, by decide +kernel⟩
set_option maxHeartbeats 4000000 in
set_option maxRecDepth 100000 in
theorem k_X4_begin (l : Launch) (D : va_G) (c : Nat → ClassId) (N : Nat) (sA : Nat) (so : Nat → Nat) (si : Nat → Nat) (s_lane : Nat → Int32) (s_size : Nat → Int32) (s_items : Nat → Nat → Int32) (j : Nat) (hj : j < 3) (p1 : Int32) (p2 : Int32) (o_s_lane : Nat → Int32) (o_s_size : Nat → Int32) (o_s_items : Nat → Nat → Int32) (hf : f_X4_begin N s_lane s_size s_items j p1 p2 = some (o_s_lane, o_s_size, o_s_items)) : zMWv l D c yX4_begin cX4_begin 4 none rm_X4_begin (wS c sA so si s_lane s_size s_items) (wS c sA so si o_s_lane o_s_size o_s_items) [.ref (so j), .int p1, .int p2] := by
  intro sz
  refine zIW (by decide) (Nat.le_of_ble_eq_true rfl) ?_
  intro p e s m args below meth c0 Q A hAe hQ hx hb hr hlk hml hts hown hP hE hD hS hA hsz hmn hX ls hl
  rw [← hAe] at hQ
  have S : CallFix p m c0 cX4_begin 4 s args zT RX4 := ⟨hx, hb, hml, hown, hts⟩
  have hl : lv_has ls 4 [(0, .ref (so j)), (1, .int p1), (2, .int p2)] := hl
  unfold f_X4_begin at hf
  refine lv_aload_n hx hb dX4_begin_0 rfl (lv_at hl 0 rfl) ?_
  refine lv_iload_n hx hb dX4_begin_1 rfl (lv_at hl 1 rfl) ?_
  obtain ⟨s_lane_1, es_lane_1, hf⟩ := zz_let_use hf
  have hjb := hj
  refine zput S uw_X4 tyX4_ok nmX4 hE hP hD hS (1 + j) 1 (ty := .int) (wS c sA so si s_lane_1 s_size s_items) (wS_o hj) rfl (by decide) tw_1_238 rfl rfl (by decide +kernel) rfl rfl (Nat.le_of_ble_eq_true rfl) (wS_lane hj es_lane_1) dX4_begin_2 (fun H locs hP hD hS => ?_)
  refine lv_aload_n hx hb dX4_begin_5 rfl (lv_at hl 0 rfl) ?_
  refine lv_iload_n hx hb dX4_begin_6 rfl (lv_at hl 2 rfl) ?_
  obtain ⟨s_size_2, es_size_2, hf⟩ := zz_let_use hf
  have hjb := hj
  refine zput S uw_X4 tyX4_ok nmX4 hE hP hD hS (1 + j) 2 (ty := .int) (wS c sA so si s_lane_1 s_size_2 s_items) (wS_o hj) rfl (by decide) tw_2_0 rfl rfl (by decide +kernel) rfl rfl (Nat.le_of_ble_eq_true rfl) (wS_size hj es_size_2) dX4_begin_7 (fun H locs hP hD hS => ?_)
  refine lv_iconst (v := (0 : Int32)) hx hb dX4_begin_10 (by decide) ?_
  refine lv_istore_n (lv' := [(3, .int (0 : Int32)), (0, .ref (so j)), (1, .int p1), (2, .int p2)]) hx hb dX4_begin_11 rfl hl (by decide) rfl (fun ls hl => ?_)
  obtain ⟨k_3, hk_3, hf⟩ := zz_let_use hf
  have hX_3 : ∀ (s_items_11 : Nat → Nat → Int32) (H : Heap) (locs : List Loc) (ls : Array Slot), k_3 s_items_11 = some (o_s_lane, o_s_size, o_s_items) → va_P D vwCl (wS c sA so si s_lane_1 s_size_2 s_items_11) H → va_D A (wS c sA so si s_lane_1 s_size_2 s_items_11) → va_S A s.heap H locs → lv_has ls 4 [] → W p l e rm_X4_begin s m args below meth c0 H locs 0 0 Q (F0 m 31 ls []) := by
    intro s_items_11 H locs ls hf hP hD hS hl
    subst hk_3
    cases hf
    exact zRWv hQ hx hb hr hlk hP hD hS dX4_begin_31
  have hL_3 : ∀ (n_3 : Nat) (v3_4 : Int32) (s_items_5 : Nat → Nat → Int32) (H : Heap) (locs : List Loc) (ls : Array Slot), f_X4_begin_L12 N k_3 j n_3 v3_4 s_items_5 = some (o_s_lane, o_s_size, o_s_items) → va_P D vwCl (wS c sA so si s_lane_1 s_size_2 s_items_5) H → va_D A (wS c sA so si s_lane_1 s_size_2 s_items_5) → va_S A s.heap H locs → lv_has ls 4 [(0, .ref (so j)), (3, .int v3_4)] → W p l e rm_X4_begin s m args below meth c0 H locs 0 0 Q (F0 m 12 ls []) := by
    intro n_3
    induction n_3 with
    | zero => intro v3_4 s_items_5 H locs ls hf hP hD hS hl; exact zz_none hf
    | succ n_3 ih_3 =>
      intro v3_4 s_items_5 H locs ls hf hP hD hS hl
      rw [f_X4_begin_L12_s] at hf
      refine lv_iload_n hx hb dX4_begin_12 rfl (lv_at hl 1 rfl) ?_
      refine lv_bipush (v := (20 : Int32)) hx hb dX4_begin_13 (by decide) ?_
      refine lv_icmp_ge (tgt := 31) hx hb dX4_begin_15 (by decide) (fun hc_6 => ?_) (fun hc_6 => ?_)
      · have hf := zz_it hf hc_6
        exact hX_3 s_items_5 H locs ls hf hP hD hS (lv_sub hl [] rfl)
      · have hf := zz_if hf hc_6
        refine lv_aload_n hx hb dX4_begin_18 rfl (lv_at hl 0 rfl) ?_
        refine zget S uw_X4 hE hP (1 + j) 0 (wS_o hj) rfl (by decide) tw_1_236 rfl rfl dX4_begin_19 ?_
        refine lv_iload_n hx hb dX4_begin_22 rfl (lv_at hl 1 rfl) ?_
        refine lv_iconst (v := (0 : Int32)) hx hb dX4_begin_23 (by decide) ?_
        obtain ⟨hin_7, hf⟩ := zz_gd_use hf
        obtain ⟨row_8, erow_8, hf⟩ := zz_let_use hf
        obtain ⟨s_items_9, es_items_9, hf⟩ := zz_let_use hf
        have hjb := hj
        refine zist hx hb hE hP hD hS (4 + j) (wS c sA so si s_lane_1 s_size_2 s_items_9) (wS_i hj) (wS_items hj es_items_9) erow_8 (zz_in_ok hin_7) dX4_begin_24 (fun H locs hP hD hS => ?_)
        obtain ⟨v3_10, ev3_10, hf⟩ := zz_let_use hf
        refine lv_iinc (v := v3_10) (lv' := [(3, .int v3_10), (0, .ref (so j))]) hx hb dX4_begin_25 hl (k := 1) rfl (by rw [← ev3_10]; rfl) (by decide) rfl (fun ls hl => ?_)
        refine lv_goto (tgt := 12) hx hb dX4_begin_28 (by decide) ?_
        exact ih_3 v3_10 s_items_9 H locs ls hf hP hD hS (lv_sub hl [1, 0] rfl)
  exact hL_3 N (0 : Int32) s_items H locs ls hf hP hD hS (lv_sub hl [1, 0] rfl)
def f_X4_hasPlaces (N : Nat) (s_size : Nat → Int32) (j : Nat) (p1 : Int32) (p2 : Int32) : Option (Int32) := (if p1 < 0 then (some (0 : Int32)) else (if p2 < 0 then (some (0 : Int32)) else (if (s_size j) < p1 then (some (0 : Int32)) else (if ((s_size j) - p1) < p2 then (some (0 : Int32)) else (some (1 : Int32))))))
abbrev rm_X4_hasPlaces : Room := { frames := 0, cells := 0, slots := 0, locals := 0 }
theorem mi_X4_hasPlaces : zMI RX4 yX4_hasPlaces cX4_hasPlaces 3 (some .boolean) 2 := ⟨⟨tw_4_119, tw_4_120, tw_1_7, tw_4_121⟩, by decide +kernel, by decide +kernel, by decide +kernel⟩
set_option maxHeartbeats 4000000 in
set_option maxRecDepth 100000 in
theorem k_X4_hasPlaces (l : Launch) (D : va_G) (c : Nat → ClassId) (N : Nat) (sA : Nat) (so : Nat → Nat) (si : Nat → Nat) (s_lane : Nat → Int32) (s_size : Nat → Int32) (s_items : Nat → Nat → Int32) (j : Nat) (hj : j < 3) (p1 : Int32) (p2 : Int32) (o : Int32) (hf : f_X4_hasPlaces N s_size j p1 p2 = some o) : zMPi l D c yX4_hasPlaces cX4_hasPlaces 3 (some .boolean) rm_X4_hasPlaces (wS c sA so si s_lane s_size s_items) [.ref (so j), .int p1, .int p2] o := by
  refine zIP (by decide) (Nat.le_of_ble_eq_true rfl) ?_
  intro p e s m args below meth c0 Q hQ hx hb hr hlk hml hts hown hP hE hX hS ls hl
  have S : CallFix p m c0 cX4_hasPlaces 3 s args zT RX4 := ⟨hx, hb, hml, hown, hts⟩
  have hl : lv_has ls 3 [(0, .ref (so j)), (1, .int p1), (2, .int p2)] := hl
  unfold f_X4_hasPlaces at hf
  refine lv_iload_n hx hb dX4_hasPlaces_0 rfl (lv_at hl 1 rfl) ?_
  refine lv_if_lt (tgt := 30) hx hb dX4_hasPlaces_1 (by decide) (fun hc_1 => ?_) (fun hc_1 => ?_)
  · have hf := zz_it hf hc_1
    refine lv_iconst (v := (0 : Int32)) hx hb dX4_hasPlaces_30 (by decide) ?_
    exact zRPz hQ hx hb hr hlk rfl (Option.some.inj hf) dX4_hasPlaces_31
  · have hf := zz_if hf hc_1
    refine lv_iload_n hx hb dX4_hasPlaces_4 rfl (lv_at hl 2 rfl) ?_
    refine lv_if_lt (tgt := 30) hx hb dX4_hasPlaces_5 (by decide) (fun hc_2 => ?_) (fun hc_2 => ?_)
    · have hf := zz_it hf hc_2
      refine lv_iconst (v := (0 : Int32)) hx hb dX4_hasPlaces_30 (by decide) ?_
      exact zRPz hQ hx hb hr hlk rfl (Option.some.inj hf) dX4_hasPlaces_31
    · have hf := zz_if hf hc_2
      refine lv_iload_n hx hb dX4_hasPlaces_8 rfl (lv_at hl 1 rfl) ?_
      refine lv_aload_n hx hb dX4_hasPlaces_9 rfl (lv_at hl 0 rfl) ?_
      refine zget S uw_X4 hE hP (1 + j) 2 (wS_o hj) rfl (by decide) tw_2_0 rfl rfl dX4_hasPlaces_10 ?_
      refine lv_icmp_gt (tgt := 30) hx hb dX4_hasPlaces_13 (by decide) (fun hc_3 => ?_) (fun hc_3 => ?_)
      · have hf := zz_it hf hc_3
        refine lv_iconst (v := (0 : Int32)) hx hb dX4_hasPlaces_30 (by decide) ?_
        exact zRPz hQ hx hb hr hlk rfl (Option.some.inj hf) dX4_hasPlaces_31
      · have hf := zz_if hf hc_3
        refine lv_iload_n hx hb dX4_hasPlaces_16 rfl (lv_at hl 2 rfl) ?_
        refine lv_aload_n hx hb dX4_hasPlaces_17 rfl (lv_at hl 0 rfl) ?_
        refine zget S uw_X4 hE hP (1 + j) 2 (wS_o hj) rfl (by decide) tw_2_0 rfl rfl dX4_hasPlaces_18 ?_
        refine lv_iload_n hx hb dX4_hasPlaces_21 rfl (lv_at hl 1 rfl) ?_
        refine lv_isub hx hb dX4_hasPlaces_22 ?_
        refine lv_icmp_gt (tgt := 30) hx hb dX4_hasPlaces_23 (by decide) (fun hc_4 => ?_) (fun hc_4 => ?_)
        · have hf := zz_it hf hc_4
          refine lv_iconst (v := (0 : Int32)) hx hb dX4_hasPlaces_30 (by decide) ?_
          exact zRPz hQ hx hb hr hlk rfl (Option.some.inj hf) dX4_hasPlaces_31
        · have hf := zz_if hf hc_4
          refine lv_iconst (v := (1 : Int32)) hx hb dX4_hasPlaces_26 (by decide) ?_
          refine lv_goto (tgt := 31) hx hb dX4_hasPlaces_27 (by decide) ?_
          exact zRPz hQ hx hb hr hlk rfl (Option.some.inj hf) dX4_hasPlaces_31
def f_X4_put (N : Nat) (s_lane : Nat → Int32) (s_items : Nat → Nat → Int32) (j : Nat) (p1 : Int32) (p2 : Int32) : Option ((Nat → Nat → Int32)) := (if (s_lane j) = 0 then zz_gd (zz_in p1 20) (zz_let (upd (s_items j) p1.toNatClampNeg p2.toInt8.toInt32) (fun row_10 => zz_let (zz_up2 s_items j row_10) (fun s_items_11 => (some s_items_11)))) else (if (s_lane j) = (1 : Int32) then zz_gd (zz_in p1 20) (zz_let (upd (s_items j) p1.toNatClampNeg p2.toInt16.toInt32) (fun row_7 => zz_let (zz_up2 s_items j row_7) (fun s_items_8 => (some s_items_8)))) else zz_gd (zz_in p1 20) (zz_let (upd (s_items j) p1.toNatClampNeg p2) (fun row_4 => zz_let (zz_up2 s_items j row_4) (fun s_items_5 => (some s_items_5))))))
abbrev rm_X4_put : Room := { frames := 0, cells := 0, slots := 0, locals := 0 }
theorem mi_X4_put : zMI RX4 yX4_put cX4_put 3 none 2 := ⟨⟨tw_4_123, tw_4_124, tw_1_7, tw_4_125⟩, by decide +kernel, by decide +kernel, by decide +kernel⟩
set_option maxHeartbeats 4000000 in
set_option maxRecDepth 100000 in
theorem k_X4_put (l : Launch) (D : va_G) (c : Nat → ClassId) (N : Nat) (sA : Nat) (so : Nat → Nat) (si : Nat → Nat) (s_lane : Nat → Int32) (s_size : Nat → Int32) (s_items : Nat → Nat → Int32) (j : Nat) (hj : j < 3) (p1 : Int32) (p2 : Int32) (o_s_items : Nat → Nat → Int32) (hf : f_X4_put N s_lane s_items j p1 p2 = some o_s_items) : zMWv l D c yX4_put cX4_put 3 none rm_X4_put (wS c sA so si s_lane s_size s_items) (wS c sA so si s_lane s_size o_s_items) [.ref (so j), .int p1, .int p2] := by
  intro sz
  refine zIW (by decide) (Nat.le_of_ble_eq_true rfl) ?_
  intro p e s m args below meth c0 Q A hAe hQ hx hb hr hlk hml hts hown hP hE hD hS hA hsz hmn hX ls hl
  rw [← hAe] at hQ
  have S : CallFix p m c0 cX4_put 3 s args zT RX4 := ⟨hx, hb, hml, hown, hts⟩
  have hl : lv_has ls 3 [(0, .ref (so j)), (1, .int p1), (2, .int p2)] := hl
  unfold f_X4_put at hf
  refine lv_aload_n hx hb dX4_put_0 rfl (lv_at hl 0 rfl) ?_
  refine zget S uw_X4 hE hP (1 + j) 1 (wS_o hj) rfl (by decide) tw_1_238 rfl rfl dX4_put_1 ?_
  refine lv_if_ne (tgt := 18) hx hb dX4_put_4 (by decide) (fun hc_1 => ?_) (fun hc_1 => ?_)
  · have hf := zz_if hf hc_1
    refine lv_aload_n hx hb dX4_put_18 rfl (lv_at hl 0 rfl) ?_
    refine zget S uw_X4 hE hP (1 + j) 1 (wS_o hj) rfl (by decide) tw_1_238 rfl rfl dX4_put_19 ?_
    refine lv_iconst (v := (1 : Int32)) hx hb dX4_put_22 (by decide) ?_
    refine lv_icmp_ne (tgt := 37) hx hb dX4_put_23 (by decide) (fun hc_2 => ?_) (fun hc_2 => ?_)
    · have hf := zz_if hf hc_2
      refine lv_aload_n hx hb dX4_put_37 rfl (lv_at hl 0 rfl) ?_
      refine zget S uw_X4 hE hP (1 + j) 0 (wS_o hj) rfl (by decide) tw_1_236 rfl rfl dX4_put_38 ?_
      refine lv_iload_n hx hb dX4_put_41 rfl (lv_at hl 1 rfl) ?_
      refine lv_iload_n hx hb dX4_put_42 rfl (lv_at hl 2 rfl) ?_
      obtain ⟨hin_3, hf⟩ := zz_gd_use hf
      obtain ⟨row_4, erow_4, hf⟩ := zz_let_use hf
      obtain ⟨s_items_5, es_items_5, hf⟩ := zz_let_use hf
      have hjb := hj
      refine zist hx hb hE hP hD hS (4 + j) (wS c sA so si s_lane s_size s_items_5) (wS_i hj) (wS_items hj es_items_5) erow_4 (zz_in_ok hin_3) dX4_put_43 (fun H locs hP hD hS => ?_)
      cases hf
      exact zRWv hQ hx hb hr hlk hP hD hS dX4_put_44
    · have hf := zz_it hf hc_2
      refine lv_aload_n hx hb dX4_put_26 rfl (lv_at hl 0 rfl) ?_
      refine zget S uw_X4 hE hP (1 + j) 0 (wS_o hj) rfl (by decide) tw_1_236 rfl rfl dX4_put_27 ?_
      refine lv_iload_n hx hb dX4_put_30 rfl (lv_at hl 1 rfl) ?_
      refine lv_iload_n hx hb dX4_put_31 rfl (lv_at hl 2 rfl) ?_
      refine lv_i2s (v := p2.toInt16.toInt32) hx hb dX4_put_32 rfl ?_
      obtain ⟨hin_6, hf⟩ := zz_gd_use hf
      obtain ⟨row_7, erow_7, hf⟩ := zz_let_use hf
      obtain ⟨s_items_8, es_items_8, hf⟩ := zz_let_use hf
      have hjb := hj
      refine zist hx hb hE hP hD hS (4 + j) (wS c sA so si s_lane s_size s_items_8) (wS_i hj) (wS_items hj es_items_8) erow_7 (zz_in_ok hin_6) dX4_put_33 (fun H locs hP hD hS => ?_)
      refine lv_goto (tgt := 44) hx hb dX4_put_34 (by decide) ?_
      cases hf
      exact zRWv hQ hx hb hr hlk hP hD hS dX4_put_44
  · have hf := zz_it hf hc_1
    refine lv_aload_n hx hb dX4_put_7 rfl (lv_at hl 0 rfl) ?_
    refine zget S uw_X4 hE hP (1 + j) 0 (wS_o hj) rfl (by decide) tw_1_236 rfl rfl dX4_put_8 ?_
    refine lv_iload_n hx hb dX4_put_11 rfl (lv_at hl 1 rfl) ?_
    refine lv_iload_n hx hb dX4_put_12 rfl (lv_at hl 2 rfl) ?_
    refine lv_i2b (v := p2.toInt8.toInt32) hx hb dX4_put_13 rfl ?_
    obtain ⟨hin_9, hf⟩ := zz_gd_use hf
    obtain ⟨row_10, erow_10, hf⟩ := zz_let_use hf
    obtain ⟨s_items_11, es_items_11, hf⟩ := zz_let_use hf
    have hjb := hj
    refine zist hx hb hE hP hD hS (4 + j) (wS c sA so si s_lane s_size s_items_11) (wS_i hj) (wS_items hj es_items_11) erow_10 (zz_in_ok hin_9) dX4_put_14 (fun H locs hP hD hS => ?_)
    refine lv_goto (tgt := 44) hx hb dX4_put_15 (by decide) ?_
    cases hf
    exact zRWv hQ hx hb hr hlk hP hD hS dX4_put_44
def f_X4_hasOnlyDays_L2 (N : Nat) (k_1 : Option (Int32)) (s_items : Nat → Nat → Int32) (j : Nat) (p1 : Int32) (p2 : Int32) : Nat → (Int32) → Option (Int32)
  | 0, _ => none
  | n_1 + 1, v3_2 => (if p2 ≤ v3_2 then k_1 else zz_gd (zz_in (p1 + v3_2) 20) (zz_b1 (f_X6_isDay N (s_items j (p1 + v3_2).toNatClampNeg)) (fun r_5 => (if r_5 = 0 then (some (0 : Int32)) else zz_let (v3_2 + (1 : Int32)) (fun v3_7 => (f_X4_hasOnlyDays_L2 N k_1 s_items j p1 p2 n_1 v3_7))))))
theorem f_X4_hasOnlyDays_L2_s (N : Nat) (k_1 : Option (Int32)) (s_items : Nat → Nat → Int32) (j : Nat) (p1 : Int32) (p2 : Int32) (n_1 : Nat) (v3_2 : Int32) : f_X4_hasOnlyDays_L2 N k_1 s_items j p1 p2 (n_1 + 1) v3_2 = (if p2 ≤ v3_2 then k_1 else zz_gd (zz_in (p1 + v3_2) 20) (zz_b1 (f_X6_isDay N (s_items j (p1 + v3_2).toNatClampNeg)) (fun r_5 => (if r_5 = 0 then (some (0 : Int32)) else zz_let (v3_2 + (1 : Int32)) (fun v3_7 => (f_X4_hasOnlyDays_L2 N k_1 s_items j p1 p2 n_1 v3_7)))))) := rfl
def f_X4_hasOnlyDays (N : Nat) (s_items : Nat → Nat → Int32) (j : Nat) (p1 : Int32) (p2 : Int32) : Option (Int32) := zz_let ((some (1 : Int32))) (fun k_1 => f_X4_hasOnlyDays_L2 N k_1 s_items j p1 p2 N (0 : Int32))
abbrev rm_X4_hasOnlyDays : Room := { frames := 1, cells := 0, slots := 0, locals := 20 }
theorem mi_X4_hasOnlyDays : zMI RX4 yX4_hasOnlyDays cX4_hasOnlyDays 4 (some .boolean) 2 := ⟨⟨tw_4_136, tw_4_137, tw_1_7, tw_4_138⟩, by decide +kernel, by decide +kernel, by decide +kernel⟩
set_option maxHeartbeats 4000000 in
set_option maxRecDepth 100000 in
theorem k_X4_hasOnlyDays (l : Launch) (D : va_G) (c : Nat → ClassId) (N : Nat) (sA : Nat) (so : Nat → Nat) (si : Nat → Nat) (s_lane : Nat → Int32) (s_size : Nat → Int32) (s_items : Nat → Nat → Int32) (j : Nat) (hj : j < 3) (p1 : Int32) (p2 : Int32) (o : Int32) (hf : f_X4_hasOnlyDays N s_items j p1 p2 = some o) : zMPi l D c yX4_hasOnlyDays cX4_hasOnlyDays 4 (some .boolean) rm_X4_hasOnlyDays (wS c sA so si s_lane s_size s_items) [.ref (so j), .int p1, .int p2] o := by
  refine zIP (by decide) (Nat.le_of_ble_eq_true rfl) ?_
  intro p e s m args below meth c0 Q hQ hx hb hr hlk hml hts hown hP hE hX hS ls hl
  have S : CallFix p m c0 cX4_hasOnlyDays 4 s args zT RX4 := ⟨hx, hb, hml, hown, hts⟩
  have hl : lv_has ls 4 [(0, .ref (so j)), (1, .int p1), (2, .int p2)] := hl
  unfold f_X4_hasOnlyDays at hf
  refine lv_iconst (v := (0 : Int32)) hx hb dX4_hasOnlyDays_0 (by decide) ?_
  refine lv_istore_n (lv' := [(3, .int (0 : Int32)), (0, .ref (so j)), (1, .int p1), (2, .int p2)]) hx hb dX4_hasOnlyDays_1 rfl hl (by decide) rfl (fun ls hl => ?_)
  obtain ⟨k_1, hk_1, hf⟩ := zz_let_use hf
  have hX_1 : ∀ (ls : Array Slot), k_1 = some o → lv_has ls 4 [] → W p l e rm_X4_hasOnlyDays s m args below meth c0 s.heap [] 0 0 Q (F0 m 29 ls []) := by
    intro ls hf hl
    subst hk_1
    refine lv_iconst (v := (1 : Int32)) hx hb dX4_hasOnlyDays_29 (by decide) ?_
    exact zRPz hQ hx hb hr hlk rfl (Option.some.inj hf) dX4_hasOnlyDays_30
  have hL_1 : ∀ (n_1 : Nat) (v3_2 : Int32) (ls : Array Slot), f_X4_hasOnlyDays_L2 N k_1 s_items j p1 p2 n_1 v3_2 = some o → lv_has ls 4 [(0, .ref (so j)), (1, .int p1), (2, .int p2), (3, .int v3_2)] → W p l e rm_X4_hasOnlyDays s m args below meth c0 s.heap [] 0 0 Q (F0 m 2 ls []) := by
    intro n_1
    induction n_1 with
    | zero => intro v3_2 ls hf hl; exact zz_none hf
    | succ n_1 ih_1 =>
      intro v3_2 ls hf hl
      rw [f_X4_hasOnlyDays_L2_s] at hf
      refine lv_iload_n hx hb dX4_hasOnlyDays_2 rfl (lv_at hl 3 rfl) ?_
      refine lv_iload_n hx hb dX4_hasOnlyDays_3 rfl (lv_at hl 2 rfl) ?_
      refine lv_icmp_ge (tgt := 29) hx hb dX4_hasOnlyDays_4 (by decide) (fun hc_3 => ?_) (fun hc_3 => ?_)
      · have hf := zz_it hf hc_3
        exact hX_1 ls hf (lv_sub hl [] rfl)
      · have hf := zz_if hf hc_3
        refine lv_aload_n hx hb dX4_hasOnlyDays_7 rfl (lv_at hl 0 rfl) ?_
        refine zget S uw_X4 hE hP (1 + j) 0 (wS_o hj) rfl (by decide) tw_1_236 rfl rfl dX4_hasOnlyDays_8 ?_
        refine lv_iload_n hx hb dX4_hasOnlyDays_11 rfl (lv_at hl 1 rfl) ?_
        refine lv_iload_n hx hb dX4_hasOnlyDays_12 rfl (lv_at hl 3 rfl) ?_
        refine lv_iadd hx hb dX4_hasOnlyDays_13 ?_
        obtain ⟨hin_4, hf⟩ := zz_gd_use hf
        refine zild hx hb hE hP (4 + j) (wS_i hj) (zz_in_ok hin_4) dX4_hasOnlyDays_14 ?_
        obtain ⟨r_5, he_5, hf⟩ := zz_b1_use hf
        refine zcNi (As := [.int (s_items j (p1 + v3_2).toNatClampNeg)]) (rest := []) S (k_X6_isDay l D c N  (s_items j (p1 + v3_2).toNatClampNeg) r_5 he_5) mi_X6_isDay tn_X4_22 ⟨(Nat.le_of_ble_eq_true rfl), (Nat.le_of_ble_eq_true rfl)⟩ ⟨rfl, rfl⟩ (zpnil) hE hX hS rfl hl.1 rfl (Nat.le_of_ble_eq_true rfl) dX4_hasOnlyDays_15 ⟨(Nat.le_of_ble_eq_true rfl), (Nat.le_of_ble_eq_true rfl)⟩ ?_
        refine lv_if_ne (tgt := 23) hx hb dX4_hasOnlyDays_18 (by decide) (fun hc_6 => ?_) (fun hc_6 => ?_)
        · have hf := zz_if hf hc_6
          obtain ⟨v3_7, ev3_7, hf⟩ := zz_let_use hf
          refine lv_iinc (v := v3_7) (lv' := [(3, .int v3_7), (0, .ref (so j)), (1, .int p1), (2, .int p2)]) hx hb dX4_hasOnlyDays_23 hl (k := 3) rfl (by rw [← ev3_7]; rfl) (by decide) rfl (fun ls hl => ?_)
          refine lv_goto (tgt := 2) hx hb dX4_hasOnlyDays_26 (by decide) ?_
          exact ih_1 v3_7 ls hf (lv_sub hl [1, 2, 3, 0] rfl)
        · have hf := zz_it hf hc_6
          refine lv_iconst (v := (0 : Int32)) hx hb dX4_hasOnlyDays_21 (by decide) ?_
          exact zRPz hQ hx hb hr hlk rfl (Option.some.inj hf) dX4_hasOnlyDays_22
  exact hL_1 N (0 : Int32) ls hf (lv_sub hl [1, 2, 3, 0] rfl)
