theorem zAOA_spec {s : State} {args : Array Value} (h : (Cond.arrayOver (.array .int)).before args s = true) : ∃ comp cc k, s.vm.findClass (FieldType.array .int).toString = some comp ∧ s.vm.classes[cc]? = some k ∧ k.kind = .array comp (.array .int) ∧ s.vm.findClass ("[" ++ (FieldType.array .int).toString) = some cc := by
  simp only [Cond.before, Cond.holds, Cond.value, beq_iff_eq] at h
  cases hc : s.vm.findClass (FieldType.array .int).toString with
  | none => simp [hc] at h
  | some comp =>
    simp only [hc, Option.bind_some, Option.bind_eq_some_iff, Option.map_eq_some_iff] at h
    obtain ⟨cc, hi, k, hk, hb⟩ := h
    obtain ⟨hlt, hp, -⟩ := Array.findIdx?_eq_some_iff_getElem.mp hi
    have hkk : s.vm.classes[cc] = k := (Array.getElem?_eq_some_iff.mp hk).2
    rw [hkk] at hp
    cases hkind : k.kind with
    | array component ty =>
      rw [hkind] at hb hp
      simp at hb hp
      exact ⟨comp, cc, k, rfl, hk, by rw [hkind, hp, hb.1], hb.2⟩
    | _ => rw [hkind] at hb; simp at hb
def zTm (i : Nat) : Term := .string "SumNames$Reader" ([66, 75, 85, 96, 101, 106, 111, 116].getD i 0)
set_option maxHeartbeats 4000000 in
set_option maxRecDepth 100000 in
theorem zenv {s : State} {b : Nat} (hts0 : ∀ w ∈ lw_tbl, w.before #[Value.ref b] s = true) (hgv : (Jvm.Cond.and given_1 narrow_1).before #[Value.ref b] s = true) : ∃ (D : va_G) (c : Nat → ClassId), zE D c s ∧ zX c (fun q => s.heap.size ≤ q) s s.heap := by
  have hs := flat_of_before _ hgv
  have hts : ∀ w ∈ zT, w.before #[Value.ref b] s = true := fun w h => hts0 w (List.mem_filter.mp h).1
  have htt : ∀ w ∈ tables_1, w.before #[Value.ref b] s = true := fun w h => hts0 w (List.mem_append_right _ h)
  have hA : ∀ q : Nat, q < s.heap.size → ¬ (fun q : Nat => s.heap.size ≤ q) q := fun q h => Nat.not_le.mpr h
  obtain ⟨d0, i0, hk0⟩ := u_known (C := RX0) (T := TX0) (N := 8) (n := 8) htt uv_X0 (hts _ tw_1_143)
  obtain ⟨d1, i1, hk1⟩ := u_known (C := RX1) (T := TX1) (N := 10) (n := 10) htt uv_X1 (hts _ tw_1_190)
  obtain ⟨d2, i2, hk2⟩ := u_known (C := RX2) (T := TX2) (N := 2) (n := 2) htt uv_X2 (hts _ tw_1_176)
  obtain ⟨d3, i3, hk3⟩ := u_known (C := RX3) (T := TX3) (N := 11) (n := 11) htt uv_X3 (hts _ tw_1_98)
  obtain ⟨d4, i4, hk4⟩ := u_known (C := RX4) (T := TX4) (N := 3) (n := 3) htt uv_X4 (hts _ tw_1_231)
  obtain ⟨d5, i5, hk5⟩ := u_known (C := RX5) (T := TX5) (N := 13) (n := 13) htt uv_X5 (hts _ tw_1_25)
  obtain ⟨d6, i6, hk6⟩ := u_known (C := RX6) (T := TX6) (N := 8) (n := 8) htt uv_X6 (hts _ tw_1_17)
  obtain ⟨d7, i7, hk7⟩ := u_known (C := RX7) (T := TX7) (N := 29) (n := 29) htt uv_X7 (hts _ tw_4_157)
  obtain ⟨cI, kI, pI, fI, gI, eI⟩ := Cond.arrayClass_spec (hts _ tw_1_94)
  obtain ⟨cJ, kJ, pJ, fJ, gJ, eJ⟩ := Cond.arrayClass_spec (hts _ tw_1_95)
  obtain ⟨cZ, kZ, pZ, fZ, gZ, eZ⟩ := Cond.arrayClass_spec (hts _ tw_1_188)
  have hoW : (Cond.arrayOver (.object "SumNames$World")).before #[Value.ref b] s = true := (htt _ (by unfold tables_1; exact (List.mem_append_left _ (List.mem_of_getElem? (i := 96) (by decide +kernel)))))
  have hoS : (Cond.arrayOver (.object "SumNames$Sheet")).before #[Value.ref b] s = true := (htt _ (by unfold tables_1; exact (List.mem_append_left _ (List.mem_of_getElem? (i := 230) (by decide +kernel)))))
  have hoI : (Cond.arrayOver (.array .int)).before #[Value.ref b] s = true := (htt _ (by unfold tables_1; exact (List.mem_append_left _ (List.mem_of_getElem? (i := 196) (by decide +kernel)))))
  obtain ⟨pW, cW, kW, a1, -, a2, a3, a4⟩ := Cond.arrayOver_spec hoW
  obtain ⟨pS, cS, kS, b1, -, b2, b3, b4⟩ := Cond.arrayOver_spec hoS
  obtain ⟨pG, cG, kG, d1_, d2_, d3_, d4_⟩ := zAOA_spec hoI
  have hpG : pG = cI := Option.some.inj (d1_.symm.trans fI)
  subst hpG
  have hel : ∀ j : Nat, j < 8 → (Term.elem (.static "SumNames$NameRow" "GAPS" "[I") (.int (Int32.ofNat j))).eval #[Value.ref b] s none [] s = some (.int (zGap.getD j 0)) := by
    intro j hj
    match j, hj with
    | 0, _ => exact va_eqt (hs (.eq (.elem (.static "SumNames$NameRow" "GAPS" "[I") (.int 0)) (.int 701)) (by decide +kernel))
    | 1, _ => exact va_eqt (hs (.eq (.elem (.static "SumNames$NameRow" "GAPS" "[I") (.int 1)) (.int 301)) (by decide +kernel))
    | 2, _ => exact va_eqt (hs (.eq (.elem (.static "SumNames$NameRow" "GAPS" "[I") (.int 2)) (.int 132)) (by decide +kernel))
    | 3, _ => exact va_eqt (hs (.eq (.elem (.static "SumNames$NameRow" "GAPS" "[I") (.int 3)) (.int 57)) (by decide +kernel))
    | 4, _ => exact va_eqt (hs (.eq (.elem (.static "SumNames$NameRow" "GAPS" "[I") (.int 4)) (.int 23)) (by decide +kernel))
    | 5, _ => exact va_eqt (hs (.eq (.elem (.static "SumNames$NameRow" "GAPS" "[I") (.int 5)) (.int 10)) (by decide +kernel))
    | 6, _ => exact va_eqt (hs (.eq (.elem (.static "SumNames$NameRow" "GAPS" "[I") (.int 6)) (.int 4)) (by decide +kernel))
    | 7, _ => exact va_eqt (hs (.eq (.elem (.static "SumNames$NameRow" "GAPS" "[I") (.int 7)) (.int 1)) (by decide +kernel))
  obtain ⟨tG, hG, hT⟩ := va_Tof (tm := (.static "SumNames$NameRow" "GAPS" "[I")) (ty := .int) (N := 8) (f := fun j => .int (zGap.getD j 0)) (A := fun q : Nat => s.heap.size ≤ q) (by decide) (hs (.arrayOf (.static "SumNames$NameRow" "GAPS" "[I") .int) (by decide +kernel)) (va_eqt (hs (.eq (.length (.static "SumNames$NameRow" "GAPS" "[I")) (.int 8)) (by decide +kernel))) hel hA
  have hZ1 := va_Zof (A := fun q : Nat => s.heap.size ≤ q) (C := "SumNames$NameRow") (n := "GAPS") (d := "[I") (htt _ (by unfold tables_1; exact (List.mem_append_right _ (List.mem_append_right _ (List.mem_append_left _ (List.mem_of_getElem? (i := 128) (by decide +kernel))))))) (hts _ tw_1_4) hG hA
  have hZ2 := va_Zof (A := fun q : Nat => s.heap.size ≤ q) (C := "java/lang/String") (n := "COMPACT_STRINGS") (d := "Z") (v := .int 1) (htt _ (by unfold tables_1; exact (List.mem_append_right _ (List.mem_append_left _ (List.mem_of_getElem? (i := 96) (by decide +kernel)))))) (hts _ tw_1_10) (va_eqi (hs (.eq (.static "java/lang/String" "COMPACT_STRINGS" "Z") (.int 1)) (by decide +kernel))) hA
  have hZ3 := va_Zqof (A := fun q : Nat => s.heap.size ≤ q) (C := "jdk/internal/util/Preconditions") (n := "SIOOBE_FORMATTER") (d := "Ljava/util/function/BiFunction;") (htt _ (by unfold tables_1; exact (List.mem_append_right _ (List.mem_append_left _ (List.mem_of_getElem? (i := 112) (by decide +kernel)))))) (hts _ tw_1_12) (hs (.isRef (.static "jdk/internal/util/Preconditions" "SIOOBE_FORMATTER" "Ljava/util/function/BiFunction;")) (by decide +kernel)) hA
  have hS8 := vk_Sof (N := 8) (tm := zTm) (len := zLens) (byt := zByts) (A := fun q : Nat => s.heap.size ≤ q) (args := #[Value.ref b]) (s := s) (fun i hi => by
      match i, hi with
      | 0, _ => exact (by decide)
      | 1, _ => exact (by decide)
      | 2, _ => exact (by decide)
      | 3, _ => exact (by decide)
      | 4, _ => exact (by decide)
      | 5, _ => exact (by decide)
      | 6, _ => exact (by decide)
      | 7, _ => exact (by decide))
      (fun i hi => by
      match i, hi with
      | 0, _ => exact hs (.exactly (.string "SumNames$Reader" 66) "java/lang/String") (by decide +kernel)
      | 1, _ => exact hs (.exactly (.string "SumNames$Reader" 75) "java/lang/String") (by decide +kernel)
      | 2, _ => exact hs (.exactly (.string "SumNames$Reader" 85) "java/lang/String") (by decide +kernel)
      | 3, _ => exact hs (.exactly (.string "SumNames$Reader" 96) "java/lang/String") (by decide +kernel)
      | 4, _ => exact hs (.exactly (.string "SumNames$Reader" 101) "java/lang/String") (by decide +kernel)
      | 5, _ => exact hs (.exactly (.string "SumNames$Reader" 106) "java/lang/String") (by decide +kernel)
      | 6, _ => exact hs (.exactly (.string "SumNames$Reader" 111) "java/lang/String") (by decide +kernel)
      | 7, _ => exact hs (.exactly (.string "SumNames$Reader" 116) "java/lang/String") (by decide +kernel))
      (fun i hi => by
      match i, hi with
      | 0, _ => exact hs (.eq (.field (.string "SumNames$Reader" 66) "java/lang/String" "coder" "B") (.int 0)) (by decide +kernel)
      | 1, _ => exact hs (.eq (.field (.string "SumNames$Reader" 75) "java/lang/String" "coder" "B") (.int 0)) (by decide +kernel)
      | 2, _ => exact hs (.eq (.field (.string "SumNames$Reader" 85) "java/lang/String" "coder" "B") (.int 0)) (by decide +kernel)
      | 3, _ => exact hs (.eq (.field (.string "SumNames$Reader" 96) "java/lang/String" "coder" "B") (.int 0)) (by decide +kernel)
      | 4, _ => exact hs (.eq (.field (.string "SumNames$Reader" 101) "java/lang/String" "coder" "B") (.int 0)) (by decide +kernel)
      | 5, _ => exact hs (.eq (.field (.string "SumNames$Reader" 106) "java/lang/String" "coder" "B") (.int 0)) (by decide +kernel)
      | 6, _ => exact hs (.eq (.field (.string "SumNames$Reader" 111) "java/lang/String" "coder" "B") (.int 0)) (by decide +kernel)
      | 7, _ => exact hs (.eq (.field (.string "SumNames$Reader" 116) "java/lang/String" "coder" "B") (.int 0)) (by decide +kernel))
      (fun i hi => by
      match i, hi with
      | 0, _ => exact hs (.arrayOf (.field (.string "SumNames$Reader" 66) "java/lang/String" "value" "[B") .byte) (by decide +kernel)
      | 1, _ => exact hs (.arrayOf (.field (.string "SumNames$Reader" 75) "java/lang/String" "value" "[B") .byte) (by decide +kernel)
      | 2, _ => exact hs (.arrayOf (.field (.string "SumNames$Reader" 85) "java/lang/String" "value" "[B") .byte) (by decide +kernel)
      | 3, _ => exact hs (.arrayOf (.field (.string "SumNames$Reader" 96) "java/lang/String" "value" "[B") .byte) (by decide +kernel)
      | 4, _ => exact hs (.arrayOf (.field (.string "SumNames$Reader" 101) "java/lang/String" "value" "[B") .byte) (by decide +kernel)
      | 5, _ => exact hs (.arrayOf (.field (.string "SumNames$Reader" 106) "java/lang/String" "value" "[B") .byte) (by decide +kernel)
      | 6, _ => exact hs (.arrayOf (.field (.string "SumNames$Reader" 111) "java/lang/String" "value" "[B") .byte) (by decide +kernel)
      | 7, _ => exact hs (.arrayOf (.field (.string "SumNames$Reader" 116) "java/lang/String" "value" "[B") .byte) (by decide +kernel))
      (fun i hi => by
      match i, hi with
      | 0, _ => exact hs (.eq (.length (.field (.string "SumNames$Reader" 66) "java/lang/String" "value" "[B")) (.int 6)) (by decide +kernel)
      | 1, _ => exact hs (.eq (.length (.field (.string "SumNames$Reader" 75) "java/lang/String" "value" "[B")) (.int 3)) (by decide +kernel)
      | 2, _ => exact hs (.eq (.length (.field (.string "SumNames$Reader" 85) "java/lang/String" "value" "[B")) (.int 5)) (by decide +kernel)
      | 3, _ => exact hs (.eq (.length (.field (.string "SumNames$Reader" 96) "java/lang/String" "value" "[B")) (.int 5)) (by decide +kernel)
      | 4, _ => exact hs (.eq (.length (.field (.string "SumNames$Reader" 101) "java/lang/String" "value" "[B")) (.int 4)) (by decide +kernel)
      | 5, _ => exact hs (.eq (.length (.field (.string "SumNames$Reader" 106) "java/lang/String" "value" "[B")) (.int 4)) (by decide +kernel)
      | 6, _ => exact hs (.eq (.length (.field (.string "SumNames$Reader" 111) "java/lang/String" "value" "[B")) (.int 7)) (by decide +kernel)
      | 7, _ => exact hs (.eq (.length (.field (.string "SumNames$Reader" 116) "java/lang/String" "value" "[B")) (.int 6)) (by decide +kernel))
      (fun i hi j hj => by
      match i, hi with
      | 0, _ =>
        match j, hj with
        | 0, _ => exact hs (.eq (.elem (.field (.string "SumNames$Reader" 66) "java/lang/String" "value" "[B") (.int 0)) (.int 108)) (by decide +kernel)
        | 1, _ => exact hs (.eq (.elem (.field (.string "SumNames$Reader" 66) "java/lang/String" "value" "[B") (.int 1)) (.int 101)) (by decide +kernel)
        | 2, _ => exact hs (.eq (.elem (.field (.string "SumNames$Reader" 66) "java/lang/String" "value" "[B") (.int 2)) (.int 116)) (by decide +kernel)
        | 3, _ => exact hs (.eq (.elem (.field (.string "SumNames$Reader" 66) "java/lang/String" "value" "[B") (.int 3)) (.int 116)) (by decide +kernel)
        | 4, _ => exact hs (.eq (.elem (.field (.string "SumNames$Reader" 66) "java/lang/String" "value" "[B") (.int 4)) (.int 101)) (by decide +kernel)
        | 5, _ => exact hs (.eq (.elem (.field (.string "SumNames$Reader" 66) "java/lang/String" "value" "[B") (.int 5)) (.int 114)) (by decide +kernel)
      | 1, _ =>
        match j, hj with
        | 0, _ => exact hs (.eq (.elem (.field (.string "SumNames$Reader" 75) "java/lang/String" "value" "[B") (.int 0)) (.int 115)) (by decide +kernel)
        | 1, _ => exact hs (.eq (.elem (.field (.string "SumNames$Reader" 75) "java/lang/String" "value" "[B") (.int 1)) (.int 121)) (by decide +kernel)
        | 2, _ => exact hs (.eq (.elem (.field (.string "SumNames$Reader" 75) "java/lang/String" "value" "[B") (.int 2)) (.int 108)) (by decide +kernel)
      | 2, _ =>
        match j, hj with
        | 0, _ => exact hs (.eq (.elem (.field (.string "SumNames$Reader" 85) "java/lang/String" "value" "[B") (.int 0)) (.int 102)) (by decide +kernel)
        | 1, _ => exact hs (.eq (.elem (.field (.string "SumNames$Reader" 85) "java/lang/String" "value" "[B") (.int 1)) (.int 105)) (by decide +kernel)
        | 2, _ => exact hs (.eq (.elem (.field (.string "SumNames$Reader" 85) "java/lang/String" "value" "[B") (.int 2)) (.int 114)) (by decide +kernel)
        | 3, _ => exact hs (.eq (.elem (.field (.string "SumNames$Reader" 85) "java/lang/String" "value" "[B") (.int 3)) (.int 115)) (by decide +kernel)
        | 4, _ => exact hs (.eq (.elem (.field (.string "SumNames$Reader" 85) "java/lang/String" "value" "[B") (.int 4)) (.int 116)) (by decide +kernel)
      | 3, _ =>
        match j, hj with
        | 0, _ => exact hs (.eq (.elem (.field (.string "SumNames$Reader" 96) "java/lang/String" "value" "[B") (.int 0)) (.int 99)) (by decide +kernel)
        | 1, _ => exact hs (.eq (.elem (.field (.string "SumNames$Reader" 96) "java/lang/String" "value" "[B") (.int 1)) (.int 104)) (by decide +kernel)
        | 2, _ => exact hs (.eq (.elem (.field (.string "SumNames$Reader" 96) "java/lang/String" "value" "[B") (.int 2)) (.int 105)) (by decide +kernel)
        | 3, _ => exact hs (.eq (.elem (.field (.string "SumNames$Reader" 96) "java/lang/String" "value" "[B") (.int 3)) (.int 108)) (by decide +kernel)
        | 4, _ => exact hs (.eq (.elem (.field (.string "SumNames$Reader" 96) "java/lang/String" "value" "[B") (.int 4)) (.int 100)) (by decide +kernel)
      | 4, _ =>
        match j, hj with
        | 0, _ => exact hs (.eq (.elem (.field (.string "SumNames$Reader" 101) "java/lang/String" "value" "[B") (.int 0)) (.int 99)) (by decide +kernel)
        | 1, _ => exact hs (.eq (.elem (.field (.string "SumNames$Reader" 101) "java/lang/String" "value" "[B") (.int 1)) (.int 97)) (by decide +kernel)
        | 2, _ => exact hs (.eq (.elem (.field (.string "SumNames$Reader" 101) "java/lang/String" "value" "[B") (.int 2)) (.int 108)) (by decide +kernel)
        | 3, _ => exact hs (.eq (.elem (.field (.string "SumNames$Reader" 101) "java/lang/String" "value" "[B") (.int 3)) (.int 108)) (by decide +kernel)
      | 5, _ =>
        match j, hj with
        | 0, _ => exact hs (.eq (.elem (.field (.string "SumNames$Reader" 106) "java/lang/String" "value" "[B") (.int 0)) (.int 104)) (by decide +kernel)
        | 1, _ => exact hs (.eq (.elem (.field (.string "SumNames$Reader" 106) "java/lang/String" "value" "[B") (.int 1)) (.int 111)) (by decide +kernel)
        | 2, _ => exact hs (.eq (.elem (.field (.string "SumNames$Reader" 106) "java/lang/String" "value" "[B") (.int 2)) (.int 112)) (by decide +kernel)
        | 3, _ => exact hs (.eq (.elem (.field (.string "SumNames$Reader" 106) "java/lang/String" "value" "[B") (.int 3)) (.int 101)) (by decide +kernel)
      | 6, _ =>
        match j, hj with
        | 0, _ => exact hs (.eq (.elem (.field (.string "SumNames$Reader" 111) "java/lang/String" "value" "[B") (.int 0)) (.int 100)) (by decide +kernel)
        | 1, _ => exact hs (.eq (.elem (.field (.string "SumNames$Reader" 111) "java/lang/String" "value" "[B") (.int 1)) (.int 101)) (by decide +kernel)
        | 2, _ => exact hs (.eq (.elem (.field (.string "SumNames$Reader" 111) "java/lang/String" "value" "[B") (.int 2)) (.int 103)) (by decide +kernel)
        | 3, _ => exact hs (.eq (.elem (.field (.string "SumNames$Reader" 111) "java/lang/String" "value" "[B") (.int 3)) (.int 114)) (by decide +kernel)
        | 4, _ => exact hs (.eq (.elem (.field (.string "SumNames$Reader" 111) "java/lang/String" "value" "[B") (.int 4)) (.int 101)) (by decide +kernel)
        | 5, _ => exact hs (.eq (.elem (.field (.string "SumNames$Reader" 111) "java/lang/String" "value" "[B") (.int 5)) (.int 101)) (by decide +kernel)
        | 6, _ => exact hs (.eq (.elem (.field (.string "SumNames$Reader" 111) "java/lang/String" "value" "[B") (.int 6)) (.int 115)) (by decide +kernel)
      | 7, _ =>
        match j, hj with
        | 0, _ => exact hs (.eq (.elem (.field (.string "SumNames$Reader" 116) "java/lang/String" "value" "[B") (.int 0)) (.int 102)) (by decide +kernel)
        | 1, _ => exact hs (.eq (.elem (.field (.string "SumNames$Reader" 116) "java/lang/String" "value" "[B") (.int 1)) (.int 111)) (by decide +kernel)
        | 2, _ => exact hs (.eq (.elem (.field (.string "SumNames$Reader" 116) "java/lang/String" "value" "[B") (.int 2)) (.int 114)) (by decide +kernel)
        | 3, _ => exact hs (.eq (.elem (.field (.string "SumNames$Reader" 116) "java/lang/String" "value" "[B") (.int 3)) (.int 103)) (by decide +kernel)
        | 4, _ => exact hs (.eq (.elem (.field (.string "SumNames$Reader" 116) "java/lang/String" "value" "[B") (.int 4)) (.int 101)) (by decide +kernel)
        | 5, _ => exact hs (.eq (.elem (.field (.string "SumNames$Reader" 116) "java/lang/String" "value" "[B") (.int 5)) (.int 116)) (by decide +kernel))
      (fun i j hi hj hne => by
      match i, j, hi, hj, hne with
      | 0, 0, _, _, hne => exact absurd rfl hne
      | 0, 1, _, _, hne => exact Or.inl (hs (.not (.eq (.string "SumNames$Reader" 66) (.string "SumNames$Reader" 75))) (by decide +kernel))
      | 0, 2, _, _, hne => exact Or.inl (hs (.not (.eq (.string "SumNames$Reader" 66) (.string "SumNames$Reader" 85))) (by decide +kernel))
      | 0, 3, _, _, hne => exact Or.inl (hs (.not (.eq (.string "SumNames$Reader" 66) (.string "SumNames$Reader" 96))) (by decide +kernel))
      | 0, 4, _, _, hne => exact Or.inl (hs (.not (.eq (.string "SumNames$Reader" 66) (.string "SumNames$Reader" 101))) (by decide +kernel))
      | 0, 5, _, _, hne => exact Or.inl (hs (.not (.eq (.string "SumNames$Reader" 66) (.string "SumNames$Reader" 106))) (by decide +kernel))
      | 0, 6, _, _, hne => exact Or.inl (hs (.not (.eq (.string "SumNames$Reader" 66) (.string "SumNames$Reader" 111))) (by decide +kernel))
      | 0, 7, _, _, hne => exact Or.inl (hs (.not (.eq (.string "SumNames$Reader" 66) (.string "SumNames$Reader" 116))) (by decide +kernel))
      | 1, 0, _, _, hne => exact Or.inr (hs (.not (.eq (.string "SumNames$Reader" 66) (.string "SumNames$Reader" 75))) (by decide +kernel))
      | 1, 1, _, _, hne => exact absurd rfl hne
      | 1, 2, _, _, hne => exact Or.inl (hs (.not (.eq (.string "SumNames$Reader" 75) (.string "SumNames$Reader" 85))) (by decide +kernel))
      | 1, 3, _, _, hne => exact Or.inl (hs (.not (.eq (.string "SumNames$Reader" 75) (.string "SumNames$Reader" 96))) (by decide +kernel))
      | 1, 4, _, _, hne => exact Or.inl (hs (.not (.eq (.string "SumNames$Reader" 75) (.string "SumNames$Reader" 101))) (by decide +kernel))
      | 1, 5, _, _, hne => exact Or.inl (hs (.not (.eq (.string "SumNames$Reader" 75) (.string "SumNames$Reader" 106))) (by decide +kernel))
      | 1, 6, _, _, hne => exact Or.inl (hs (.not (.eq (.string "SumNames$Reader" 75) (.string "SumNames$Reader" 111))) (by decide +kernel))
      | 1, 7, _, _, hne => exact Or.inl (hs (.not (.eq (.string "SumNames$Reader" 75) (.string "SumNames$Reader" 116))) (by decide +kernel))
      | 2, 0, _, _, hne => exact Or.inr (hs (.not (.eq (.string "SumNames$Reader" 66) (.string "SumNames$Reader" 85))) (by decide +kernel))
      | 2, 1, _, _, hne => exact Or.inr (hs (.not (.eq (.string "SumNames$Reader" 75) (.string "SumNames$Reader" 85))) (by decide +kernel))
      | 2, 2, _, _, hne => exact absurd rfl hne
      | 2, 3, _, _, hne => exact Or.inl (hs (.not (.eq (.string "SumNames$Reader" 85) (.string "SumNames$Reader" 96))) (by decide +kernel))
      | 2, 4, _, _, hne => exact Or.inl (hs (.not (.eq (.string "SumNames$Reader" 85) (.string "SumNames$Reader" 101))) (by decide +kernel))
      | 2, 5, _, _, hne => exact Or.inl (hs (.not (.eq (.string "SumNames$Reader" 85) (.string "SumNames$Reader" 106))) (by decide +kernel))
      | 2, 6, _, _, hne => exact Or.inl (hs (.not (.eq (.string "SumNames$Reader" 85) (.string "SumNames$Reader" 111))) (by decide +kernel))
      | 2, 7, _, _, hne => exact Or.inl (hs (.not (.eq (.string "SumNames$Reader" 85) (.string "SumNames$Reader" 116))) (by decide +kernel))
      | 3, 0, _, _, hne => exact Or.inr (hs (.not (.eq (.string "SumNames$Reader" 66) (.string "SumNames$Reader" 96))) (by decide +kernel))
      | 3, 1, _, _, hne => exact Or.inr (hs (.not (.eq (.string "SumNames$Reader" 75) (.string "SumNames$Reader" 96))) (by decide +kernel))
      | 3, 2, _, _, hne => exact Or.inr (hs (.not (.eq (.string "SumNames$Reader" 85) (.string "SumNames$Reader" 96))) (by decide +kernel))
      | 3, 3, _, _, hne => exact absurd rfl hne
      | 3, 4, _, _, hne => exact Or.inl (hs (.not (.eq (.string "SumNames$Reader" 96) (.string "SumNames$Reader" 101))) (by decide +kernel))
      | 3, 5, _, _, hne => exact Or.inl (hs (.not (.eq (.string "SumNames$Reader" 96) (.string "SumNames$Reader" 106))) (by decide +kernel))
      | 3, 6, _, _, hne => exact Or.inl (hs (.not (.eq (.string "SumNames$Reader" 96) (.string "SumNames$Reader" 111))) (by decide +kernel))
      | 3, 7, _, _, hne => exact Or.inl (hs (.not (.eq (.string "SumNames$Reader" 96) (.string "SumNames$Reader" 116))) (by decide +kernel))
      | 4, 0, _, _, hne => exact Or.inr (hs (.not (.eq (.string "SumNames$Reader" 66) (.string "SumNames$Reader" 101))) (by decide +kernel))
      | 4, 1, _, _, hne => exact Or.inr (hs (.not (.eq (.string "SumNames$Reader" 75) (.string "SumNames$Reader" 101))) (by decide +kernel))
      | 4, 2, _, _, hne => exact Or.inr (hs (.not (.eq (.string "SumNames$Reader" 85) (.string "SumNames$Reader" 101))) (by decide +kernel))
      | 4, 3, _, _, hne => exact Or.inr (hs (.not (.eq (.string "SumNames$Reader" 96) (.string "SumNames$Reader" 101))) (by decide +kernel))
      | 4, 4, _, _, hne => exact absurd rfl hne
      | 4, 5, _, _, hne => exact Or.inl (hs (.not (.eq (.string "SumNames$Reader" 101) (.string "SumNames$Reader" 106))) (by decide +kernel))
      | 4, 6, _, _, hne => exact Or.inl (hs (.not (.eq (.string "SumNames$Reader" 101) (.string "SumNames$Reader" 111))) (by decide +kernel))
      | 4, 7, _, _, hne => exact Or.inl (hs (.not (.eq (.string "SumNames$Reader" 101) (.string "SumNames$Reader" 116))) (by decide +kernel))
      | 5, 0, _, _, hne => exact Or.inr (hs (.not (.eq (.string "SumNames$Reader" 66) (.string "SumNames$Reader" 106))) (by decide +kernel))
      | 5, 1, _, _, hne => exact Or.inr (hs (.not (.eq (.string "SumNames$Reader" 75) (.string "SumNames$Reader" 106))) (by decide +kernel))
      | 5, 2, _, _, hne => exact Or.inr (hs (.not (.eq (.string "SumNames$Reader" 85) (.string "SumNames$Reader" 106))) (by decide +kernel))
      | 5, 3, _, _, hne => exact Or.inr (hs (.not (.eq (.string "SumNames$Reader" 96) (.string "SumNames$Reader" 106))) (by decide +kernel))
      | 5, 4, _, _, hne => exact Or.inr (hs (.not (.eq (.string "SumNames$Reader" 101) (.string "SumNames$Reader" 106))) (by decide +kernel))
      | 5, 5, _, _, hne => exact absurd rfl hne
      | 5, 6, _, _, hne => exact Or.inl (hs (.not (.eq (.string "SumNames$Reader" 106) (.string "SumNames$Reader" 111))) (by decide +kernel))
      | 5, 7, _, _, hne => exact Or.inl (hs (.not (.eq (.string "SumNames$Reader" 106) (.string "SumNames$Reader" 116))) (by decide +kernel))
      | 6, 0, _, _, hne => exact Or.inr (hs (.not (.eq (.string "SumNames$Reader" 66) (.string "SumNames$Reader" 111))) (by decide +kernel))
      | 6, 1, _, _, hne => exact Or.inr (hs (.not (.eq (.string "SumNames$Reader" 75) (.string "SumNames$Reader" 111))) (by decide +kernel))
      | 6, 2, _, _, hne => exact Or.inr (hs (.not (.eq (.string "SumNames$Reader" 85) (.string "SumNames$Reader" 111))) (by decide +kernel))
      | 6, 3, _, _, hne => exact Or.inr (hs (.not (.eq (.string "SumNames$Reader" 96) (.string "SumNames$Reader" 111))) (by decide +kernel))
      | 6, 4, _, _, hne => exact Or.inr (hs (.not (.eq (.string "SumNames$Reader" 101) (.string "SumNames$Reader" 111))) (by decide +kernel))
      | 6, 5, _, _, hne => exact Or.inr (hs (.not (.eq (.string "SumNames$Reader" 106) (.string "SumNames$Reader" 111))) (by decide +kernel))
      | 6, 6, _, _, hne => exact absurd rfl hne
      | 6, 7, _, _, hne => exact Or.inl (hs (.not (.eq (.string "SumNames$Reader" 111) (.string "SumNames$Reader" 116))) (by decide +kernel))
      | 7, 0, _, _, hne => exact Or.inr (hs (.not (.eq (.string "SumNames$Reader" 66) (.string "SumNames$Reader" 116))) (by decide +kernel))
      | 7, 1, _, _, hne => exact Or.inr (hs (.not (.eq (.string "SumNames$Reader" 75) (.string "SumNames$Reader" 116))) (by decide +kernel))
      | 7, 2, _, _, hne => exact Or.inr (hs (.not (.eq (.string "SumNames$Reader" 85) (.string "SumNames$Reader" 116))) (by decide +kernel))
      | 7, 3, _, _, hne => exact Or.inr (hs (.not (.eq (.string "SumNames$Reader" 96) (.string "SumNames$Reader" 116))) (by decide +kernel))
      | 7, 4, _, _, hne => exact Or.inr (hs (.not (.eq (.string "SumNames$Reader" 101) (.string "SumNames$Reader" 116))) (by decide +kernel))
      | 7, 5, _, _, hne => exact Or.inr (hs (.not (.eq (.string "SumNames$Reader" 106) (.string "SumNames$Reader" 116))) (by decide +kernel))
      | 7, 6, _, _, hne => exact Or.inr (hs (.not (.eq (.string "SumNames$Reader" 111) (.string "SumNames$Reader" 116))) (by decide +kernel))
      | 7, 7, _, _, hne => exact absurd rfl hne)
      hA
  obtain ⟨adK, adV, hvS, hev⟩ := hS8
  obtain ⟨c, hc⟩ : ∃ c : Nat → ClassId, c = (fun k => if k < 100 then [pG, cJ, cZ, cS, cW, cG].getD k 0 else if k < 110 then tG else if k < 120 then adK (k - 110) else adV (k - 120)) := ⟨_, rfl⟩
  have hcK : ∀ i : Nat, i < 8 → c (110 + i) = adK i := fun i hi => by rw [hc]; simp only [show ¬ 110 + i < 100 by omega, show ¬ 110 + i < 110 by omega, show 110 + i < 120 by omega, if_true, if_false, Nat.add_sub_cancel_left]
  have hcV : ∀ i : Nat, i < 8 → c (120 + i) = adV i := fun i hi => by rw [hc]; simp only [show ¬ 120 + i < 100 by omega, show ¬ 120 + i < 110 by omega, show ¬ 120 + i < 120 by omega, if_false, Nat.add_sub_cancel_left]
  have q0 : c 0 = pG := by rw [hc]; rfl
  have q1 : c 1 = cJ := by rw [hc]; rfl
  have q2 : c 2 = cZ := by rw [hc]; rfl
  have q3 : c 3 = cS := by rw [hc]; rfl
  have q4 : c 4 = cW := by rw [hc]; rfl
  have q5 : c 5 = cG := by rw [hc]; rfl
  have q100 : c 100 = tG := by rw [hc]; rfl
  refine ⟨(fun k => [d0, d1, d2, d3, d4, d5, d6, d7].getD k 0, fun k => match k with | 0 => i0 | 1 => i1 | 2 => i2 | 3 => i3 | 4 => i4 | 5 => i5 | 6 => i6 | _ => i7), c, ⟨⟨fun k q hq => ?_, fun k q hq => ?_⟩, fun q hq => va_Nw.of rfl (htt _ (zNl_in q hq))⟩, ⟨by rw [q100]; exact hZ1, by rw [q100]; exact hT⟩, ⟨hZ2, hZ3⟩, ⟨fun i hi => ?_, fun i j hi hj e => ?_⟩, fun q hq => ?_, hoW, hoS, kG, by rw [q5]; exact d2_, by rw [q0]; exact d3_⟩
  · match k, hq with
    | 0, hq => cases hq; exact hk0
    | 1, hq => cases hq; exact hk1
    | 2, hq => cases hq; exact hk2
    | 3, hq => cases hq; exact hk3
    | 4, hq => cases hq; exact hk4
    | 5, hq => cases hq; exact hk5
    | 6, hq => cases hq; exact hk6
    | 7, hq => cases hq; exact hk7
    | k + 8, hq => simp at hq
  · match k, hq with
    | 0, hq => cases hq; exact ⟨fun n z => ⟨fun k h => (by cases h), kI, by show s.vm.classes[c 0]? = _; rw [q0]; exact gI, pI, eI⟩, by show s.vm.findClass _ = some (c 0); rw [q0]; exact fI⟩
    | 1, hq => cases hq; exact ⟨fun n z => ⟨fun k h => (by cases h), kJ, by show s.vm.classes[c 1]? = _; rw [q1]; exact gJ, pJ, eJ⟩, by show s.vm.findClass _ = some (c 1); rw [q1]; exact fJ⟩
    | 2, hq => cases hq; exact ⟨fun n z => ⟨fun k h => (by cases h), kZ, by show s.vm.classes[c 2]? = _; rw [q2]; exact gZ, pZ, eZ⟩, by show s.vm.findClass _ = some (c 2); rw [q2]; exact fZ⟩
    | 3, hq => cases hq; exact ⟨fun n z => ⟨fun k h => (by cases h), kS, by show s.vm.classes[c 3]? = _; rw [q3]; exact b2, pS, b3⟩, kS, pS, by rw [q3]; exact b2, b3, b1, by rw [q3]; exact b4⟩
    | 4, hq => cases hq; exact ⟨fun n z => ⟨fun k h => (by cases h), kW, by show s.vm.classes[c 4]? = _; rw [q4]; exact a2, pW, a3⟩, kW, pW, by rw [q4]; exact a2, a3, a1, by rw [q4]; exact a4⟩
    | 5, hq => cases hq; exact ⟨fun n z => ⟨fun k h => (by cases h), kG, by show s.vm.classes[c 5]? = _; rw [q5]; exact d2_, _, d3_⟩, by show s.vm.findClass _ = some (c 5); rw [q5]; exact d4_⟩
    | k + 6, hq => simp at hq
  · have := hvS.1 i hi
    rw [← hcK i hi, ← hcV i hi] at this
    exact this
  · exact hvS.2 i j hi hj (by rw [← hcK i hi, ← hcK j hj]; exact e)
  · have hq2 : q ∈ zStrs := hq
    simp only [zStrs, List.mem_cons, List.not_mem_nil, or_false] at hq2
    rcases hq2 with rfl | rfl | rfl | rfl | rfl | rfl | rfl | rfl
    · rw [show c (110 + (66, "letter", 0).2.2) = adK 0 from hcK 0 (by decide)]; exact vk_R.of (A := #[Value.ref b]) (htt _ (by unfold tables_1; exact (List.mem_append_right _ (List.mem_append_left _ (List.mem_of_getElem? (i := 82) (by decide +kernel)))))) (hev 0 (by decide))
    · rw [show c (110 + (75, "syl", 1).2.2) = adK 1 from hcK 1 (by decide)]; exact vk_R.of (A := #[Value.ref b]) (htt _ (by unfold tables_1; exact (List.mem_append_right _ (List.mem_append_left _ (List.mem_of_getElem? (i := 154) (by decide +kernel)))))) (hev 1 (by decide))
    · rw [show c (110 + (85, "first", 2).2.2) = adK 2 from hcK 2 (by decide)]; exact vk_R.of (A := #[Value.ref b]) (htt _ (by unfold tables_1; exact (List.mem_append_right _ (List.mem_append_left _ (List.mem_of_getElem? (i := 163) (by decide +kernel)))))) (hev 2 (by decide))
    · rw [show c (110 + (96, "child", 3).2.2) = adK 3 from hcK 3 (by decide)]; exact vk_R.of (A := #[Value.ref b]) (htt _ (by unfold tables_1; exact (List.mem_append_right _ (List.mem_append_left _ (List.mem_of_getElem? (i := 185) (by decide +kernel)))))) (hev 3 (by decide))
    · rw [show c (110 + (101, "call", 4).2.2) = adK 4 from hcK 4 (by decide)]; exact vk_R.of (A := #[Value.ref b]) (htt _ (by unfold tables_1; exact (List.mem_append_right _ (List.mem_append_left _ (List.mem_of_getElem? (i := 194) (by decide +kernel)))))) (hev 4 (by decide))
    · rw [show c (110 + (106, "hope", 5).2.2) = adK 5 from hcK 5 (by decide)]; exact vk_R.of (A := #[Value.ref b]) (htt _ (by unfold tables_1; exact (List.mem_append_right _ (List.mem_append_left _ (List.mem_of_getElem? (i := 199) (by decide +kernel)))))) (hev 5 (by decide))
    · rw [show c (110 + (111, "degrees", 6).2.2) = adK 6 from hcK 6 (by decide)]; exact vk_R.of (A := #[Value.ref b]) (htt _ (by unfold tables_1; exact (List.mem_append_right _ (List.mem_append_left _ (List.mem_of_getElem? (i := 208) (by decide +kernel)))))) (hev 6 (by decide))
    · rw [show c (110 + (116, "forget", 7).2.2) = adK 7 from hcK 7 (by decide)]; exact vk_R.of (A := #[Value.ref b]) (htt _ (by unfold tables_1; exact (List.mem_append_right _ (List.mem_append_left _ (List.mem_of_getElem? (i := 213) (by decide +kernel)))))) (hev 7 (by decide))
