/-! ===== BEGIN words of one list among another's, by their places ===== -/
theorem goodIn_r {big : List Cond} (ws : List Cond) (ps : List Nat) (hp : ws = ps.filterMap (fun i => big[i]?)) (h : ws.all goodWord = true) : GoodIn big ws := by
  intro w hw
  have h1 := List.all_eq_true.mp h w hw
  rw [hp] at hw
  obtain ⟨i, -, hi⟩ := List.mem_filterMap.mp hw
  have hm : w ∈ big := by first | exact List.mem_of_getElem? hi | exact List.getElem?_mem hi
  exact ⟨hm, good_of_word h1⟩
theorem goodIn_app {big a b : List Cond} (ha : GoodIn big a) (hb : GoodIn big b) : GoodIn big (a ++ b) := fun w h => (List.mem_append.mp h).elim (ha w) (hb w)
theorem goodIn_ca {big a b : List Cond} {c : Cond} (ha : GoodIn big (c :: a)) (hb : GoodIn big b) : GoodIn big (c :: (a ++ b)) := fun w h => (List.mem_cons.mp h).elim (fun e => ha w (List.mem_cons.mpr (Or.inl e))) (fun h => (List.mem_append.mp h).elim (fun h => ha w (List.mem_cons.mpr (Or.inr h))) (hb w))
theorem goodIn_sub {big ws : List Cond} (hm : ∀ w ∈ ws, w ∈ big) (h : ws.all goodWord = true) : GoodIn big ws := fun w hw => ⟨hm w hw, good_of_word (List.all_eq_true.mp h w hw)⟩
/-! ===== END ===== -/

/-! ===== BEGIN new T[n][m]: the outer array a place, the inner ones among the pooled ===== -/
/-- f, but v at every address of l -/
def vr_up {α : Type} (f : Nat → α) (l : List Nat) (v : α) : Nat → α := fun a => if a ∈ l then v else f a
theorem vr_up_in {α : Type} {f : Nat → α} {l : List Nat} {v : α} {a : Nat} (h : a ∈ l) : vr_up f l v a = v := if_pos h
theorem vr_up_ne {α : Type} {f : Nat → α} {l : List Nat} {v : α} {a : Nat} (h : a ∉ l) : vr_up f l v a = f a := if_neg h
theorem vr_rows {L l : List Nat} {f : Nat → va_E} {e : va_E} (h : ∀ a, a ∈ l → a ∉ L) : va_pl L f ++ l.map (fun a => (a, e)) = va_pl (L ++ l) (vr_up f l e) := by
  unfold va_pl
  rw [List.map_append]
  congr 1
  · apply List.map_congr_left
    intro a ha
    rw [vr_up_ne (fun q => h a q ha)]
  · apply List.map_congr_left
    intro a ha
    rw [vr_up_in ha]
theorem vr_lay {X rows : va_W} {x : Nat × va_E} {pl : va_W} {D : va_G} {cl : List vw_C} {H : Heap} (hP : va_P D cl (((X ++ pl) ++ [x]) ++ rows) H) : va_P D cl ((X ++ [x]) ++ (pl ++ rows)) H := by
  rw [List.append_assoc (X ++ pl)] at hP
  have h := va_P.swap hP
  rw [← List.append_assoc X] at h
  have h2 := va_P.swap h
  rw [List.append_assoc (X ++ [x])] at h2
  exact h2
theorem vr_layD {X rows : va_W} {x : Nat × va_E} {pl : va_W} {A : Nat → Prop} (hD : va_D A (((X ++ pl) ++ [x]) ++ rows)) : va_D A ((X ++ [x]) ++ (pl ++ rows)) := by
  rw [List.append_assoc (X ++ pl)] at hD
  have h := va_D.swap hD
  rw [← List.append_assoc X] at h
  have h2 := va_D.swap h
  rw [List.append_assoc (X ++ [x])] at h2
  exact h2
theorem vr_outer (c : ClassId) (N h0 : Nat) : ∀ i : Nat, Jvm.Free.Multi.outerC c N h0 i = arrV c N (fun j => va_rf (if j < i then some (h0 + 1 + j) else none))
  | 0 => by
    show ({ cls := c, slots := Array.replicate N .null, vm := .none } : Cell) = _
    rw [arrV_new]
    refine congrArg (arrV c N) (funext fun j => ?_)
    simp [va_rf]
  | i + 1 => by
    show (Jvm.Free.Multi.outerC c N h0 i).setSlot i (.ref (h0 + 1 + i)) = _
    rw [vr_outer c N h0 i, arrV_store]
    refine congrArg (arrV c N) (funext fun j => ?_)
    by_cases e : j = i
    · subst e
      simp [updV, va_rf]
    · by_cases h : j < i
      · simp [updV, e, h, Nat.lt_succ_of_lt h]
      · simp [updV, e, h, show ¬ j < i + 1 by omega]
section VGM
variable {p : Program} {l : Launch} {e : Env} {R : Room} {s : State} {m : MethodId} {args : Array Value} {below : List Frame} {meth : Method} {c : Code} {H : Heap} {locs : List Loc} {cells slots : Nat} {Q : State → Prop}
variable {cc : ByteArray} {pc : Nat} {ls : Array Slot} {rest : List Value} {D : va_G} {cl : List vw_C} {A : Nat → Prop} {a : Nat} {tys : List (ClassId × FieldType)} {ws : va_W} {H0 : Heap}
theorem va_mna {X : va_W} {L : List Nat} {f : Nat → va_E} {cc : ByteArray} (hexec : p.tables.exec = Jvm.exec) (hb : c.code = cc) {own : String} {index : Nat} {ty : FieldType} {cy : ClassId} (hown : s.vm.findClass own = some m.cls) (hclink : (Cond.classLink own index ("[" ++ (FieldType.array ty).toString)).before args s = true) (hover : va_AOA ty s) (harr : (Cond.arrayClass ty).before args s = true) (hcy : s.vm.findClass (FieldType.array ty).toString = some cy)
    (hK : va_K D cl tys s) (hP : va_P D cl (X ++ va_pl L f) H) (hD : va_D A (X ++ va_pl L f)) (hS : va_S A H0 H locs) (hA : ∀ q, H0.size ≤ q → A q) {n k : Int32} {N' K' : Nat} {z : vp_A} (hn : ¬ n < 0) (hk : ¬ k < 0) (hN : n.toNatClampNeg = N') (hM : k.toNatClampNeg = K')
    (hb1 : N' * 4 ≤ 536870912) (hb2 : K' * componentBytes ty ≤ 536870912) (hb3 : K' ≤ 536870912) (hdf : fits ty (defaultValue ty) = true) (hdd : (defaultValue ty).isDefault = true) (hcells : cells + (1 + N') ≤ R.cells) (hslots : slots + (N' + N' * K') ≤ R.slots) (hz : ∀ c : ClassId, Jvm.Free.Multi.innerC c K' (defaultValue ty) = vp_cell c z) (hdg : decode cc pc = .ok (.multianewarray index 2, 4))
    (kk : ∀ (q : Nat) (r : Nat → Nat) (cA : ClassId) (H1 : Heap), (∀ i j : Nat, i < N' → j < N' → r i = r j → i = j) → (∀ i : Nat, i < N' → r i ∉ L) → va_K D cl (tys ++ [(cA, .array ty)]) s →
      va_P D cl ((X ++ [(q, .inl (cA, N', .inr (.inr (.inr (.inr (fun i => if i < N' then some (r i) else none))))))]) ++ va_pl (L ++ (List.range N').map r) (vr_up f ((List.range N').map r) (.inl (cy, z)))) H1 → va_D A ((X ++ [(q, .inl (cA, N', .inr (.inr (.inr (.inr (fun i => if i < N' then some (r i) else none))))))]) ++ va_pl (L ++ (List.range N').map r) (vr_up f ((List.range N').map r) (.inl (cy, z)))) → va_S A H0 H1 locs →
      W p l e R s m args below meth c H1 locs (cells + 1 + N') (slots + N' + N' * K') Q (F0 m (pc + 4) ls (.ref q :: rest))) : W p l e R s m args below meth c H locs cells slots Q (F0 m pc ls (.int k :: .int n :: rest)) := by
  subst hN
  subst hM
  intro T hT Xs
  obtain ⟨vm₁, cA, comp, -, fA, fC, hO, -, X', step⟩ := Xs.multianewarray2F hexec hown hclink (va_AOA.use hover) harr (g := F0 m pc ls (.int k :: .int n :: rest)) rfl (by rw [hb]; exact hdg) rfl hn hk hb1 hb2 hb3 hdf hdd hcells hslots
  have ec : some cy = some comp := hcy.symm.trans fC
  cases ec
  generalize hF : Jvm.Free.Multi.fill (T.setVm vm₁) cA cy n.toNatClampNeg k.toNatClampNeg (defaultValue ty) n.toNatClampNeg = F at X' step
  have hTh : (T.setVm vm₁).heap = H := hT
  obtain ⟨f1, f2, -, -⟩ := Jvm.Free.Multi.fill_facts (T.setVm vm₁) cA cy n.toNatClampNeg k.toNatClampNeg (defaultValue ty) n.toNatClampNeg
  rw [hF, hTh] at f1 f2
  have hold : ∀ x : Nat, x < H.size → F.heap[x]? = H[x]? := fun x hx => by
    have := Jvm.Free.Multi.fill_old (T.setVm vm₁) cA cy n.toNatClampNeg k.toNatClampNeg (defaultValue ty) (a := x) (by rw [hTh]; exact hx) n.toNatClampNeg
    rw [hF, hTh] at this
    exact this
  have hrow : ∀ j : Nat, j < n.toNatClampNeg → F.heap[H.size + 1 + j]? = some (vp_cell cy z) := fun j hj => by
    have := Jvm.Free.Multi.fill_inner (T.setVm vm₁) cA cy n.toNatClampNeg k.toNatClampNeg (defaultValue ty) n.toNatClampNeg j hj
    rw [hF, hTh, hz] at this
    exact this
  have hout : Jvm.Free.Multi.outerC cA n.toNatClampNeg H.size n.toNatClampNeg = vp_cell cA (n.toNatClampNeg, .inr (.inr (.inr (.inr (fun i => if i < n.toNatClampNeg then some (H.size + 1 + i) else none))))) := by
    rw [vp_cell_q]
    exact vr_outer cA n.toNatClampNeg H.size n.toNatClampNeg
  rw [hout] at f2
  have hlt : ∀ a, a ∈ L → a < H.size := fun a ha => by
    obtain ⟨k9, hk9⟩ := va_pl_get (X := X) (f := f) ha
    exact (hP k9 _ hk9).lt
  have hnl : ∀ i : Nat, i < n.toNatClampNeg → H.size + 1 + i ∉ L := fun i _ h => by
    have := hlt _ h
    omega
  have hnm : ∀ a, a ∈ (List.range n.toNatClampNeg).map (fun i => H.size + 1 + i) → a ∉ L := fun a ha h => by
    obtain ⟨i, -, rfl⟩ := List.mem_map.mp ha
    have := hlt _ h
    omega
  have hP0 : va_P D cl (X ++ va_pl L f) F.heap := hP.kept (fun k9 x hx => hold x.1 ((hP k9 x hx).lt))
  have hP1 : va_P D cl ((X ++ va_pl L f) ++ [(H.size, .inl (cA, n.toNatClampNeg, .inr (.inr (.inr (.inr (fun i => if i < n.toNatClampNeg then some (H.size + 1 + i) else none))))))]) F.heap := hP0.app (fun k9 x hx => by
    have h0 : k9 < 1 := (List.getElem?_eq_some_iff.mp hx).1
    rw [show k9 = 0 by omega] at hx
    cases hx
    exact f2)
  have hP2 : va_P D cl (((X ++ va_pl L f) ++ [(H.size, .inl (cA, n.toNatClampNeg, .inr (.inr (.inr (.inr (fun i => if i < n.toNatClampNeg then some (H.size + 1 + i) else none))))))]) ++ ((List.range n.toNatClampNeg).map (fun i => H.size + 1 + i)).map (fun a => (a, .inl (cy, z)))) F.heap := hP1.app (fun k9 x hx => by
    obtain ⟨a, ha, rfl⟩ := List.mem_map.mp (List.mem_of_getElem? hx)
    obtain ⟨i, hi, rfl⟩ := List.mem_map.mp ha
    exact hrow i (List.mem_range.mp hi))
  have hD2 : va_D A (((X ++ va_pl L f) ++ [(H.size, .inl (cA, n.toNatClampNeg, .inr (.inr (.inr (.inr (fun i => if i < n.toNatClampNeg then some (H.size + 1 + i) else none))))))]) ++ ((List.range n.toNatClampNeg).map (fun i => H.size + 1 + i)).map (fun a => (a, .inl (cy, z)))) := by
    have hD1 := hD.push (e := .inl (cA, n.toNatClampNeg, .inr (.inr (.inr (.inr (fun i => if i < n.toNatClampNeg then some (H.size + 1 + i) else none)))))) hP rfl (hA _ hS.1)
    generalize hW1 : (X ++ va_pl L f) ++ [(H.size, .inl (cA, n.toNatClampNeg, .inr (.inr (.inr (.inr (fun i => if i < n.toNatClampNeg then some (H.size + 1 + i) else none))))))] = W1 at hD1 hP1 ⊢
    have hle : ∀ (k9 : Nat) (x : Nat × va_E), W1[k9]? = some x → x.1 ≤ H.size := fun k9 x hx => by
      rw [← hW1] at hx
      by_cases hl : k9 < (X ++ va_pl L f).length
      · rw [List.getElem?_append_left hl] at hx
        exact Nat.le_of_lt ((hP k9 x hx).lt)
      · rw [List.getElem?_append_right (by omega)] at hx
        have h0 : k9 - (X ++ va_pl L f).length < 1 := (List.getElem?_eq_some_iff.mp hx).1
        rw [show k9 - (X ++ va_pl L f).length = 0 by omega] at hx
        cases hx
        exact Nat.le_refl _
    have hr : ∀ (k9 : Nat) (x : Nat × va_E), (((List.range n.toNatClampNeg).map (fun i => H.size + 1 + i)).map (fun a => ((a, .inl (cy, z)) : Nat × va_E)))[k9]? = some x → x.1 = H.size + 1 + k9 := fun k9 x hx => by
      rw [List.getElem?_map, List.getElem?_map] at hx
      by_cases h9 : k9 < n.toNatClampNeg
      · rw [List.getElem?_range h9] at hx
        cases hx
        rfl
      · have hn0 : (List.range n.toNatClampNeg)[k9]? = none := List.getElem?_eq_none (by rw [List.length_range]; omega)
        rw [hn0] at hx
        cases hx
    refine ⟨fun i j x y hi hj hxy => ?_, fun k9 x hx => ?_⟩
    · by_cases h1 : i < W1.length <;> by_cases h2 : j < W1.length
      · rw [List.getElem?_append_left h1] at hi
        rw [List.getElem?_append_left h2] at hj
        exact hD1.1 i j x y hi hj hxy
      · rw [List.getElem?_append_left h1] at hi
        rw [List.getElem?_append_right (by omega)] at hj
        have := hle _ _ hi
        have := hr _ _ hj
        omega
      · rw [List.getElem?_append_right (by omega)] at hi
        rw [List.getElem?_append_left h2] at hj
        have := hle _ _ hj
        have := hr _ _ hi
        omega
      · rw [List.getElem?_append_right (by omega)] at hi hj
        have := hr _ _ hi
        have := hr _ _ hj
        omega
    · by_cases h1 : k9 < W1.length
      · rw [List.getElem?_append_left h1] at hx
        exact hD1.2 k9 x hx
      · rw [List.getElem?_append_right (by omega)] at hx
        have := hr _ _ hx
        exact hA _ (by have := hS.1; omega)
  have hAr : ArrOfT s cA (.array ty) := fun N9 z9 => by
    obtain ⟨-, k9, hk9, cm9, hkk9⟩ := (hO 0 0 0).1
    exact ⟨(fun q hq => by cases hq), k9, hk9, cm9, hkk9⟩
  have hK2 : va_K D cl (tys ++ [(cA, .array ty)]) s := ⟨hK.1, fun k9 x hx => by
    by_cases hl : k9 < tys.length
    · rw [List.getElem?_append_left hl] at hx
      exact hK.2 k9 x hx
    · rw [List.getElem?_append_right (by omega)] at hx
      have h0 : k9 - tys.length < 1 := (List.getElem?_eq_some_iff.mp hx).1
      rw [show k9 - tys.length = 0 by omega] at hx
      cases hx
      exact ⟨hAr, fA⟩⟩
  obtain ⟨t, a1, b1⟩ := kk H.size (fun i => H.size + 1 + i) cA F.heap (fun i j _ _ h => by have h9 : H.size + 1 + i = H.size + 1 + j := h; omega) hnl hK2 (by rw [← vr_rows hnm]; exact vr_lay hP2) (by rw [← vr_rows hnm]; exact vr_layD hD2) ⟨by rw [f1]; have := hS.1; omega, fun x h1 h2 => (hold x (Nat.lt_of_lt_of_le h1 hS.1)).trans (hS.2.1 x h1 h2), hS.2.2⟩ F rfl X'
  refine ⟨t, step t ?_, b1⟩
  have e : T.heap.size = H.size := by rw [hT]
  rw [e]
  exact a1
end VGM
/-! ===== END ===== -/

/-! ===== BEGIN printed: names, fields, word lists, decode rows ===== -/
def RX0 : String := "SumNames$NameRow"
def TX0 : u_T := fun k => match k with
  | 0 => ("SumNames$NameRow", "codes", "[J", true)
  | 1 => ("SumNames$NameRow", "size", "I", false)
  | 2 => ("SumNames$NameRow", "partCodes", "[J", true)
  | 3 => ("SumNames$NameRow", "partShifts", "[J", true)
  | 4 => ("SumNames$NameRow", "partSums", "[I", true)
  | 5 => ("SumNames$NameRow", "partCount", "I", false)
  | 6 => ("SumNames$NameRow", "wantedDay", "I", false)
  | _ => ("SumNames$NameRow", "divisorsWanted", "Z", false)
def tyX0 : Nat → FieldType := fun k => match k with
  | 0 => .array .long
  | 1 => .int
  | 2 => .array .long
  | 3 => .array .long
  | 4 => .array .int
  | 5 => .int
  | 6 => .int
  | _ => .boolean
abbrev wsX00 : List Cond := u_ws RX0 TX0 8
theorem nmX0 : ∀ a, a < 8 → ∀ b, b < 8 → a ≠ b → (TX0 a).2.1 ≠ (TX0 b).2.1 := by decide +kernel
theorem tyX0_ok : ∀ k, k < 8 → parseFieldDescriptor (TX0 k).2.2.1 = some (tyX0 k) := by decide +kernel
abbrev cX0_init : ByteArray := prog_2_method_1_code
def yX0_init : MethodName := ⟨RX0, "<init>", "()V"⟩
abbrev cX0_gather : ByteArray := prog_2_method_2_code
def yX0_gather : MethodName := ⟨RX0, "gather", "(LSumNames$World;IZ)V"⟩
abbrev cX0_findParts : ByteArray := prog_2_method_3_code
def yX0_findParts : MethodName := ⟨RX0, "findParts", "(LSumNames$World;)V"⟩
abbrev cX0_shiftOf : ByteArray := prog_2_method_4_code
def yX0_shiftOf : MethodName := ⟨RX0, "shiftOf", "(J)J"⟩
abbrev cX0_join : ByteArray := prog_2_method_5_code
def yX0_join : MethodName := ⟨RX0, "join", "(JII)V"⟩
abbrev cX0_addIfWanted : ByteArray := prog_2_method_6_code
def yX0_addIfWanted : MethodName := ⟨RX0, "addIfWanted", "(JI)V"⟩
abbrev cX0_sort : ByteArray := prog_2_method_7_code
def yX0_sort : MethodName := ⟨RX0, "sort", "()V"⟩
abbrev cX0_dropLike : ByteArray := prog_2_method_8_code
def yX0_dropLike : MethodName := ⟨RX0, "dropLike", "()V"⟩
abbrev cX0_dropCalled : ByteArray := prog_2_method_9_code
def yX0_dropCalled : MethodName := ⟨RX0, "dropCalled", "(LSumNames$World;I)V"⟩
abbrev cX0_dropNoNicknames : ByteArray := prog_2_method_10_code
def yX0_dropNoNicknames : MethodName := ⟨RX0, "dropNoNicknames", "(J)V"⟩
def RX1 : String := "SumNames$OldNames"
def TX1 : u_T := fun k => match k with
  | 0 => ("SumNames$OldNames", "ways", "I", false)
  | 1 => ("SumNames$OldNames", "letters", "[I", true)
  | 2 => ("SumNames$OldNames", "letterCount", "I", false)
  | 3 => ("SumNames$OldNames", "times", "[[I", true)
  | 4 => ("SumNames$OldNames", "behind", "[[I", true)
  | 5 => ("SumNames$OldNames", "left", "[I", true)
  | 6 => ("SumNames$OldNames", "wordCount", "I", false)
  | 7 => ("SumNames$OldNames", "given", "[I", true)
  | 8 => ("SumNames$OldNames", "first", "[I", true)
  | _ => ("SumNames$OldNames", "most", "I", false)
def tyX1 : Nat → FieldType := fun k => match k with
  | 0 => .int
  | 1 => .array .int
  | 2 => .int
  | 3 => .array (.array .int)
  | 4 => .array (.array .int)
  | 5 => .array .int
  | 6 => .int
  | 7 => .array .int
  | 8 => .array .int
  | _ => .int
abbrev wsX10 : List Cond := u_ws RX1 TX1 10
theorem nmX1 : ∀ a, a < 10 → ∀ b, b < 10 → a ≠ b → (TX1 a).2.1 ≠ (TX1 b).2.1 := by decide +kernel
theorem tyX1_ok : ∀ k, k < 10 → parseFieldDescriptor (TX1 k).2.2.1 = some (tyX1 k) := by decide +kernel
abbrev cX1_init : ByteArray := prog_3_method_1_code
def yX1_init : MethodName := ⟨RX1, "<init>", "()V"⟩
abbrev cX1_solve : ByteArray := prog_3_method_2_code
def yX1_solve : MethodName := ⟨RX1, "solve", "(LSumNames$World;I)Z"⟩
abbrev cX1_findLetters : ByteArray := prog_3_method_3_code
def yX1_findLetters : MethodName := ⟨RX1, "findLetters", "(LSumNames$World;)Z"⟩
abbrev cX1_isInAny : ByteArray := prog_3_method_4_code
def yX1_isInAny : MethodName := ⟨RX1, "isInAny", "(LSumNames$World;I)Z"⟩
abbrev cX1_addWord : ByteArray := prog_3_method_5_code
def yX1_addWord : MethodName := ⟨RX1, "addWord", "(JI)V"⟩
abbrev cX1_give : ByteArray := prog_3_method_6_code
def yX1_give : MethodName := ⟨RX1, "give", "(I)V"⟩
abbrev cX1_addWay : ByteArray := prog_3_method_7_code
def yX1_addWay : MethodName := ⟨RX1, "addWay", "()V"⟩
abbrev cX1_leastFor : ByteArray := prog_3_method_8_code
def yX1_leastFor : MethodName := ⟨RX1, "leastFor", "(I)I"⟩
abbrev cX1_greatestFor : ByteArray := prog_3_method_9_code
def yX1_greatestFor : MethodName := ⟨RX1, "greatestFor", "(I)I"⟩
abbrev cX1_take : ByteArray := prog_3_method_10_code
def yX1_take : MethodName := ⟨RX1, "take", "(II)V"⟩
abbrev cX1_firstNumberOf : ByteArray := prog_3_method_11_code
def yX1_firstNumberOf : MethodName := ⟨RX1, "firstNumberOf", "(I)I"⟩
def RX2 : String := "SumNames$Reach"
def TX2 : u_T := fun k => match k with
  | 0 => ("SumNames$Reach", "fewest", "[I", true)
  | _ => ("SumNames$Reach", "tried", "[Z", true)
def tyX2 : Nat → FieldType := fun k => match k with
  | 0 => .array .int
  | _ => .array .boolean
abbrev wsX20 : List Cond := u_ws RX2 TX2 2
theorem nmX2 : ∀ a, a < 2 → ∀ b, b < 2 → a ≠ b → (TX2 a).2.1 ≠ (TX2 b).2.1 := by decide +kernel
theorem tyX2_ok : ∀ k, k < 2 → parseFieldDescriptor (TX2 k).2.2.1 = some (tyX2 k) := by decide +kernel
abbrev cX2_init : ByteArray := prog_4_method_1_code
def yX2_init : MethodName := ⟨RX2, "<init>", "()V"⟩
abbrev cX2_measure : ByteArray := prog_4_method_2_code
def yX2_measure : MethodName := ⟨RX2, "measure", "(LSumNames$World;)V"⟩
abbrev cX2_addPart : ByteArray := prog_4_method_3_code
def yX2_addPart : MethodName := ⟨RX2, "addPart", "(I)V"⟩
abbrev cX2_daysWithout : ByteArray := prog_4_method_4_code
def yX2_daysWithout : MethodName := ⟨RX2, "daysWithout", "(II)I"⟩
abbrev cX2_firstWithout : ByteArray := prog_4_method_5_code
def yX2_firstWithout : MethodName := ⟨RX2, "firstWithout", "(II)I"⟩
abbrev cX2_mendingSyllable : ByteArray := prog_4_method_6_code
def yX2_mendingSyllable : MethodName := ⟨RX2, "mendingSyllable", "(LSumNames$World;II)J"⟩
abbrev cX2_mendsAll : ByteArray := prog_4_method_7_code
def yX2_mendsAll : MethodName := ⟨RX2, "mendsAll", "(III)Z"⟩
abbrev cX2_hasNameWith : ByteArray := prog_4_method_8_code
def yX2_hasNameWith : MethodName := ⟨RX2, "hasNameWith", "(II)Z"⟩
def RX3 : String := "SumNames$Reader"
def TX3 : u_T := fun k => match k with
  | 0 => ("SumNames$Reader", "text", "[I", true)
  | 1 => ("SumNames$Reader", "length", "I", false)
  | 2 => ("SumNames$Reader", "draft", "LSumNames$World;", true)
  | 3 => ("SumNames$Reader", "lines", "I", false)
  | 4 => ("SumNames$Reader", "place", "I", false)
  | 5 => ("SumNames$Reader", "token", "I", false)
  | 6 => ("SumNames$Reader", "begin", "I", false)
  | 7 => ("SumNames$Reader", "bytes", "I", false)
  | 8 => ("SumNames$Reader", "value", "J", false)
  | 9 => ("SumNames$Reader", "parent", "I", false)
  | _ => ("SumNames$Reader", "otherParent", "I", false)
def tyX3 : Nat → FieldType := fun k => match k with
  | 0 => .array .int
  | 1 => .int
  | 2 => .object "SumNames$World"
  | 3 => .int
  | 4 => .int
  | 5 => .int
  | 6 => .int
  | 7 => .int
  | 8 => .long
  | 9 => .int
  | _ => .int
abbrev wsX30 : List Cond := u_ws RX3 TX3 11
theorem nmX3 : ∀ a, a < 11 → ∀ b, b < 11 → a ≠ b → (TX3 a).2.1 ≠ (TX3 b).2.1 := by decide +kernel
theorem tyX3_ok : ∀ k, k < 11 → parseFieldDescriptor (TX3 k).2.2.1 = some (tyX3 k) := by decide +kernel
abbrev cX3_init : ByteArray := prog_5_method_1_code
def yX3_init : MethodName := ⟨RX3, "<init>", "()V"⟩
abbrev cX3_append : ByteArray := prog_5_method_2_code
def yX3_append : MethodName := ⟨RX3, "append", "(JI)Z"⟩
abbrev cX3_read : ByteArray := prog_5_method_3_code
def yX3_read : MethodName := ⟨RX3, "read", "(LSumNames$World;)I"⟩
abbrev cX3_readLine : ByteArray := prog_5_method_4_code
def yX3_readLine : MethodName := ⟨RX3, "readLine", "()Z"⟩
abbrev cX3_readLetter : ByteArray := prog_5_method_5_code
def yX3_readLetter : MethodName := ⟨RX3, "readLetter", "()Z"⟩
abbrev cX3_readNoParents : ByteArray := prog_5_method_6_code
def yX3_readNoParents : MethodName := ⟨RX3, "readNoParents", "()Z"⟩
abbrev cX3_readParents : ByteArray := prog_5_method_7_code
def yX3_readParents : MethodName := ⟨RX3, "readParents", "()Z"⟩
abbrev cX3_readBirth : ByteArray := prog_5_method_8_code
def yX3_readBirth : MethodName := ⟨RX3, "readBirth", "()Z"⟩
abbrev cX3_readCall : ByteArray := prog_5_method_9_code
def yX3_readCall : MethodName := ⟨RX3, "readCall", "()Z"⟩
abbrev cX3_readHope : ByteArray := prog_5_method_10_code
def yX3_readHope : MethodName := ⟨RX3, "readHope", "()Z"⟩
abbrev cX3_readDegrees : ByteArray := prog_5_method_11_code
def yX3_readDegrees : MethodName := ⟨RX3, "readDegrees", "()Z"⟩
abbrev cX3_readForget : ByteArray := prog_5_method_12_code
def yX3_readForget : MethodName := ⟨RX3, "readForget", "()Z"⟩
abbrev cX3_readPerson : ByteArray := prog_5_method_13_code
def yX3_readPerson : MethodName := ⟨RX3, "readPerson", "()Z"⟩
abbrev cX3_readNumber : ByteArray := prog_5_method_14_code
def yX3_readNumber : MethodName := ⟨RX3, "readNumber", "(II)Z"⟩
abbrev cX3_readWord : ByteArray := prog_5_method_15_code
def yX3_readWord : MethodName := ⟨RX3, "readWord", "(I)Z"⟩
abbrev cX3_readWordOrNothing : ByteArray := prog_5_method_16_code
def yX3_readWordOrNothing : MethodName := ⟨RX3, "readWordOrNothing", "()Z"⟩
abbrev cX3_says : ByteArray := prog_5_method_17_code
def yX3_says : MethodName := ⟨RX3, "says", "(Ljava/lang/String;)Z"⟩
abbrev cX3_readToken : ByteArray := prog_5_method_18_code
def yX3_readToken : MethodName := ⟨RX3, "readToken", "()V"⟩
abbrev cX3_valueWith : ByteArray := prog_5_method_19_code
def yX3_valueWith : MethodName := ⟨RX3, "valueWith", "(I)J"⟩
abbrev cX3_kindAt : ByteArray := prog_5_method_20_code
def yX3_kindAt : MethodName := ⟨RX3, "kindAt", "(I)I"⟩
def RX4 : String := "SumNames$Sheet"
def TX4 : u_T := fun k => match k with
  | 0 => ("SumNames$Sheet", "items", "[I", true)
  | 1 => ("SumNames$Sheet", "lane", "I", false)
  | _ => ("SumNames$Sheet", "size", "I", false)
def tyX4 : Nat → FieldType := fun k => match k with
  | 0 => .array .int
  | 1 => .int
  | _ => .int
abbrev wsX40 : List Cond := u_ws RX4 TX4 3
theorem nmX4 : ∀ a, a < 3 → ∀ b, b < 3 → a ≠ b → (TX4 a).2.1 ≠ (TX4 b).2.1 := by decide +kernel
theorem tyX4_ok : ∀ k, k < 3 → parseFieldDescriptor (TX4 k).2.2.1 = some (tyX4 k) := by decide +kernel
abbrev cX4_init : ByteArray := prog_6_method_1_code
def yX4_init : MethodName := ⟨RX4, "<init>", "()V"⟩
abbrev cX4_isMissing : ByteArray := prog_6_method_2_code
def yX4_isMissing : MethodName := ⟨RX4, "isMissing", "()Z"⟩
abbrev cX4_begin : ByteArray := prog_6_method_3_code
def yX4_begin : MethodName := ⟨RX4, "begin", "(II)V"⟩
abbrev cX4_hasPlaces : ByteArray := prog_6_method_4_code
def yX4_hasPlaces : MethodName := ⟨RX4, "hasPlaces", "(II)Z"⟩
abbrev cX4_put : ByteArray := prog_6_method_5_code
def yX4_put : MethodName := ⟨RX4, "put", "(II)V"⟩
abbrev cX4_hasOnlyDays : ByteArray := prog_6_method_6_code
def yX4_hasOnlyDays : MethodName := ⟨RX4, "hasOnlyDays", "(II)Z"⟩
def RX5 : String := "SumNames$World"
def TX5 : u_T := fun k => match k with
  | 0 => ("SumNames$World", "numbers", "[I", true)
  | 1 => ("SumNames$World", "syllables", "[J", true)
  | 2 => ("SumNames$World", "syllableCount", "I", false)
  | 3 => ("SumNames$World", "days", "[I", true)
  | 4 => ("SumNames$World", "words", "[J", true)
  | 5 => ("SumNames$World", "parents", "[I", true)
  | 6 => ("SumNames$World", "otherParents", "[I", true)
  | 7 => ("SumNames$World", "kinds", "[I", true)
  | 8 => ("SumNames$World", "personCount", "I", false)
  | 9 => ("SumNames$World", "hopeDays", "[I", true)
  | 10 => ("SumNames$World", "hopeTenths", "[I", true)
  | 11 => ("SumNames$World", "hopeCount", "I", false)
  | _ => ("SumNames$World", "degreesTold", "I", false)
def tyX5 : Nat → FieldType := fun k => match k with
  | 0 => .array .int
  | 1 => .array .long
  | 2 => .int
  | 3 => .array .int
  | 4 => .array .long
  | 5 => .array .int
  | 6 => .array .int
  | 7 => .array .int
  | 8 => .int
  | 9 => .array .int
  | 10 => .array .int
  | 11 => .int
  | _ => .int
abbrev wsX50 : List Cond := u_ws RX5 TX5 13
theorem nmX5 : ∀ a, a < 13 → ∀ b, b < 13 → a ≠ b → (TX5 a).2.1 ≠ (TX5 b).2.1 := by decide +kernel
theorem tyX5_ok : ∀ k, k < 13 → parseFieldDescriptor (TX5 k).2.2.1 = some (tyX5 k) := by decide +kernel
abbrev cX5_init : ByteArray := prog_7_method_1_code
def yX5_init : MethodName := ⟨RX5, "<init>", "()V"⟩
abbrev cX5_takeFrom : ByteArray := prog_7_method_2_code
def yX5_takeFrom : MethodName := ⟨RX5, "takeFrom", "(LSumNames$World;)V"⟩
abbrev cX5_forgetAll : ByteArray := prog_7_method_3_code
def yX5_forgetAll : MethodName := ⟨RX5, "forgetAll", "()V"⟩
abbrev cX5_addSyllable : ByteArray := prog_7_method_4_code
def yX5_addSyllable : MethodName := ⟨RX5, "addSyllable", "(J)Z"⟩
abbrev cX5_addPerson : ByteArray := prog_7_method_5_code
def yX5_addPerson : MethodName := ⟨RX5, "addPerson", "(IIIJ)V"⟩
abbrev cX5_kindOf : ByteArray := prog_7_method_6_code
def yX5_kindOf : MethodName := ⟨RX5, "kindOf", "(III)I"⟩
abbrev cX5_addHope : ByteArray := prog_7_method_7_code
def yX5_addHope : MethodName := ⟨RX5, "addHope", "(II)V"⟩
abbrev cX5_isPerson : ByteArray := prog_7_method_8_code
def yX5_isPerson : MethodName := ⟨RX5, "isPerson", "(I)Z"⟩
abbrev cX5_isSyllable : ByteArray := prog_7_method_9_code
def yX5_isSyllable : MethodName := ⟨RX5, "isSyllable", "(J)Z"⟩
abbrev cX5_sumOf : ByteArray := prog_7_method_10_code
def yX5_sumOf : MethodName := ⟨RX5, "sumOf", "(J)I"⟩
abbrev cX5_sumInNames : ByteArray := prog_7_method_11_code
def yX5_sumInNames : MethodName := ⟨RX5, "sumInNames", "(J)I"⟩
abbrev cX5_isName : ByteArray := prog_7_method_12_code
def yX5_isName : MethodName := ⟨RX5, "isName", "(J)Z"⟩
abbrev cX5_isParted : ByteArray := prog_7_method_13_code
def yX5_isParted : MethodName := ⟨RX5, "isParted", "(JI)Z"⟩
abbrev cX5_addsUp : ByteArray := prog_7_method_14_code
def yX5_addsUp : MethodName := ⟨RX5, "addsUp", "(I)Z"⟩
abbrev cX5_faultOfName : ByteArray := prog_7_method_15_code
def yX5_faultOfName : MethodName := ⟨RX5, "faultOfName", "(I)I"⟩
abbrev cX5_leastCalled : ByteArray := prog_7_method_16_code
def yX5_leastCalled : MethodName := ⟨RX5, "leastCalled", "(JI)I"⟩
abbrev cX5_nearOf : ByteArray := prog_7_method_17_code
def yX5_nearOf : MethodName := ⟨RX5, "nearOf", "(I)I"⟩
abbrev cX5_nearChildOf : ByteArray := prog_7_method_18_code
def yX5_nearChildOf : MethodName := ⟨RX5, "nearChildOf", "(II)I"⟩
abbrev cX5_within : ByteArray := prog_7_method_19_code
def yX5_within : MethodName := ⟨RX5, "within", "(II)I"⟩
abbrev cX5_oneStepMore : ByteArray := prog_7_method_20_code
def yX5_oneStepMore : MethodName := ⟨RX5, "oneStepMore", "(I)I"⟩
abbrev cX5_stepsBetween : ByteArray := prog_7_method_21_code
def yX5_stepsBetween : MethodName := ⟨RX5, "stepsBetween", "(II)I"⟩
abbrev cX5_sumOfAll : ByteArray := prog_7_method_22_code
def yX5_sumOfAll : MethodName := ⟨RX5, "sumOfAll", "(I)I"⟩
abbrev cX5_changesBy : ByteArray := prog_7_method_23_code
def yX5_changesBy : MethodName := ⟨RX5, "changesBy", "(JI)I"⟩
abbrev cX5_othersOfNumber : ByteArray := prog_7_method_24_code
def yX5_othersOfNumber : MethodName := ⟨RX5, "othersOfNumber", "(II)I"⟩
def RX6 : String := "SumNames"
def TX6 : u_T := fun k => match k with
  | 0 => ("SumNames", "now", "LSumNames$World;", true)
  | 1 => ("SumNames", "images", "[LSumNames$World;", true)
  | 2 => ("SumNames", "reader", "LSumNames$Reader;", true)
  | 3 => ("SumNames", "row", "LSumNames$NameRow;", true)
  | 4 => ("SumNames", "reach", "LSumNames$Reach;", true)
  | 5 => ("SumNames", "oldNames", "LSumNames$OldNames;", true)
  | 6 => ("SumNames", "sheets", "[LSumNames$Sheet;", true)
  | _ => ("SumNames", "rooms", "[I", true)
def tyX6 : Nat → FieldType := fun k => match k with
  | 0 => .object "SumNames$World"
  | 1 => .array (.object "SumNames$World")
  | 2 => .object "SumNames$Reader"
  | 3 => .object "SumNames$NameRow"
  | 4 => .object "SumNames$Reach"
  | 5 => .object "SumNames$OldNames"
  | 6 => .array (.object "SumNames$Sheet")
  | _ => .array .int
abbrev wsX60 : List Cond := u_ws RX6 TX6 8
theorem nmX6 : ∀ a, a < 8 → ∀ b, b < 8 → a ≠ b → (TX6 a).2.1 ≠ (TX6 b).2.1 := by decide +kernel
theorem tyX6_ok : ∀ k, k < 8 → parseFieldDescriptor (TX6 k).2.2.1 = some (tyX6 k) := by decide +kernel
abbrev cX6_init : ByteArray := prog_1_method_1_code
def yX6_init : MethodName := ⟨RX6, "<init>", "()V"⟩
abbrev cX6_write : ByteArray := prog_1_method_2_code
def yX6_write : MethodName := ⟨RX6, "write", "(JI)I"⟩
abbrev cX6_erase : ByteArray := prog_1_method_3_code
def yX6_erase : MethodName := ⟨RX6, "erase", "()I"⟩
abbrev cX6_fault : ByteArray := prog_1_method_4_code
def yX6_fault : MethodName := ⟨RX6, "fault", "()I"⟩
abbrev cX6_told : ByteArray := prog_1_method_5_code
def yX6_told : MethodName := ⟨RX6, "told", "()I"⟩
abbrev cX6_letter : ByteArray := prog_1_method_6_code
def yX6_letter : MethodName := ⟨RX6, "letter", "(I)I"⟩
abbrev cX6_person : ByteArray := prog_1_method_7_code
def yX6_person : MethodName := ⟨RX6, "person", "(II)I"⟩
abbrev cX6_called : ByteArray := prog_1_method_8_code
def yX6_called : MethodName := ⟨RX6, "called", "(I)J"⟩
abbrev cX6_degrees : ByteArray := prog_1_method_9_code
def yX6_degrees : MethodName := ⟨RX6, "degrees", "(II)I"⟩
abbrev cX6_as : ByteArray := prog_1_method_10_code
def yX6_as : MethodName := ⟨RX6, "as", "(II)I"⟩
abbrev cX6_isOfKind : ByteArray := prog_1_method_11_code
def yX6_isOfKind : MethodName := ⟨RX6, "isOfKind", "(II)Z"⟩
abbrev cX6_sum : ByteArray := prog_1_method_12_code
def yX6_sum : MethodName := ⟨RX6, "sum", "(J)I"⟩
abbrev cX6_name : ByteArray := prog_1_method_13_code
def yX6_name : MethodName := ⟨RX6, "name", "(J)I"⟩
abbrev cX6_judge : ByteArray := prog_1_method_14_code
def yX6_judge : MethodName := ⟨RX6, "judge", "(I)I"⟩
abbrev cX6_taker : ByteArray := prog_1_method_15_code
def yX6_taker : MethodName := ⟨RX6, "taker", "(I)I"⟩
abbrev cX6_names : ByteArray := prog_1_method_16_code
def yX6_names : MethodName := ⟨RX6, "names", "(II)I"⟩
abbrev cX6_which : ByteArray := prog_1_method_17_code
def yX6_which : MethodName := ⟨RX6, "which", "(II)J"⟩
abbrev cX6_free : ByteArray := prog_1_method_18_code
def yX6_free : MethodName := ⟨RX6, "free", "(II)J"⟩
abbrev cX6_hopes : ByteArray := prog_1_method_19_code
def yX6_hopes : MethodName := ⟨RX6, "hopes", "(III)J"⟩
abbrev cX6_findRooms : ByteArray := prog_1_method_20_code
def yX6_findRooms : MethodName := ⟨RX6, "findRooms", "(I)V"⟩
abbrev cX6_waysWithNames : ByteArray := prog_1_method_21_code
def yX6_waysWithNames : MethodName := ⟨RX6, "waysWithNames", "()J"⟩
abbrev cX6_allHaveNames : ByteArray := prog_1_method_22_code
def yX6_allHaveNames : MethodName := ⟨RX6, "allHaveNames", "(I)Z"⟩
abbrev cX6_comingWith : ByteArray := prog_1_method_23_code
def yX6_comingWith : MethodName := ⟨RX6, "comingWith", "(II)I"⟩
abbrev cX6_waysOfComing : ByteArray := prog_1_method_24_code
def yX6_waysOfComing : MethodName := ⟨RX6, "waysOfComing", "(I)J"⟩
abbrev cX6_without : ByteArray := prog_1_method_25_code
def yX6_without : MethodName := ⟨RX6, "without", "(III)I"⟩
abbrev cX6_mend : ByteArray := prog_1_method_26_code
def yX6_mend : MethodName := ⟨RX6, "mend", "(II)J"⟩
abbrev cX6_old : ByteArray := prog_1_method_27_code
def yX6_old : MethodName := ⟨RX6, "old", "(II)I"⟩
abbrev cX6_reform : ByteArray := prog_1_method_28_code
def yX6_reform : MethodName := ⟨RX6, "reform", "(II)I"⟩
abbrev cX6_bestReformedLetter : ByteArray := prog_1_method_29_code
def yX6_bestReformedLetter : MethodName := ⟨RX6, "bestReformedLetter", "(I)I"⟩
abbrev cX6_reformedNumber : ByteArray := prog_1_method_30_code
def yX6_reformedNumber : MethodName := ⟨RX6, "reformedNumber", "(II)I"⟩
abbrev cX6_calledAnew : ByteArray := prog_1_method_31_code
def yX6_calledAnew : MethodName := ⟨RX6, "calledAnew", "(II)I"⟩
abbrev cX6_nicknames : ByteArray := prog_1_method_32_code
def yX6_nicknames : MethodName := ⟨RX6, "nicknames", "(II)J"⟩
abbrev cX6_page : ByteArray := prog_1_method_33_code
def yX6_page : MethodName := ⟨RX6, "page", "(III)I"⟩
abbrev cX6_sheet : ByteArray := prog_1_method_34_code
def yX6_sheet : MethodName := ⟨RX6, "sheet", "(III)I"⟩
abbrev cX6_tear : ByteArray := prog_1_method_35_code
def yX6_tear : MethodName := ⟨RX6, "tear", "(I)I"⟩
abbrev cX6_lay : ByteArray := prog_1_method_36_code
def yX6_lay : MethodName := ⟨RX6, "lay", "(III)I"⟩
abbrev cX6_copy : ByteArray := prog_1_method_37_code
def yX6_copy : MethodName := ⟨RX6, "copy", "(IIIII)I"⟩
abbrev cX6_hope : ByteArray := prog_1_method_38_code
def yX6_hope : MethodName := ⟨RX6, "hope", "(IIIII)I"⟩
abbrev cX6_keep : ByteArray := prog_1_method_39_code
def yX6_keep : MethodName := ⟨RX6, "keep", "(I)I"⟩
abbrev cX6_back : ByteArray := prog_1_method_40_code
def yX6_back : MethodName := ⟨RX6, "back", "(I)I"⟩
abbrev cX6_count : ByteArray := prog_1_method_41_code
def yX6_count : MethodName := ⟨RX6, "count", "(I)I"⟩
abbrev cX6_isLetter : ByteArray := prog_1_method_42_code
def yX6_isLetter : MethodName := ⟨RX6, "isLetter", "(I)Z"⟩
abbrev cX6_isDay : ByteArray := prog_1_method_43_code
def yX6_isDay : MethodName := ⟨RX6, "isDay", "(I)Z"⟩
abbrev cX6_areDays : ByteArray := prog_1_method_44_code
def yX6_areDays : MethodName := ⟨RX6, "areDays", "(II)Z"⟩
abbrev cX6_isZeroOrOne : ByteArray := prog_1_method_45_code
def yX6_isZeroOrOne : MethodName := ⟨RX6, "isZeroOrOne", "(I)Z"⟩
abbrev cX6_isSheet : ByteArray := prog_1_method_46_code
def yX6_isSheet : MethodName := ⟨RX6, "isSheet", "(I)Z"⟩
abbrev cX6_isLane : ByteArray := prog_1_method_47_code
def yX6_isLane : MethodName := ⟨RX6, "isLane", "(I)Z"⟩
abbrev cX6_isImage : ByteArray := prog_1_method_48_code
def yX6_isImage : MethodName := ⟨RX6, "isImage", "(I)Z"⟩
abbrev cX6_lettersOf : ByteArray := prog_1_method_49_code
def yX6_lettersOf : MethodName := ⟨RX6, "lettersOf", "(J)I"⟩
abbrev cX6_lastLetter : ByteArray := prog_1_method_50_code
def yX6_lastLetter : MethodName := ⟨RX6, "lastLetter", "(J)I"⟩
abbrev cX6_timesIn : ByteArray := prog_1_method_51_code
def yX6_timesIn : MethodName := ⟨RX6, "timesIn", "(JI)I"⟩
abbrev cX6_isLeftOf : ByteArray := prog_1_method_52_code
def yX6_isLeftOf : MethodName := ⟨RX6, "isLeftOf", "(JJ)Z"⟩
abbrev cX6_commonDivisor : ByteArray := prog_1_method_53_code
def yX6_commonDivisor : MethodName := ⟨RX6, "commonDivisor", "(JJ)J"⟩
def RX7 : String := "SumNamesModel"
def TX7 : u_T := fun k => match k with
  | 0 => ("SumNamesModel", "row", "[I", true)
  | 1 => ("SumNamesModel", "words", "[J", true)
  | 2 => ("SumNamesModel", "isKept", "[Z", true)
  | 3 => ("SumNamesModel", "text", "[I", true)
  | 4 => ("SumNamesModel", "length", "I", false)
  | 5 => ("SumNamesModel", "read", "[I", true)
  | 6 => ("SumNamesModel", "readWord", "[J", true)
  | 7 => ("SumNamesModel", "readMany", "I", false)
  | 8 => ("SumNamesModel", "lanes", "[I", true)
  | 9 => ("SumNamesModel", "sizes", "[I", true)
  | 10 => ("SumNamesModel", "items", "[I", true)
  | 11 => ("SumNamesModel", "at", "I", false)
  | 12 => ("SumNamesModel", "place", "I", false)
  | 13 => ("SumNamesModel", "end", "I", false)
  | 14 => ("SumNamesModel", "readPersons", "I", false)
  | 15 => ("SumNamesModel", "readHopes", "I", false)
  | 16 => ("SumNamesModel", "readSyls", "I", false)
  | 17 => ("SumNamesModel", "readSyl", "[I", true)
  | 18 => ("SumNamesModel", "far", "[I", true)
  | 19 => ("SumNamesModel", "names", "[J", true)
  | 20 => ("SumNamesModel", "nameMany", "I", false)
  | 21 => ("SumNamesModel", "room", "[I", true)
  | 22 => ("SumNamesModel", "sums", "[I", true)
  | 23 => ("SumNamesModel", "sumMany", "I", false)
  | 24 => ("SumNamesModel", "named", "[Z", true)
  | 25 => ("SumNamesModel", "used", "[I", true)
  | 26 => ("SumNamesModel", "usedMany", "I", false)
  | 27 => ("SumNamesModel", "trial", "[I", true)
  | _ => ("SumNamesModel", "found", "[J", true)
def tyX7 : Nat → FieldType := fun k => match k with
  | 0 => .array .int
  | 1 => .array .long
  | 2 => .array .boolean
  | 3 => .array .int
  | 4 => .int
  | 5 => .array .int
  | 6 => .array .long
  | 7 => .int
  | 8 => .array .int
  | 9 => .array .int
  | 10 => .array .int
  | 11 => .int
  | 12 => .int
  | 13 => .int
  | 14 => .int
  | 15 => .int
  | 16 => .int
  | 17 => .array .int
  | 18 => .array .int
  | 19 => .array .long
  | 20 => .int
  | 21 => .array .int
  | 22 => .array .int
  | 23 => .int
  | 24 => .array .boolean
  | 25 => .array .int
  | 26 => .int
  | 27 => .array .int
  | _ => .array .long
abbrev wsX70 : List Cond := u_ws RX7 TX7 29
theorem nmX7 : ∀ a, a < 29 → ∀ b, b < 29 → a ≠ b → (TX7 a).2.1 ≠ (TX7 b).2.1 := by decide +kernel
theorem tyX7_ok : ∀ k, k < 29 → parseFieldDescriptor (TX7 k).2.2.1 = some (tyX7 k) := by decide +kernel
abbrev cX7_init : ByteArray := prog_9_method_1_code
def yX7_init : MethodName := ⟨RX7, "<init>", "()V"⟩
abbrev cX7_in : ByteArray := prog_9_method_2_code
def yX7_in : MethodName := ⟨RX7, "in", "(JJJ)Z"⟩
abbrev cX7_has : ByteArray := prog_9_method_3_code
def yX7_has : MethodName := ⟨RX7, "has", "(II)Z"⟩
abbrev cX7_write : ByteArray := prog_9_method_4_code
def yX7_write : MethodName := ⟨RX7, "write", "(JI)I"⟩
abbrev cX7_erase : ByteArray := prog_9_method_5_code
def yX7_erase : MethodName := ⟨RX7, "erase", "()I"⟩
abbrev cX7_sort : ByteArray := prog_9_method_6_code
def yX7_sort : MethodName := ⟨RX7, "sort", "(I)I"⟩
abbrev cX7_token : ByteArray := prog_9_method_7_code
def yX7_token : MethodName := ⟨RX7, "token", "()V"⟩
abbrev cX7_isWord : ByteArray := prog_9_method_8_code
def yX7_isWord : MethodName := ⟨RX7, "isWord", "(JI)Z"⟩
abbrev cX7_wordOf : ByteArray := prog_9_method_9_code
def yX7_wordOf : MethodName := ⟨RX7, "wordOf", "()I"⟩
abbrev cX7_reads : ByteArray := prog_9_method_10_code
def yX7_reads : MethodName := ⟨RX7, "reads", "(IIII)Z"⟩
abbrev cX7_codeHere : ByteArray := prog_9_method_11_code
def yX7_codeHere : MethodName := ⟨RX7, "codeHere", "(I)J"⟩
abbrev cX7_readsLetter : ByteArray := prog_9_method_12_code
def yX7_readsLetter : MethodName := ⟨RX7, "readsLetter", "()Z"⟩
abbrev cX7_readsSyl : ByteArray := prog_9_method_13_code
def yX7_readsSyl : MethodName := ⟨RX7, "readsSyl", "()Z"⟩
abbrev cX7_readsWord : ByteArray := prog_9_method_14_code
def yX7_readsWord : MethodName := ⟨RX7, "readsWord", "()Z"⟩
abbrev cX7_readsRest : ByteArray := prog_9_method_15_code
def yX7_readsRest : MethodName := ⟨RX7, "readsRest", "(I)Z"⟩
abbrev cX7_readsLine : ByteArray := prog_9_method_16_code
def yX7_readsLine : MethodName := ⟨RX7, "readsLine", "()Z"⟩
abbrev cX7_fault : ByteArray := prog_9_method_17_code
def yX7_fault : MethodName := ⟨RX7, "fault", "()I"⟩
abbrev cX7_bear : ByteArray := prog_9_method_18_code
def yX7_bear : MethodName := ⟨RX7, "bear", "(IIIJ)V"⟩
abbrev cX7_hopeFor : ByteArray := prog_9_method_19_code
def yX7_hopeFor : MethodName := ⟨RX7, "hopeFor", "(II)V"⟩
abbrev cX7_tell : ByteArray := prog_9_method_20_code
def yX7_tell : MethodName := ⟨RX7, "tell", "(I)V"⟩
abbrev cX7_told : ByteArray := prog_9_method_21_code
def yX7_told : MethodName := ⟨RX7, "told", "()I"⟩
abbrev cX7_letter : ByteArray := prog_9_method_22_code
def yX7_letter : MethodName := ⟨RX7, "letter", "(I)I"⟩
abbrev cX7_isPerson : ByteArray := prog_9_method_23_code
def yX7_isPerson : MethodName := ⟨RX7, "isPerson", "(I)Z"⟩
abbrev cX7_kindOf : ByteArray := prog_9_method_24_code
def yX7_kindOf : MethodName := ⟨RX7, "kindOf", "(I)I"⟩
abbrev cX7_areNext : ByteArray := prog_9_method_25_code
def yX7_areNext : MethodName := ⟨RX7, "areNext", "(II)Z"⟩
abbrev cX7_layFar : ByteArray := prog_9_method_26_code
def yX7_layFar : MethodName := ⟨RX7, "layFar", "(I)V"⟩
abbrev cX7_within : ByteArray := prog_9_method_27_code
def yX7_within : MethodName := ⟨RX7, "within", "(II)I"⟩
abbrev cX7_near : ByteArray := prog_9_method_28_code
def yX7_near : MethodName := ⟨RX7, "near", "(I)I"⟩
abbrev cX7_bits : ByteArray := prog_9_method_29_code
def yX7_bits : MethodName := ⟨RX7, "bits", "(I)I"⟩
abbrev cX7_person : ByteArray := prog_9_method_30_code
def yX7_person : MethodName := ⟨RX7, "person", "(II)I"⟩
abbrev cX7_called : ByteArray := prog_9_method_31_code
def yX7_called : MethodName := ⟨RX7, "called", "(I)J"⟩
abbrev cX7_degrees : ByteArray := prog_9_method_32_code
def yX7_degrees : MethodName := ⟨RX7, "degrees", "(II)I"⟩
abbrev cX7_as : ByteArray := prog_9_method_33_code
def yX7_as : MethodName := ⟨RX7, "as", "(II)I"⟩
abbrev cX7_lettersOf : ByteArray := prog_9_method_34_code
def yX7_lettersOf : MethodName := ⟨RX7, "lettersOf", "(J)I"⟩
abbrev cX7_isCode : ByteArray := prog_9_method_35_code
def yX7_isCode : MethodName := ⟨RX7, "isCode", "(J)Z"⟩
abbrev cX7_sumOf : ByteArray := prog_9_method_36_code
def yX7_sumOf : MethodName := ⟨RX7, "sumOf", "(J)I"⟩
abbrev cX7_isBare : ByteArray := prog_9_method_37_code
def yX7_isBare : MethodName := ⟨RX7, "isBare", "(J)Z"⟩
abbrev cX7_joined : ByteArray := prog_9_method_38_code
def yX7_joined : MethodName := ⟨RX7, "joined", "(JJ)J"⟩
abbrev cX7_addName : ByteArray := prog_9_method_39_code
def yX7_addName : MethodName := ⟨RX7, "addName", "(J)V"⟩
abbrev cX7_layNames : ByteArray := prog_9_method_40_code
def yX7_layNames : MethodName := ⟨RX7, "layNames", "()V"⟩
abbrev cX7_isName : ByteArray := prog_9_method_41_code
def yX7_isName : MethodName := ⟨RX7, "isName", "(J)Z"⟩
abbrev cX7_sum : ByteArray := prog_9_method_42_code
def yX7_sum : MethodName := ⟨RX7, "sum", "(J)I"⟩
abbrev cX7_name : ByteArray := prog_9_method_43_code
def yX7_name : MethodName := ⟨RX7, "name", "(J)I"⟩
abbrev cX7_takerOf : ByteArray := prog_9_method_44_code
def yX7_takerOf : MethodName := ⟨RX7, "takerOf", "(I)I"⟩
abbrev cX7_judge : ByteArray := prog_9_method_45_code
def yX7_judge : MethodName := ⟨RX7, "judge", "(I)I"⟩
abbrev cX7_taker : ByteArray := prog_9_method_46_code
def yX7_taker : MethodName := ⟨RX7, "taker", "(I)I"⟩
abbrev cX7_isDay : ByteArray := prog_9_method_47_code
def yX7_isDay : MethodName := ⟨RX7, "isDay", "(I)Z"⟩
abbrev cX7_names : ByteArray := prog_9_method_48_code
def yX7_names : MethodName := ⟨RX7, "names", "(II)I"⟩
abbrev cX7_which : ByteArray := prog_9_method_49_code
def yX7_which : MethodName := ⟨RX7, "which", "(II)J"⟩
abbrev cX7_isFree : ByteArray := prog_9_method_50_code
def yX7_isFree : MethodName := ⟨RX7, "isFree", "(JI)Z"⟩
abbrev cX7_free : ByteArray := prog_9_method_51_code
def yX7_free : MethodName := ⟨RX7, "free", "(II)J"⟩
abbrev cX7_divisor : ByteArray := prog_9_method_52_code
def yX7_divisor : MethodName := ⟨RX7, "divisor", "(JJ)J"⟩
abbrev cX7_allNamed : ByteArray := prog_9_method_53_code
def yX7_allNamed : MethodName := ⟨RX7, "allNamed", "(I)Z"⟩
abbrev cX7_hopes : ByteArray := prog_9_method_54_code
def yX7_hopes : MethodName := ⟨RX7, "hopes", "(III)J"⟩
abbrev cX7_mark : ByteArray := prog_9_method_55_code
def yX7_mark : MethodName := ⟨RX7, "mark", "(I)V"⟩
abbrev cX7_layNamed : ByteArray := prog_9_method_56_code
def yX7_layNamed : MethodName := ⟨RX7, "layNamed", "()V"⟩
abbrev cX7_laySums : ByteArray := prog_9_method_57_code
def yX7_laySums : MethodName := ⟨RX7, "laySums", "()V"⟩
abbrev cX7_bare : ByteArray := prog_9_method_58_code
def yX7_bare : MethodName := ⟨RX7, "bare", "(IIZ)I"⟩
abbrev cX7_areDays : ByteArray := prog_9_method_59_code
def yX7_areDays : MethodName := ⟨RX7, "areDays", "(II)Z"⟩
abbrev cX7_without : ByteArray := prog_9_method_60_code
def yX7_without : MethodName := ⟨RX7, "without", "(III)I"⟩
abbrev cX7_isSyl : ByteArray := prog_9_method_61_code
def yX7_isSyl : MethodName := ⟨RX7, "isSyl", "(J)Z"⟩
abbrev cX7_mend : ByteArray := prog_9_method_62_code
def yX7_mend : MethodName := ⟨RX7, "mend", "(II)J"⟩
abbrev cX7_layUsed : ByteArray := prog_9_method_63_code
def yX7_layUsed : MethodName := ⟨RX7, "layUsed", "()Z"⟩
abbrev cX7_allAdd : ByteArray := prog_9_method_64_code
def yX7_allAdd : MethodName := ⟨RX7, "allAdd", "()Z"⟩
abbrev cX7_figure : ByteArray := prog_9_method_65_code
def yX7_figure : MethodName := ⟨RX7, "figure", "(III)I"⟩
abbrev cX7_old : ByteArray := prog_9_method_66_code
def yX7_old : MethodName := ⟨RX7, "old", "(II)I"⟩
abbrev cX7_timesIn : ByteArray := prog_9_method_67_code
def yX7_timesIn : MethodName := ⟨RX7, "timesIn", "(JI)I"⟩
abbrev cX7_anew : ByteArray := prog_9_method_68_code
def yX7_anew : MethodName := ⟨RX7, "anew", "(III)I"⟩
abbrev cX7_reform : ByteArray := prog_9_method_69_code
def yX7_reform : MethodName := ⟨RX7, "reform", "(II)I"⟩
abbrev cX7_nicknames : ByteArray := prog_9_method_70_code
def yX7_nicknames : MethodName := ⟨RX7, "nicknames", "(II)J"⟩
abbrev cX7_page : ByteArray := prog_9_method_71_code
def yX7_page : MethodName := ⟨RX7, "page", "(III)I"⟩
abbrev cX7_isSheet : ByteArray := prog_9_method_72_code
def yX7_isSheet : MethodName := ⟨RX7, "isSheet", "(I)Z"⟩
abbrev cX7_sheet : ByteArray := prog_9_method_73_code
def yX7_sheet : MethodName := ⟨RX7, "sheet", "(III)I"⟩
abbrev cX7_tear : ByteArray := prog_9_method_74_code
def yX7_tear : MethodName := ⟨RX7, "tear", "(I)I"⟩
abbrev cX7_lay : ByteArray := prog_9_method_75_code
def yX7_lay : MethodName := ⟨RX7, "lay", "(III)I"⟩
abbrev cX7_copy : ByteArray := prog_9_method_76_code
def yX7_copy : MethodName := ⟨RX7, "copy", "(IIIII)I"⟩
abbrev cX7_hope : ByteArray := prog_9_method_77_code
def yX7_hope : MethodName := ⟨RX7, "hope", "(IIIII)I"⟩
abbrev cX7_move : ByteArray := prog_9_method_78_code
def yX7_move : MethodName := ⟨RX7, "move", "(II)V"⟩
abbrev cX7_keep : ByteArray := prog_9_method_79_code
def yX7_keep : MethodName := ⟨RX7, "keep", "(I)I"⟩
abbrev cX7_back : ByteArray := prog_9_method_80_code
def yX7_back : MethodName := ⟨RX7, "back", "(I)I"⟩
abbrev cX7_count : ByteArray := prog_9_method_81_code
def yX7_count : MethodName := ⟨RX7, "count", "(I)I"⟩
def RJ6 : String := "java/lang/Integer"
def TJ6 : u_T := fun k => match k with
  | _ => ("", "", "", false)
def tyJ6 : Nat → FieldType := fun k => match k with
  | _ => .int
abbrev wsJ60 : List Cond := u_ws RJ6 TJ6 0
theorem nmJ6 : ∀ a, a < 0 → ∀ b, b < 0 → a ≠ b → (TJ6 a).2.1 ≠ (TJ6 b).2.1 := by decide +kernel
theorem tyJ6_ok : ∀ k, k < 0 → parseFieldDescriptor (TJ6 k).2.2.1 = some (tyJ6 k) := by decide +kernel
abbrev cJ6_bitCount_0f7a4 : ByteArray := prog_10_method_49_code
def yJ6_bitCount_0f7a4 : MethodName := ⟨RJ6, "bitCount", "(I)I"⟩
def RJ9 : String := "java/lang/Math"
def TJ9 : u_T := fun k => match k with
  | _ => ("", "", "", false)
def tyJ9 : Nat → FieldType := fun k => match k with
  | _ => .int
abbrev wsJ90 : List Cond := u_ws RJ9 TJ9 0
theorem nmJ9 : ∀ a, a < 0 → ∀ b, b < 0 → a ≠ b → (TJ9 a).2.1 ≠ (TJ9 b).2.1 := by decide +kernel
theorem tyJ9_ok : ∀ k, k < 0 → parseFieldDescriptor (TJ9 k).2.2.1 = some (tyJ9 k) := by decide +kernel
abbrev cJ9_floorDiv_7cf53 : ByteArray := prog_11_method_47_code
def yJ9_floorDiv_7cf53 : MethodName := ⟨RJ9, "floorDiv", "(II)I"⟩
abbrev cJ9_max_7cf53 : ByteArray := prog_11_method_65_code
def yJ9_max_7cf53 : MethodName := ⟨RJ9, "max", "(II)I"⟩
abbrev cJ9_max_f86c9 : ByteArray := prog_11_method_66_code
def yJ9_max_f86c9 : MethodName := ⟨RJ9, "max", "(JJ)J"⟩
abbrev cJ9_min_7cf53 : ByteArray := prog_11_method_69_code
def yJ9_min_7cf53 : MethodName := ⟨RJ9, "min", "(II)I"⟩
def RJ0 : String := "java/lang/String"
def TJ0 : u_T := fun k => match k with
  | _ => ("", "", "", false)
def tyJ0 : Nat → FieldType := fun k => match k with
  | _ => .int
abbrev wsJ00 : List Cond := u_ws RJ0 TJ0 0
theorem nmJ0 : ∀ a, a < 0 → ∀ b, b < 0 → a ≠ b → (TJ0 a).2.1 ≠ (TJ0 b).2.1 := by decide +kernel
theorem tyJ0_ok : ∀ k, k < 0 → parseFieldDescriptor (TJ0 k).2.2.1 = some (tyJ0 k) := by decide +kernel
abbrev cJ0_length_8abf5 : ByteArray := prog_12_method_54_code
def yJ0_length_8abf5 : MethodName := ⟨RJ0, "length", "()I"⟩
abbrev cJ0_charAt_5068e : ByteArray := prog_12_method_56_code
def yJ0_charAt_5068e : MethodName := ⟨RJ0, "charAt", "(I)C"⟩
abbrev cJ0_coder_7d493 : ByteArray := prog_12_method_152_code
def yJ0_coder_7d493 : MethodName := ⟨RJ0, "coder", "()B"⟩
abbrev cJ0_isLatin1_aae02 : ByteArray := prog_12_method_154_code
def yJ0_isLatin1_aae02 : MethodName := ⟨RJ0, "isLatin1", "()Z"⟩
abbrev cJ0_checkIndex_df160 : ByteArray := prog_12_method_155_code
def yJ0_checkIndex_df160 : MethodName := ⟨RJ0, "checkIndex", "(II)V"⟩
def RJ1 : String := "java/lang/StringLatin1"
def TJ1 : u_T := fun k => match k with
  | _ => ("", "", "", false)
def tyJ1 : Nat → FieldType := fun k => match k with
  | _ => .int
abbrev wsJ10 : List Cond := u_ws RJ1 TJ1 0
theorem nmJ1 : ∀ a, a < 0 → ∀ b, b < 0 → a ≠ b → (TJ1 a).2.1 ≠ (TJ1 b).2.1 := by decide +kernel
theorem tyJ1_ok : ∀ k, k < 0 → parseFieldDescriptor (TJ1 k).2.2.1 = some (tyJ1 k) := by decide +kernel
abbrev cJ1_charAt_3b067 : ByteArray := prog_13_method_2_code
def yJ1_charAt_3b067 : MethodName := ⟨RJ1, "charAt", "([BI)C"⟩
def RJ2 : String := "java/lang/StringUTF16"
def TJ2 : u_T := fun k => match k with
  | _ => ("", "", "", false)
def tyJ2 : Nat → FieldType := fun k => match k with
  | _ => .int
abbrev wsJ20 : List Cond := u_ws RJ2 TJ2 0
theorem nmJ2 : ∀ a, a < 0 → ∀ b, b < 0 → a ≠ b → (TJ2 a).2.1 ≠ (TJ2 b).2.1 := by decide +kernel
theorem tyJ2_ok : ∀ k, k < 0 → parseFieldDescriptor (TJ2 k).2.2.1 = some (tyJ2 k) := by decide +kernel
abbrev cJ2_getChar_3b067 : ByteArray := prog_14_method_5_code
def yJ2_getChar_3b067 : MethodName := ⟨RJ2, "getChar", "([BI)C"⟩
abbrev cJ2_length_9d52b : ByteArray := prog_14_method_6_code
def yJ2_length_9d52b : MethodName := ⟨RJ2, "length", "([B)I"⟩
abbrev cJ2_charAt_3b067 : ByteArray := prog_14_method_83_code
def yJ2_charAt_3b067 : MethodName := ⟨RJ2, "charAt", "([BI)C"⟩
abbrev cJ2_checkIndex_2214a : ByteArray := prog_14_method_91_code
def yJ2_checkIndex_2214a : MethodName := ⟨RJ2, "checkIndex", "(I[B)V"⟩
def RJ10 : String := "java/lang/System"
def TJ10 : u_T := fun k => match k with
  | _ => ("", "", "", false)
def tyJ10 : Nat → FieldType := fun k => match k with
  | _ => .int
abbrev wsJ100 : List Cond := u_ws RJ10 TJ10 0
theorem nmJ10 : ∀ a, a < 0 → ∀ b, b < 0 → a ≠ b → (TJ10 a).2.1 ≠ (TJ10 b).2.1 := by decide +kernel
theorem tyJ10_ok : ∀ k, k < 0 → parseFieldDescriptor (TJ10 k).2.2.1 = some (tyJ10 k) := by decide +kernel
def RJ3 : String := "jdk/internal/util/Preconditions"
def TJ3 : u_T := fun k => match k with
  | _ => ("", "", "", false)
def tyJ3 : Nat → FieldType := fun k => match k with
  | _ => .int
abbrev wsJ30 : List Cond := u_ws RJ3 TJ3 0
theorem nmJ3 : ∀ a, a < 0 → ∀ b, b < 0 → a ≠ b → (TJ3 a).2.1 ≠ (TJ3 b).2.1 := by decide +kernel
theorem tyJ3_ok : ∀ k, k < 0 → parseFieldDescriptor (TJ3 k).2.2.1 = some (tyJ3 k) := by decide +kernel
abbrev cJ3_checkIndex_8e157 : ByteArray := prog_16_method_11_code
def yJ3_checkIndex_8e157 : MethodName := ⟨RJ3, "checkIndex", "(IILjava/util/function/BiFunction;)I"⟩
def RL : String := "SumNamesLaw"
abbrev cL_law : ByteArray := code
def yL_law : MethodName := ⟨RL, "law", "([I)Z"⟩
def wsX0_init : List Cond := .code yX0_init cX0_init 1 none :: ([.methodLink RX0 3 objectInit, .instanceMethod objectInit, .code objectInit ⟨#[0xb1]⟩ 1 none, .arrayClass .long, .fieldLink RX0 9 "SumNames$NameRow" "codes" "[J", .fieldLink RX0 15 "SumNames$NameRow" "size" "I", .fieldLink RX0 19 "SumNames$NameRow" "partCodes" "[J", .fieldLink RX0 22 "SumNames$NameRow" "partShifts" "[J", .arrayClass .int, .fieldLink RX0 25 "SumNames$NameRow" "partSums" "[I", .fieldLink RX0 29 "SumNames$NameRow" "partCount" "I", .fieldLink RX0 32 "SumNames$NameRow" "wantedDay" "I", .fieldLink RX0 35 "SumNames$NameRow" "divisorsWanted" "Z"] ++ wsX00)
def wsX6_lastLetter : List Cond := .code yX6_lastLetter cX6_lastLetter 2 (some .int) :: ([.constantLong RX6 310 (27)])
def wsX6_isLetter : List Cond := .code yX6_isLetter cX6_isLetter 1 (some .boolean) :: ([])
def wsX5_sumOf : List Cond := .code yX5_sumOf cX5_sumOf 8 (some .int) :: ([.fieldLink RX5 9 "SumNames$World" "numbers" "[I", .constantLong RX5 75 (27), .static yX6_lastLetter, .initialized RX6, .code yX6_lastLetter cX6_lastLetter 2 (some .int), .constantLong RX6 310 (27), .static yX6_isLetter, .code yX6_isLetter cX6_isLetter 1 (some .boolean)] ++ wsX50)
def wsX5_sumInNames : List Cond := .code yX5_sumInNames cX5_sumInNames 7 (some .int) :: ([.fieldLink RX5 9 "SumNames$World" "numbers" "[I", .constantLong RX5 75 (27), .static yX6_lastLetter, .initialized RX6, .code yX6_lastLetter cX6_lastLetter 2 (some .int), .constantLong RX6 310 (27), .static yX6_isLetter, .code yX6_isLetter cX6_isLetter 1 (some .boolean), .methodLink RX5 77 yX5_sumOf, .instanceMethod yX5_sumOf, .selects RX5 yX5_sumOf yX5_sumOf, .initialized RX5, .code yX5_sumOf cX5_sumOf 8 (some .int)] ++ wsX50)
def wsX0_shiftOf : List Cond := .code yX0_shiftOf cX0_shiftOf 5 (some .long) :: ([.constantLong RX0 69 (27)])
def wsX0_findParts_r1 : List Cond := [Cond.fieldLink RX0 29 "SumNames$NameRow" "partCount" "I", Cond.fieldLink RX0 53 "SumNames$World" "syllableCount" "I", Cond.fieldLink RX0 58 "SumNames$World" "syllables" "[J", Cond.fieldLink RX0 19 "SumNames$NameRow" "partCodes" "[J", Cond.fieldLink RX0 22 "SumNames$NameRow" "partShifts" "[J", Cond.fieldLink RX0 25 "SumNames$NameRow" "partSums" "[I", Cond.methodLink RX0 61 yX5_sumInNames, Cond.instanceMethod yX5_sumInNames, Cond.selects RX5 yX5_sumInNames yX5_sumInNames, Cond.initialized RX5, Cond.code yX5_sumInNames cX5_sumInNames 7 (some .int), Cond.fieldLink RX5 9 "SumNames$World" "numbers" "[I", Cond.constantLong RX5 75 (27), Cond.static yX6_lastLetter, Cond.initialized RX6, Cond.code yX6_lastLetter cX6_lastLetter 2 (some .int), Cond.constantLong RX6 310 (27), Cond.static yX6_isLetter, Cond.code yX6_isLetter cX6_isLetter 1 (some .boolean), Cond.methodLink RX5 77 yX5_sumOf, Cond.instanceMethod yX5_sumOf, Cond.selects RX5 yX5_sumOf yX5_sumOf, Cond.code yX5_sumOf cX5_sumOf 8 (some .int), Cond.methodLink RX0 65 yX0_shiftOf]
def wsX0_findParts_r2 : List Cond := [Cond.static yX0_shiftOf, Cond.initialized RX0, Cond.code yX0_shiftOf cX0_shiftOf 5 (some .long), Cond.constantLong RX0 69 (27)]
def wsX0_findParts : List Cond := .code yX0_findParts cX0_findParts 6 none :: ((wsX0_findParts_r1 ++ wsX0_findParts_r2) ++ wsX00 ++ wsX50)
def wsX0_addIfWanted : List Cond := .code yX0_addIfWanted cX0_addIfWanted 5 none :: ([.fieldLink RX0 32 "SumNames$NameRow" "wantedDay" "I", .fieldLink RX0 35 "SumNames$NameRow" "divisorsWanted" "Z", .fieldLink RX0 15 "SumNames$NameRow" "size" "I", .fieldLink RX0 9 "SumNames$NameRow" "codes" "[J"] ++ wsX00)
def wsX0_join : List Cond := .code yX0_join cX0_join 9 none :: ([.fieldLink RX0 29 "SumNames$NameRow" "partCount" "I", .fieldLink RX0 25 "SumNames$NameRow" "partSums" "[I", .fieldLink RX0 32 "SumNames$NameRow" "wantedDay" "I", .fieldLink RX0 22 "SumNames$NameRow" "partShifts" "[J", .fieldLink RX0 19 "SumNames$NameRow" "partCodes" "[J", .methodLink RX0 71 yX0_addIfWanted, .instanceMethod yX0_addIfWanted, .selects RX0 yX0_addIfWanted yX0_addIfWanted, .initialized RX0, .code yX0_addIfWanted cX0_addIfWanted 5 none, .fieldLink RX0 35 "SumNames$NameRow" "divisorsWanted" "Z", .fieldLink RX0 15 "SumNames$NameRow" "size" "I", .fieldLink RX0 9 "SumNames$NameRow" "codes" "[J", .methodLink RX0 43 yX0_join, .instanceMethod yX0_join, .selects RX0 yX0_join yX0_join] ++ wsX00)
def wsX0_sort : List Cond := .code yX0_sort cX0_sort 9 none :: ([.fieldLink RX0 75 "SumNames$NameRow" "GAPS" "[I", .fieldLink RX0 15 "SumNames$NameRow" "size" "I", .fieldLink RX0 9 "SumNames$NameRow" "codes" "[J"] ++ wsX00)
def wsX0_dropLike : List Cond := .code yX0_dropLike cX0_dropLike 3 none :: ([.fieldLink RX0 15 "SumNames$NameRow" "size" "I", .fieldLink RX0 9 "SumNames$NameRow" "codes" "[J"] ++ wsX00)
def wsX0_gather_r1 : List Cond := [Cond.fieldLink RX0 32 "SumNames$NameRow" "wantedDay" "I", Cond.fieldLink RX0 35 "SumNames$NameRow" "divisorsWanted" "Z", Cond.fieldLink RX0 15 "SumNames$NameRow" "size" "I", Cond.methodLink RX0 39 yX0_findParts, Cond.instanceMethod yX0_findParts, Cond.selects RX0 yX0_findParts yX0_findParts, Cond.initialized RX0, Cond.code yX0_findParts cX0_findParts 6 none, Cond.fieldLink RX0 29 "SumNames$NameRow" "partCount" "I", Cond.fieldLink RX0 53 "SumNames$World" "syllableCount" "I", Cond.fieldLink RX0 58 "SumNames$World" "syllables" "[J", Cond.fieldLink RX0 19 "SumNames$NameRow" "partCodes" "[J", Cond.fieldLink RX0 22 "SumNames$NameRow" "partShifts" "[J", Cond.fieldLink RX0 25 "SumNames$NameRow" "partSums" "[I", Cond.methodLink RX0 61 yX5_sumInNames, Cond.instanceMethod yX5_sumInNames, Cond.selects RX5 yX5_sumInNames yX5_sumInNames, Cond.initialized RX5, Cond.code yX5_sumInNames cX5_sumInNames 7 (some .int), Cond.fieldLink RX5 9 "SumNames$World" "numbers" "[I", Cond.constantLong RX5 75 (27), Cond.static yX6_lastLetter, Cond.initialized RX6, Cond.code yX6_lastLetter cX6_lastLetter 2 (some .int)]
def wsX0_gather_r2 : List Cond := [Cond.constantLong RX6 310 (27), Cond.static yX6_isLetter, Cond.code yX6_isLetter cX6_isLetter 1 (some .boolean), Cond.methodLink RX5 77 yX5_sumOf, Cond.instanceMethod yX5_sumOf, Cond.selects RX5 yX5_sumOf yX5_sumOf, Cond.code yX5_sumOf cX5_sumOf 8 (some .int), Cond.methodLink RX0 65 yX0_shiftOf, Cond.static yX0_shiftOf, Cond.code yX0_shiftOf cX0_shiftOf 5 (some .long), Cond.constantLong RX0 69 (27), Cond.methodLink RX0 43 yX0_join, Cond.instanceMethod yX0_join, Cond.selects RX0 yX0_join yX0_join, Cond.code yX0_join cX0_join 9 none, Cond.methodLink RX0 71 yX0_addIfWanted, Cond.instanceMethod yX0_addIfWanted, Cond.selects RX0 yX0_addIfWanted yX0_addIfWanted, Cond.code yX0_addIfWanted cX0_addIfWanted 5 none, Cond.fieldLink RX0 9 "SumNames$NameRow" "codes" "[J", Cond.methodLink RX0 47 yX0_sort, Cond.instanceMethod yX0_sort, Cond.selects RX0 yX0_sort yX0_sort, Cond.code yX0_sort cX0_sort 9 none]
def wsX0_gather_r3 : List Cond := [Cond.fieldLink RX0 75 "SumNames$NameRow" "GAPS" "[I", Cond.methodLink RX0 50 yX0_dropLike, Cond.instanceMethod yX0_dropLike, Cond.selects RX0 yX0_dropLike yX0_dropLike, Cond.code yX0_dropLike cX0_dropLike 3 none]
def wsX0_gather : List Cond := .code yX0_gather cX0_gather 4 none :: ((wsX0_gather_r1 ++ (wsX0_gather_r2 ++ wsX0_gather_r3)) ++ wsX00 ++ wsX50)
def wsX5_leastCalled : List Cond := .code yX5_leastCalled cX5_leastCalled 5 (some .int) :: ([.fieldLink RX5 38 "SumNames$World" "personCount" "I", .fieldLink RX5 26 "SumNames$World" "words" "[J"] ++ wsX50)
def wsX0_dropCalled : List Cond := .code yX0_dropCalled cX0_dropCalled 5 none :: ([.fieldLink RX0 15 "SumNames$NameRow" "size" "I", .fieldLink RX0 9 "SumNames$NameRow" "codes" "[J", .methodLink RX0 78 yX5_leastCalled, .instanceMethod yX5_leastCalled, .selects RX5 yX5_leastCalled yX5_leastCalled, .initialized RX5, .code yX5_leastCalled cX5_leastCalled 5 (some .int), .fieldLink RX5 38 "SumNames$World" "personCount" "I", .fieldLink RX5 26 "SumNames$World" "words" "[J"] ++ wsX00 ++ wsX50)
def wsX6_isLeftOf : List Cond := .code yX6_isLeftOf cX6_isLeftOf 9 (some .boolean) :: ([.constantLong RX6 310 (27), .methodLink RX6 312 yX6_lastLetter, .static yX6_lastLetter, .initialized RX6, .code yX6_lastLetter cX6_lastLetter 2 (some .int)])
def wsX0_dropNoNicknames : List Cond := .code yX0_dropNoNicknames cX0_dropNoNicknames 5 none :: ([.fieldLink RX0 15 "SumNames$NameRow" "size" "I", .fieldLink RX0 9 "SumNames$NameRow" "codes" "[J", .static yX6_isLeftOf, .initialized RX6, .code yX6_isLeftOf cX6_isLeftOf 9 (some .boolean), .constantLong RX6 310 (27), .methodLink RX6 312 yX6_lastLetter, .static yX6_lastLetter, .code yX6_lastLetter cX6_lastLetter 2 (some .int)] ++ wsX00)
def wsX1_init : List Cond := .code yX1_init cX1_init 1 none :: ([.methodLink RX1 3 objectInit, .instanceMethod objectInit, .code objectInit ⟨#[0xb1]⟩ 1 none, .fieldLink RX1 9 "SumNames$OldNames" "ways" "I", .arrayClass .int, .fieldLink RX1 15 "SumNames$OldNames" "letters" "[I", .fieldLink RX1 19 "SumNames$OldNames" "letterCount" "I", .classLink RX1 22 "[[I", .fieldLink RX1 24 "SumNames$OldNames" "times" "[[I", .fieldLink RX1 27 "SumNames$OldNames" "behind" "[[I", .fieldLink RX1 30 "SumNames$OldNames" "left" "[I", .fieldLink RX1 33 "SumNames$OldNames" "wordCount" "I", .fieldLink RX1 36 "SumNames$OldNames" "given" "[I", .fieldLink RX1 39 "SumNames$OldNames" "first" "[I", .fieldLink RX1 42 "SumNames$OldNames" "most" "I"] ++ wsX10)
def wsX6_timesIn : List Cond := .code yX6_timesIn cX6_timesIn 7 (some .int) :: ([.constantLong RX6 310 (27), .methodLink RX6 312 yX6_lastLetter, .static yX6_lastLetter, .initialized RX6, .code yX6_lastLetter cX6_lastLetter 2 (some .int)])
def wsX1_isInAny : List Cond := .code yX1_isInAny cX1_isInAny 3 (some .boolean) :: ([.fieldLink RX1 49 "SumNames$World" "personCount" "I", .fieldLink RX1 54 "SumNames$World" "words" "[J", .static yX6_timesIn, .initialized RX6, .code yX6_timesIn cX6_timesIn 7 (some .int), .constantLong RX6 310 (27), .methodLink RX6 312 yX6_lastLetter, .static yX6_lastLetter, .code yX6_lastLetter cX6_lastLetter 2 (some .int)] ++ wsX50)
def wsX1_findLetters : List Cond := .code yX1_findLetters cX1_findLetters 3 (some .boolean) :: ([.fieldLink RX1 19 "SumNames$OldNames" "letterCount" "I", .fieldLink RX1 15 "SumNames$OldNames" "letters" "[I", .methodLink RX1 69 yX1_isInAny, .static yX1_isInAny, .initialized RX1, .code yX1_isInAny cX1_isInAny 3 (some .boolean), .fieldLink RX1 49 "SumNames$World" "personCount" "I", .fieldLink RX1 54 "SumNames$World" "words" "[J", .static yX6_timesIn, .initialized RX6, .code yX6_timesIn cX6_timesIn 7 (some .int), .constantLong RX6 310 (27), .methodLink RX6 312 yX6_lastLetter, .static yX6_lastLetter, .code yX6_lastLetter cX6_lastLetter 2 (some .int)] ++ wsX10 ++ wsX50)
def wsX1_addWord : List Cond := .code yX1_addWord cX1_addWord 6 none :: ([.fieldLink RX1 19 "SumNames$OldNames" "letterCount" "I", .fieldLink RX1 27 "SumNames$OldNames" "behind" "[[I", .fieldLink RX1 33 "SumNames$OldNames" "wordCount" "I", .fieldLink RX1 24 "SumNames$OldNames" "times" "[[I", .fieldLink RX1 15 "SumNames$OldNames" "letters" "[I", .fieldLink RX1 30 "SumNames$OldNames" "left" "[I", .static yX6_timesIn, .initialized RX6, .code yX6_timesIn cX6_timesIn 7 (some .int), .constantLong RX6 310 (27), .methodLink RX6 312 yX6_lastLetter, .static yX6_lastLetter, .code yX6_lastLetter cX6_lastLetter 2 (some .int)] ++ wsX10)
def wsX1_addWay : List Cond := .code yX1_addWay cX1_addWay 1 none :: ([.fieldLink RX1 9 "SumNames$OldNames" "ways" "I", .fieldLink RX1 36 "SumNames$OldNames" "given" "[I", .fieldLink RX1 39 "SumNames$OldNames" "first" "[I", .fieldLink RX1 19 "SumNames$OldNames" "letterCount" "I", .methodLink RX1 91 arraycopyName, .native arraycopyName, .static arraycopyName, .initialized "java/lang/System"] ++ wsX10)
def wsJ9_floorDiv_7cf53 : List Cond := .code yJ9_floorDiv_7cf53 cJ9_floorDiv_7cf53 3 (some .int) :: ([])
def wsX1_greatestFor : List Cond := .code yX1_greatestFor cX1_greatestFor 4 (some .int) :: ([.fieldLink RX1 42 "SumNames$OldNames" "most" "I", .fieldLink RX1 33 "SumNames$OldNames" "wordCount" "I", .fieldLink RX1 24 "SumNames$OldNames" "times" "[[I", .fieldLink RX1 30 "SumNames$OldNames" "left" "[I", .fieldLink RX1 27 "SumNames$OldNames" "behind" "[[I", .methodLink RX1 106 Lib.Math.min.name, .static Lib.Math.min.name, .initialized "java/lang/Math", .code Lib.Math.min.name Lib.Math.min.code 2 (some .int), .methodLink RX1 97 yJ9_floorDiv_7cf53, .static yJ9_floorDiv_7cf53, .initialized RJ9, .code yJ9_floorDiv_7cf53 cJ9_floorDiv_7cf53 3 (some .int)] ++ wsX10)
def wsX1_leastFor : List Cond := .code yX1_leastFor cX1_leastFor 5 (some .int) :: ([.fieldLink RX1 33 "SumNames$OldNames" "wordCount" "I", .fieldLink RX1 24 "SumNames$OldNames" "times" "[[I", .fieldLink RX1 30 "SumNames$OldNames" "left" "[I", .fieldLink RX1 27 "SumNames$OldNames" "behind" "[[I", .fieldLink RX1 42 "SumNames$OldNames" "most" "I", .methodLink RX1 103 Lib.Math.max.name, .static Lib.Math.max.name, .initialized "java/lang/Math", .code Lib.Math.max.name Lib.Math.max.code 2 (some .int), .methodLink RX1 97 yJ9_floorDiv_7cf53, .static yJ9_floorDiv_7cf53, .initialized RJ9, .code yJ9_floorDiv_7cf53 cJ9_floorDiv_7cf53 3 (some .int)] ++ wsX10)
def wsX1_take : List Cond := .code yX1_take cX1_take 4 none :: ([.fieldLink RX1 33 "SumNames$OldNames" "wordCount" "I", .fieldLink RX1 30 "SumNames$OldNames" "left" "[I", .fieldLink RX1 24 "SumNames$OldNames" "times" "[[I"] ++ wsX10)
def wsX1_give_r1 : List Cond := [Cond.fieldLink RX1 19 "SumNames$OldNames" "letterCount" "I", Cond.fieldLink RX1 36 "SumNames$OldNames" "given" "[I", Cond.methodLink RX1 77 yX1_addWay, Cond.instanceMethod yX1_addWay, Cond.selects RX1 yX1_addWay yX1_addWay, Cond.initialized RX1, Cond.code yX1_addWay cX1_addWay 1 none, Cond.fieldLink RX1 9 "SumNames$OldNames" "ways" "I", Cond.fieldLink RX1 39 "SumNames$OldNames" "first" "[I", Cond.methodLink RX1 91 arraycopyName, Cond.native arraycopyName, Cond.static arraycopyName, Cond.initialized "java/lang/System", Cond.methodLink RX1 80 yX1_greatestFor, Cond.instanceMethod yX1_greatestFor, Cond.selects RX1 yX1_greatestFor yX1_greatestFor, Cond.code yX1_greatestFor cX1_greatestFor 4 (some .int), Cond.fieldLink RX1 42 "SumNames$OldNames" "most" "I", Cond.fieldLink RX1 33 "SumNames$OldNames" "wordCount" "I", Cond.fieldLink RX1 24 "SumNames$OldNames" "times" "[[I", Cond.fieldLink RX1 30 "SumNames$OldNames" "left" "[I", Cond.fieldLink RX1 27 "SumNames$OldNames" "behind" "[[I", Cond.methodLink RX1 106 Lib.Math.min.name, Cond.static Lib.Math.min.name]
def wsX1_give_r2 : List Cond := [Cond.initialized "java/lang/Math", Cond.code Lib.Math.min.name Lib.Math.min.code 2 (some .int), Cond.methodLink RX1 97 yJ9_floorDiv_7cf53, Cond.static yJ9_floorDiv_7cf53, Cond.initialized RJ9, Cond.code yJ9_floorDiv_7cf53 cJ9_floorDiv_7cf53 3 (some .int), Cond.methodLink RX1 84 yX1_leastFor, Cond.instanceMethod yX1_leastFor, Cond.selects RX1 yX1_leastFor yX1_leastFor, Cond.code yX1_leastFor cX1_leastFor 5 (some .int), Cond.methodLink RX1 103 Lib.Math.max.name, Cond.static Lib.Math.max.name, Cond.code Lib.Math.max.name Lib.Math.max.code 2 (some .int), Cond.methodLink RX1 87 yX1_take, Cond.instanceMethod yX1_take, Cond.selects RX1 yX1_take yX1_take, Cond.code yX1_take cX1_take 4 none, Cond.methodLink RX1 65 yX1_give, Cond.instanceMethod yX1_give, Cond.selects RX1 yX1_give yX1_give]
def wsX1_give : List Cond := .code yX1_give cX1_give 4 none :: ((wsX1_give_r1 ++ wsX1_give_r2) ++ wsX10)
def wsX1_solve_r1 : List Cond := [Cond.fieldLink RX1 9 "SumNames$OldNames" "ways" "I", Cond.fieldLink RX1 42 "SumNames$OldNames" "most" "I", Cond.fieldLink RX1 33 "SumNames$OldNames" "wordCount" "I", Cond.fieldLink RX1 49 "SumNames$World" "personCount" "I", Cond.fieldLink RX1 54 "SumNames$World" "words" "[J", Cond.fieldLink RX1 58 "SumNames$World" "days" "[I", Cond.methodLink RX1 45 yX1_findLetters, Cond.instanceMethod yX1_findLetters, Cond.selects RX1 yX1_findLetters yX1_findLetters, Cond.initialized RX1, Cond.code yX1_findLetters cX1_findLetters 3 (some .boolean), Cond.fieldLink RX1 19 "SumNames$OldNames" "letterCount" "I", Cond.fieldLink RX1 15 "SumNames$OldNames" "letters" "[I", Cond.methodLink RX1 69 yX1_isInAny, Cond.static yX1_isInAny, Cond.code yX1_isInAny cX1_isInAny 3 (some .boolean), Cond.static yX6_timesIn, Cond.initialized RX6, Cond.code yX6_timesIn cX6_timesIn 7 (some .int), Cond.constantLong RX6 310 (27), Cond.methodLink RX6 312 yX6_lastLetter, Cond.static yX6_lastLetter, Cond.code yX6_lastLetter cX6_lastLetter 2 (some .int), Cond.methodLink RX1 61 yX1_addWord]
def wsX1_solve_r2 : List Cond := [Cond.instanceMethod yX1_addWord, Cond.selects RX1 yX1_addWord yX1_addWord, Cond.code yX1_addWord cX1_addWord 6 none, Cond.fieldLink RX1 27 "SumNames$OldNames" "behind" "[[I", Cond.fieldLink RX1 24 "SumNames$OldNames" "times" "[[I", Cond.fieldLink RX1 30 "SumNames$OldNames" "left" "[I", Cond.methodLink RX1 65 yX1_give, Cond.instanceMethod yX1_give, Cond.selects RX1 yX1_give yX1_give, Cond.code yX1_give cX1_give 4 none, Cond.fieldLink RX1 36 "SumNames$OldNames" "given" "[I", Cond.methodLink RX1 77 yX1_addWay, Cond.instanceMethod yX1_addWay, Cond.selects RX1 yX1_addWay yX1_addWay, Cond.code yX1_addWay cX1_addWay 1 none, Cond.fieldLink RX1 39 "SumNames$OldNames" "first" "[I", Cond.methodLink RX1 91 arraycopyName, Cond.native arraycopyName, Cond.static arraycopyName, Cond.initialized "java/lang/System", Cond.methodLink RX1 80 yX1_greatestFor, Cond.instanceMethod yX1_greatestFor, Cond.selects RX1 yX1_greatestFor yX1_greatestFor, Cond.code yX1_greatestFor cX1_greatestFor 4 (some .int)]
def wsX1_solve_r3 : List Cond := [Cond.methodLink RX1 106 Lib.Math.min.name, Cond.static Lib.Math.min.name, Cond.initialized "java/lang/Math", Cond.code Lib.Math.min.name Lib.Math.min.code 2 (some .int), Cond.methodLink RX1 97 yJ9_floorDiv_7cf53, Cond.static yJ9_floorDiv_7cf53, Cond.initialized RJ9, Cond.code yJ9_floorDiv_7cf53 cJ9_floorDiv_7cf53 3 (some .int), Cond.methodLink RX1 84 yX1_leastFor, Cond.instanceMethod yX1_leastFor, Cond.selects RX1 yX1_leastFor yX1_leastFor, Cond.code yX1_leastFor cX1_leastFor 5 (some .int), Cond.methodLink RX1 103 Lib.Math.max.name, Cond.static Lib.Math.max.name, Cond.code Lib.Math.max.name Lib.Math.max.code 2 (some .int), Cond.methodLink RX1 87 yX1_take, Cond.instanceMethod yX1_take, Cond.selects RX1 yX1_take yX1_take, Cond.code yX1_take cX1_take 4 none]
def wsX1_solve : List Cond := .code yX1_solve cX1_solve 4 (some .boolean) :: ((wsX1_solve_r1 ++ (wsX1_solve_r2 ++ wsX1_solve_r3)) ++ wsX10 ++ wsX50)
def wsX1_firstNumberOf : List Cond := .code yX1_firstNumberOf cX1_firstNumberOf 3 (some .int) :: ([.fieldLink RX1 9 "SumNames$OldNames" "ways" "I", .fieldLink RX1 19 "SumNames$OldNames" "letterCount" "I", .fieldLink RX1 15 "SumNames$OldNames" "letters" "[I", .fieldLink RX1 39 "SumNames$OldNames" "first" "[I"] ++ wsX10)
def wsX2_init : List Cond := .code yX2_init cX2_init 1 none :: ([.methodLink RX2 3 objectInit, .instanceMethod objectInit, .code objectInit ⟨#[0xb1]⟩ 1 none, .arrayClass .int, .fieldLink RX2 9 "SumNames$Reach" "fewest" "[I", .arrayClass .boolean, .fieldLink RX2 15 "SumNames$Reach" "tried" "[Z"] ++ wsX20)
def wsX2_addPart : List Cond := .code yX2_addPart cX2_addPart 3 none :: ([.fieldLink RX2 9 "SumNames$Reach" "fewest" "[I", .methodLink RX2 37 Lib.Math.min.name, .static Lib.Math.min.name, .initialized "java/lang/Math", .code Lib.Math.min.name Lib.Math.min.code 2 (some .int)] ++ wsX20)
def wsX2_measure_r1 : List Cond := [Cond.fieldLink RX2 9 "SumNames$Reach" "fewest" "[I", Cond.fieldLink RX2 19 "SumNames$World" "syllableCount" "I", Cond.fieldLink RX2 25 "SumNames$World" "syllables" "[J", Cond.methodLink RX2 29 yX5_sumInNames, Cond.instanceMethod yX5_sumInNames, Cond.selects RX5 yX5_sumInNames yX5_sumInNames, Cond.initialized RX5, Cond.code yX5_sumInNames cX5_sumInNames 7 (some .int), Cond.fieldLink RX5 9 "SumNames$World" "numbers" "[I", Cond.constantLong RX5 75 (27), Cond.static yX6_lastLetter, Cond.initialized RX6, Cond.code yX6_lastLetter cX6_lastLetter 2 (some .int), Cond.constantLong RX6 310 (27), Cond.static yX6_isLetter, Cond.code yX6_isLetter cX6_isLetter 1 (some .boolean), Cond.methodLink RX5 77 yX5_sumOf, Cond.instanceMethod yX5_sumOf, Cond.selects RX5 yX5_sumOf yX5_sumOf, Cond.code yX5_sumOf cX5_sumOf 8 (some .int), Cond.methodLink RX2 33 yX2_addPart, Cond.instanceMethod yX2_addPart, Cond.selects RX2 yX2_addPart yX2_addPart, Cond.initialized RX2]
def wsX2_measure_r2 : List Cond := [Cond.code yX2_addPart cX2_addPart 3 none, Cond.methodLink RX2 37 Lib.Math.min.name, Cond.static Lib.Math.min.name, Cond.initialized "java/lang/Math", Cond.code Lib.Math.min.name Lib.Math.min.code 2 (some .int)]
def wsX2_measure : List Cond := .code yX2_measure cX2_measure 4 none :: ((wsX2_measure_r1 ++ wsX2_measure_r2) ++ wsX20 ++ wsX50)
def wsX2_daysWithout : List Cond := .code yX2_daysWithout cX2_daysWithout 5 (some .int) :: ([.fieldLink RX2 9 "SumNames$Reach" "fewest" "[I"] ++ wsX20)
def wsX2_firstWithout : List Cond := .code yX2_firstWithout cX2_firstWithout 4 (some .int) :: ([.fieldLink RX2 9 "SumNames$Reach" "fewest" "[I"] ++ wsX20)
def wsX2_hasNameWith : List Cond := .code yX2_hasNameWith cX2_hasNameWith 5 (some .boolean) :: ([.fieldLink RX2 9 "SumNames$Reach" "fewest" "[I"] ++ wsX20)
def wsX2_mendsAll : List Cond := .code yX2_mendsAll cX2_mendsAll 5 (some .boolean) :: ([.methodLink RX2 51 yX2_hasNameWith, .instanceMethod yX2_hasNameWith, .selects RX2 yX2_hasNameWith yX2_hasNameWith, .initialized RX2, .code yX2_hasNameWith cX2_hasNameWith 5 (some .boolean), .fieldLink RX2 9 "SumNames$Reach" "fewest" "[I"] ++ wsX20)
def wsX2_mendingSyllable_r1 : List Cond := [Cond.fieldLink RX2 15 "SumNames$Reach" "tried" "[Z", Cond.constantLong RX2 43 (728), Cond.constantLong RX2 49 (-1), Cond.methodLink RX2 29 yX5_sumInNames, Cond.instanceMethod yX5_sumInNames, Cond.selects RX5 yX5_sumInNames yX5_sumInNames, Cond.initialized RX5, Cond.code yX5_sumInNames cX5_sumInNames 7 (some .int), Cond.fieldLink RX5 9 "SumNames$World" "numbers" "[I", Cond.constantLong RX5 75 (27), Cond.static yX6_lastLetter, Cond.initialized RX6, Cond.code yX6_lastLetter cX6_lastLetter 2 (some .int), Cond.constantLong RX6 310 (27), Cond.static yX6_isLetter, Cond.code yX6_isLetter cX6_isLetter 1 (some .boolean), Cond.methodLink RX5 77 yX5_sumOf, Cond.instanceMethod yX5_sumOf, Cond.selects RX5 yX5_sumOf yX5_sumOf, Cond.code yX5_sumOf cX5_sumOf 8 (some .int), Cond.methodLink RX2 45 yX2_mendsAll, Cond.instanceMethod yX2_mendsAll, Cond.selects RX2 yX2_mendsAll yX2_mendsAll, Cond.initialized RX2]
def wsX2_mendingSyllable_r2 : List Cond := [Cond.code yX2_mendsAll cX2_mendsAll 5 (some .boolean), Cond.methodLink RX2 51 yX2_hasNameWith, Cond.instanceMethod yX2_hasNameWith, Cond.selects RX2 yX2_hasNameWith yX2_hasNameWith, Cond.code yX2_hasNameWith cX2_hasNameWith 5 (some .boolean), Cond.fieldLink RX2 9 "SumNames$Reach" "fewest" "[I"]
def wsX2_mendingSyllable : List Cond := .code yX2_mendingSyllable cX2_mendingSyllable 7 (some .long) :: ((wsX2_mendingSyllable_r1 ++ wsX2_mendingSyllable_r2) ++ wsX20 ++ wsX50)
def wsX5_init : List Cond := .code yX5_init cX5_init 2 none :: ([.methodLink RX5 3 objectInit, .instanceMethod objectInit, .code objectInit ⟨#[0xb1]⟩ 1 none, .arrayClass .int, .fieldLink RX5 9 "SumNames$World" "numbers" "[I", .arrayClass .long, .fieldLink RX5 15 "SumNames$World" "syllables" "[J", .fieldLink RX5 19 "SumNames$World" "syllableCount" "I", .fieldLink RX5 23 "SumNames$World" "days" "[I", .fieldLink RX5 26 "SumNames$World" "words" "[J", .fieldLink RX5 29 "SumNames$World" "parents" "[I", .fieldLink RX5 32 "SumNames$World" "otherParents" "[I", .fieldLink RX5 35 "SumNames$World" "kinds" "[I", .fieldLink RX5 38 "SumNames$World" "personCount" "I", .fieldLink RX5 41 "SumNames$World" "hopeDays" "[I", .fieldLink RX5 44 "SumNames$World" "hopeTenths" "[I", .fieldLink RX5 47 "SumNames$World" "hopeCount" "I", .fieldLink RX5 50 "SumNames$World" "degreesTold" "I"] ++ wsX50)
def wsX3_init_r1 : List Cond := [Cond.methodLink RX3 3 objectInit, Cond.instanceMethod objectInit, Cond.code objectInit ⟨#[0xb1]⟩ 1 none, Cond.arrayClass .int, Cond.fieldLink RX3 9 "SumNames$Reader" "text" "[I", Cond.fieldLink RX3 15 "SumNames$Reader" "length" "I", Cond.classLink RX3 19 RX5, Cond.instantiable RX5 13, Cond.initialized RX5, Cond.fieldLink RX3 22 "SumNames$Reader" "draft" "LSumNames$World;", Cond.fieldLink RX3 26 "SumNames$Reader" "lines" "I", Cond.fieldLink RX3 29 "SumNames$Reader" "place" "I", Cond.fieldLink RX3 32 "SumNames$Reader" "token" "I", Cond.fieldLink RX3 35 "SumNames$Reader" "begin" "I", Cond.fieldLink RX3 38 "SumNames$Reader" "bytes" "I", Cond.fieldLink RX3 41 "SumNames$Reader" "value" "J", Cond.fieldLink RX3 45 "SumNames$Reader" "parent" "I", Cond.fieldLink RX3 48 "SumNames$Reader" "otherParent" "I", Cond.methodLink RX3 21 yX5_init, Cond.instanceMethod yX5_init, Cond.code yX5_init cX5_init 2 none, Cond.methodLink RX5 3 objectInit, Cond.fieldLink RX5 9 "SumNames$World" "numbers" "[I", Cond.arrayClass .long]
def wsX3_init_r2 : List Cond := [Cond.fieldLink RX5 15 "SumNames$World" "syllables" "[J", Cond.fieldLink RX5 19 "SumNames$World" "syllableCount" "I", Cond.fieldLink RX5 23 "SumNames$World" "days" "[I", Cond.fieldLink RX5 26 "SumNames$World" "words" "[J", Cond.fieldLink RX5 29 "SumNames$World" "parents" "[I", Cond.fieldLink RX5 32 "SumNames$World" "otherParents" "[I", Cond.fieldLink RX5 35 "SumNames$World" "kinds" "[I", Cond.fieldLink RX5 38 "SumNames$World" "personCount" "I", Cond.fieldLink RX5 41 "SumNames$World" "hopeDays" "[I", Cond.fieldLink RX5 44 "SumNames$World" "hopeTenths" "[I", Cond.fieldLink RX5 47 "SumNames$World" "hopeCount" "I", Cond.fieldLink RX5 50 "SumNames$World" "degreesTold" "I"]
def wsX3_init : List Cond := .code yX3_init cX3_init 1 none :: ((wsX3_init_r1 ++ wsX3_init_r2) ++ wsX30 ++ wsX50)
def wsX3_append : List Cond := .code yX3_append cX3_append 5 (some .boolean) :: ([.fieldLink RX3 15 "SumNames$Reader" "length" "I", .fieldLink RX3 9 "SumNames$Reader" "text" "[I", .constantLong RX3 51 (255)] ++ wsX30)
def wsX5_takeFrom : List Cond := .code yX5_takeFrom cX5_takeFrom 2 none :: ([.fieldLink RX5 9 "SumNames$World" "numbers" "[I", .methodLink RX5 53 arraycopyName, .native arraycopyName, .static arraycopyName, .initialized "java/lang/System", .fieldLink RX5 15 "SumNames$World" "syllables" "[J", .fieldLink RX5 19 "SumNames$World" "syllableCount" "I", .fieldLink RX5 23 "SumNames$World" "days" "[I", .fieldLink RX5 26 "SumNames$World" "words" "[J", .fieldLink RX5 29 "SumNames$World" "parents" "[I", .fieldLink RX5 32 "SumNames$World" "otherParents" "[I", .fieldLink RX5 35 "SumNames$World" "kinds" "[I", .fieldLink RX5 38 "SumNames$World" "personCount" "I", .fieldLink RX5 41 "SumNames$World" "hopeDays" "[I", .fieldLink RX5 44 "SumNames$World" "hopeTenths" "[I", .fieldLink RX5 47 "SumNames$World" "hopeCount" "I", .fieldLink RX5 50 "SumNames$World" "degreesTold" "I"] ++ wsX50)
def wsX3_kindAt : List Cond := .code yX3_kindAt cX3_kindAt 2 (some .int) :: ([.fieldLink RX3 15 "SumNames$Reader" "length" "I", .fieldLink RX3 9 "SumNames$Reader" "text" "[I"] ++ wsX30)
def wsX3_valueWith : List Cond := .code yX3_valueWith cX3_valueWith 2 (some .long) :: ([.fieldLink RX3 32 "SumNames$Reader" "token" "I", .fieldLink RX3 41 "SumNames$Reader" "value" "J", .constantLong RX3 181 (27), .constantLong RX3 183 (97), .constantLong RX3 185 (10), .constantLong RX3 187 (48)] ++ wsX30)
def wsX3_readToken : List Cond := .code yX3_readToken cX3_readToken 2 none :: ([.fieldLink RX3 29 "SumNames$Reader" "place" "I", .fieldLink RX3 15 "SumNames$Reader" "length" "I", .fieldLink RX3 9 "SumNames$Reader" "text" "[I", .fieldLink RX3 35 "SumNames$Reader" "begin" "I", .fieldLink RX3 41 "SumNames$Reader" "value" "J", .fieldLink RX3 32 "SumNames$Reader" "token" "I", .fieldLink RX3 38 "SumNames$Reader" "bytes" "I", .methodLink RX3 173 yX3_kindAt, .instanceMethod yX3_kindAt, .selects RX3 yX3_kindAt yX3_kindAt, .initialized RX3, .code yX3_kindAt cX3_kindAt 2 (some .int), .methodLink RX3 177 yX3_valueWith, .instanceMethod yX3_valueWith, .selects RX3 yX3_valueWith yX3_valueWith, .code yX3_valueWith cX3_valueWith 2 (some .long), .constantLong RX3 181 (27), .constantLong RX3 183 (97), .constantLong RX3 185 (10), .constantLong RX3 187 (48)] ++ wsX30)
def wsJ0_coder_7d493 : List Cond := .code yJ0_coder_7d493 cJ0_coder_7d493 1 (some .byte) :: ([.fieldLink RJ0 38 "java/lang/String" "COMPACT_STRINGS" "Z", .fieldLink RJ0 15 "java/lang/String" "coder" "B"])
def wsJ0_length_8abf5 : List Cond := .code yJ0_length_8abf5 cJ0_length_8abf5 1 (some .int) :: ([.fieldLink RJ0 9 "java/lang/String" "value" "[B", .methodLink RJ0 335 yJ0_coder_7d493, .instanceMethod yJ0_coder_7d493, .selects RJ0 yJ0_coder_7d493 yJ0_coder_7d493, .initialized RJ0, .code yJ0_coder_7d493 cJ0_coder_7d493 1 (some .byte), .fieldLink RJ0 38 "java/lang/String" "COMPACT_STRINGS" "Z", .fieldLink RJ0 15 "java/lang/String" "coder" "B"])
def wsJ0_isLatin1_aae02 : List Cond := .code yJ0_isLatin1_aae02 cJ0_isLatin1_aae02 1 (some .boolean) :: ([.fieldLink RJ0 38 "java/lang/String" "COMPACT_STRINGS" "Z", .fieldLink RJ0 15 "java/lang/String" "coder" "B"])
def wsJ3_checkIndex_8e157 : List Cond := .code yJ3_checkIndex_8e157 cJ3_checkIndex_8e157 3 (some .int) :: ([])
def wsJ0_checkIndex_df160 : List Cond := .code yJ0_checkIndex_df160 cJ0_checkIndex_df160 2 none :: ([.fieldLink RJ0 1053 "jdk/internal/util/Preconditions" "SIOOBE_FORMATTER" "Ljava/util/function/BiFunction;", .methodLink RJ0 1059 yJ3_checkIndex_8e157, .static yJ3_checkIndex_8e157, .initialized RJ3, .code yJ3_checkIndex_8e157 cJ3_checkIndex_8e157 3 (some .int)])
def wsJ1_charAt_3b067 : List Cond := .code yJ1_charAt_3b067 cJ1_charAt_3b067 2 (some .char) :: ([.methodLink RJ1 9 yJ0_checkIndex_df160, .static yJ0_checkIndex_df160, .initialized RJ0, .code yJ0_checkIndex_df160 cJ0_checkIndex_df160 2 none, .fieldLink RJ0 1053 "jdk/internal/util/Preconditions" "SIOOBE_FORMATTER" "Ljava/util/function/BiFunction;", .methodLink RJ0 1059 yJ3_checkIndex_8e157, .static yJ3_checkIndex_8e157, .initialized RJ3, .code yJ3_checkIndex_8e157 cJ3_checkIndex_8e157 3 (some .int)])
def wsJ2_length_9d52b : List Cond := .code yJ2_length_9d52b cJ2_length_9d52b 1 (some .int) :: ([])
def wsJ2_checkIndex_2214a : List Cond := .code yJ2_checkIndex_2214a cJ2_checkIndex_2214a 2 none :: ([.methodLink RJ2 48 yJ2_length_9d52b, .static yJ2_length_9d52b, .initialized RJ2, .code yJ2_length_9d52b cJ2_length_9d52b 1 (some .int), .methodLink RJ2 414 yJ0_checkIndex_df160, .static yJ0_checkIndex_df160, .initialized RJ0, .code yJ0_checkIndex_df160 cJ0_checkIndex_df160 2 none, .fieldLink RJ0 1053 "jdk/internal/util/Preconditions" "SIOOBE_FORMATTER" "Ljava/util/function/BiFunction;", .methodLink RJ0 1059 yJ3_checkIndex_8e157, .static yJ3_checkIndex_8e157, .initialized RJ3, .code yJ3_checkIndex_8e157 cJ3_checkIndex_8e157 3 (some .int)])
def wsJ2_getChar_3b067 : List Cond := .code yJ2_getChar_3b067 cJ2_getChar_3b067 2 (some .char) :: ([.fieldLink RJ2 44 "java/lang/StringUTF16" "$assertionsDisabled" "Z", .fieldLink RJ2 59 "java/lang/StringUTF16" "HI_BYTE_SHIFT" "I", .fieldLink RJ2 63 "java/lang/StringUTF16" "LO_BYTE_SHIFT" "I", .methodLink RJ2 48 yJ2_length_9d52b, .static yJ2_length_9d52b, .initialized RJ2, .code yJ2_length_9d52b cJ2_length_9d52b 1 (some .int)])
def wsJ2_charAt_3b067 : List Cond := .code yJ2_charAt_3b067 cJ2_charAt_3b067 2 (some .char) :: ([.methodLink RJ2 67 yJ2_checkIndex_2214a, .static yJ2_checkIndex_2214a, .initialized RJ2, .code yJ2_checkIndex_2214a cJ2_checkIndex_2214a 2 none, .methodLink RJ2 48 yJ2_length_9d52b, .static yJ2_length_9d52b, .code yJ2_length_9d52b cJ2_length_9d52b 1 (some .int), .methodLink RJ2 414 yJ0_checkIndex_df160, .static yJ0_checkIndex_df160, .initialized RJ0, .code yJ0_checkIndex_df160 cJ0_checkIndex_df160 2 none, .fieldLink RJ0 1053 "jdk/internal/util/Preconditions" "SIOOBE_FORMATTER" "Ljava/util/function/BiFunction;", .methodLink RJ0 1059 yJ3_checkIndex_8e157, .static yJ3_checkIndex_8e157, .initialized RJ3, .code yJ3_checkIndex_8e157 cJ3_checkIndex_8e157 3 (some .int), .methodLink RJ2 71 yJ2_getChar_3b067, .static yJ2_getChar_3b067, .code yJ2_getChar_3b067 cJ2_getChar_3b067 2 (some .char), .fieldLink RJ2 44 "java/lang/StringUTF16" "$assertionsDisabled" "Z", .fieldLink RJ2 59 "java/lang/StringUTF16" "HI_BYTE_SHIFT" "I", .fieldLink RJ2 63 "java/lang/StringUTF16" "LO_BYTE_SHIFT" "I"])
def wsJ0_charAt_5068e_r1 : List Cond := [Cond.fieldLink RJ0 9 "java/lang/String" "value" "[B", Cond.methodLink RJ0 492 yJ0_isLatin1_aae02, Cond.instanceMethod yJ0_isLatin1_aae02, Cond.selects RJ0 yJ0_isLatin1_aae02 yJ0_isLatin1_aae02, Cond.initialized RJ0, Cond.code yJ0_isLatin1_aae02 cJ0_isLatin1_aae02 1 (some .boolean), Cond.fieldLink RJ0 38 "java/lang/String" "COMPACT_STRINGS" "Z", Cond.fieldLink RJ0 15 "java/lang/String" "coder" "B", Cond.methodLink RJ0 495 yJ1_charAt_3b067, Cond.static yJ1_charAt_3b067, Cond.initialized RJ1, Cond.code yJ1_charAt_3b067 cJ1_charAt_3b067 2 (some .char), Cond.methodLink RJ1 9 yJ0_checkIndex_df160, Cond.static yJ0_checkIndex_df160, Cond.code yJ0_checkIndex_df160 cJ0_checkIndex_df160 2 none, Cond.fieldLink RJ0 1053 "jdk/internal/util/Preconditions" "SIOOBE_FORMATTER" "Ljava/util/function/BiFunction;", Cond.methodLink RJ0 1059 yJ3_checkIndex_8e157, Cond.static yJ3_checkIndex_8e157, Cond.initialized RJ3, Cond.code yJ3_checkIndex_8e157 cJ3_checkIndex_8e157 3 (some .int), Cond.methodLink RJ0 498 yJ2_charAt_3b067, Cond.static yJ2_charAt_3b067, Cond.initialized RJ2, Cond.code yJ2_charAt_3b067 cJ2_charAt_3b067 2 (some .char)]
def wsJ0_charAt_5068e_r2 : List Cond := [Cond.methodLink RJ2 67 yJ2_checkIndex_2214a, Cond.static yJ2_checkIndex_2214a, Cond.code yJ2_checkIndex_2214a cJ2_checkIndex_2214a 2 none, Cond.methodLink RJ2 48 yJ2_length_9d52b, Cond.static yJ2_length_9d52b, Cond.code yJ2_length_9d52b cJ2_length_9d52b 1 (some .int), Cond.methodLink RJ2 414 yJ0_checkIndex_df160, Cond.methodLink RJ2 71 yJ2_getChar_3b067, Cond.static yJ2_getChar_3b067, Cond.code yJ2_getChar_3b067 cJ2_getChar_3b067 2 (some .char), Cond.fieldLink RJ2 44 "java/lang/StringUTF16" "$assertionsDisabled" "Z", Cond.fieldLink RJ2 59 "java/lang/StringUTF16" "HI_BYTE_SHIFT" "I", Cond.fieldLink RJ2 63 "java/lang/StringUTF16" "LO_BYTE_SHIFT" "I"]
def wsJ0_charAt_5068e : List Cond := .code yJ0_charAt_5068e cJ0_charAt_5068e 2 (some .char) :: ((wsJ0_charAt_5068e_r1 ++ wsJ0_charAt_5068e_r2))
def wsX3_says_r1 : List Cond := [Cond.fieldLink RX3 38 "SumNames$Reader" "bytes" "I", Cond.fieldLink RX3 9 "SumNames$Reader" "text" "[I", Cond.fieldLink RX3 35 "SumNames$Reader" "begin" "I", Cond.methodLink RX3 164 yJ0_length_8abf5, Cond.instanceMethod yJ0_length_8abf5, Cond.selects RJ0 yJ0_length_8abf5 yJ0_length_8abf5, Cond.initialized RJ0, Cond.code yJ0_length_8abf5 cJ0_length_8abf5 1 (some .int), Cond.fieldLink RJ0 9 "java/lang/String" "value" "[B", Cond.methodLink RJ0 335 yJ0_coder_7d493, Cond.instanceMethod yJ0_coder_7d493, Cond.selects RJ0 yJ0_coder_7d493 yJ0_coder_7d493, Cond.code yJ0_coder_7d493 cJ0_coder_7d493 1 (some .byte), Cond.fieldLink RJ0 38 "java/lang/String" "COMPACT_STRINGS" "Z", Cond.fieldLink RJ0 15 "java/lang/String" "coder" "B", Cond.methodLink RX3 169 yJ0_charAt_5068e, Cond.instanceMethod yJ0_charAt_5068e, Cond.selects RJ0 yJ0_charAt_5068e yJ0_charAt_5068e, Cond.code yJ0_charAt_5068e cJ0_charAt_5068e 2 (some .char), Cond.methodLink RJ0 492 yJ0_isLatin1_aae02, Cond.instanceMethod yJ0_isLatin1_aae02, Cond.selects RJ0 yJ0_isLatin1_aae02 yJ0_isLatin1_aae02, Cond.code yJ0_isLatin1_aae02 cJ0_isLatin1_aae02 1 (some .boolean), Cond.methodLink RJ0 495 yJ1_charAt_3b067]
def wsX3_says_r2 : List Cond := [Cond.static yJ1_charAt_3b067, Cond.initialized RJ1, Cond.code yJ1_charAt_3b067 cJ1_charAt_3b067 2 (some .char), Cond.methodLink RJ1 9 yJ0_checkIndex_df160, Cond.static yJ0_checkIndex_df160, Cond.code yJ0_checkIndex_df160 cJ0_checkIndex_df160 2 none, Cond.fieldLink RJ0 1053 "jdk/internal/util/Preconditions" "SIOOBE_FORMATTER" "Ljava/util/function/BiFunction;", Cond.methodLink RJ0 1059 yJ3_checkIndex_8e157, Cond.static yJ3_checkIndex_8e157, Cond.initialized RJ3, Cond.code yJ3_checkIndex_8e157 cJ3_checkIndex_8e157 3 (some .int), Cond.methodLink RJ0 498 yJ2_charAt_3b067, Cond.static yJ2_charAt_3b067, Cond.initialized RJ2, Cond.code yJ2_charAt_3b067 cJ2_charAt_3b067 2 (some .char), Cond.methodLink RJ2 67 yJ2_checkIndex_2214a, Cond.static yJ2_checkIndex_2214a, Cond.code yJ2_checkIndex_2214a cJ2_checkIndex_2214a 2 none, Cond.methodLink RJ2 48 yJ2_length_9d52b, Cond.static yJ2_length_9d52b, Cond.code yJ2_length_9d52b cJ2_length_9d52b 1 (some .int), Cond.methodLink RJ2 414 yJ0_checkIndex_df160, Cond.methodLink RJ2 71 yJ2_getChar_3b067, Cond.static yJ2_getChar_3b067]
def wsX3_says_r3 : List Cond := [Cond.code yJ2_getChar_3b067 cJ2_getChar_3b067 2 (some .char), Cond.fieldLink RJ2 44 "java/lang/StringUTF16" "$assertionsDisabled" "Z", Cond.fieldLink RJ2 59 "java/lang/StringUTF16" "HI_BYTE_SHIFT" "I", Cond.fieldLink RJ2 63 "java/lang/StringUTF16" "LO_BYTE_SHIFT" "I"]
def wsX3_says : List Cond := .code yX3_says cX3_says 3 (some .boolean) :: ((wsX3_says_r1 ++ (wsX3_says_r2 ++ wsX3_says_r3)) ++ wsX30)
def wsX3_readWord : List Cond := .code yX3_readWord cX3_readWord 2 (some .boolean) :: ([.fieldLink RX3 32 "SumNames$Reader" "token" "I", .fieldLink RX3 38 "SumNames$Reader" "bytes" "I", .methodLink RX3 61 yX3_readToken, .instanceMethod yX3_readToken, .selects RX3 yX3_readToken yX3_readToken, .initialized RX3, .code yX3_readToken cX3_readToken 2 none, .fieldLink RX3 29 "SumNames$Reader" "place" "I", .fieldLink RX3 15 "SumNames$Reader" "length" "I", .fieldLink RX3 9 "SumNames$Reader" "text" "[I", .fieldLink RX3 35 "SumNames$Reader" "begin" "I", .fieldLink RX3 41 "SumNames$Reader" "value" "J", .methodLink RX3 173 yX3_kindAt, .instanceMethod yX3_kindAt, .selects RX3 yX3_kindAt yX3_kindAt, .code yX3_kindAt cX3_kindAt 2 (some .int), .methodLink RX3 177 yX3_valueWith, .instanceMethod yX3_valueWith, .selects RX3 yX3_valueWith yX3_valueWith, .code yX3_valueWith cX3_valueWith 2 (some .long), .constantLong RX3 181 (27), .constantLong RX3 183 (97), .constantLong RX3 185 (10), .constantLong RX3 187 (48)] ++ wsX30)
def wsX3_readNumber : List Cond := .code yX3_readNumber cX3_readNumber 3 (some .boolean) :: ([.fieldLink RX3 32 "SumNames$Reader" "token" "I", .fieldLink RX3 38 "SumNames$Reader" "bytes" "I", .fieldLink RX3 41 "SumNames$Reader" "value" "J", .methodLink RX3 61 yX3_readToken, .instanceMethod yX3_readToken, .selects RX3 yX3_readToken yX3_readToken, .initialized RX3, .code yX3_readToken cX3_readToken 2 none, .fieldLink RX3 29 "SumNames$Reader" "place" "I", .fieldLink RX3 15 "SumNames$Reader" "length" "I", .fieldLink RX3 9 "SumNames$Reader" "text" "[I", .fieldLink RX3 35 "SumNames$Reader" "begin" "I", .methodLink RX3 173 yX3_kindAt, .instanceMethod yX3_kindAt, .selects RX3 yX3_kindAt yX3_kindAt, .code yX3_kindAt cX3_kindAt 2 (some .int), .methodLink RX3 177 yX3_valueWith, .instanceMethod yX3_valueWith, .selects RX3 yX3_valueWith yX3_valueWith, .code yX3_valueWith cX3_valueWith 2 (some .long), .constantLong RX3 181 (27), .constantLong RX3 183 (97), .constantLong RX3 185 (10), .constantLong RX3 187 (48)] ++ wsX30)
def wsX3_readLetter_r1 : List Cond := [Cond.fieldLink RX3 41 "SumNames$Reader" "value" "J", Cond.fieldLink RX3 22 "SumNames$Reader" "draft" "LSumNames$World;", Cond.fieldLink RX3 132 "SumNames$World" "numbers" "[I", Cond.methodLink RX3 77 yX3_readWord, Cond.instanceMethod yX3_readWord, Cond.selects RX3 yX3_readWord yX3_readWord, Cond.initialized RX3, Cond.code yX3_readWord cX3_readWord 2 (some .boolean), Cond.fieldLink RX3 32 "SumNames$Reader" "token" "I", Cond.fieldLink RX3 38 "SumNames$Reader" "bytes" "I", Cond.methodLink RX3 61 yX3_readToken, Cond.instanceMethod yX3_readToken, Cond.selects RX3 yX3_readToken yX3_readToken, Cond.code yX3_readToken cX3_readToken 2 none, Cond.fieldLink RX3 29 "SumNames$Reader" "place" "I", Cond.fieldLink RX3 15 "SumNames$Reader" "length" "I", Cond.fieldLink RX3 9 "SumNames$Reader" "text" "[I", Cond.fieldLink RX3 35 "SumNames$Reader" "begin" "I", Cond.methodLink RX3 173 yX3_kindAt, Cond.instanceMethod yX3_kindAt, Cond.selects RX3 yX3_kindAt yX3_kindAt, Cond.code yX3_kindAt cX3_kindAt 2 (some .int), Cond.methodLink RX3 177 yX3_valueWith, Cond.instanceMethod yX3_valueWith]
def wsX3_readLetter_r2 : List Cond := [Cond.selects RX3 yX3_valueWith yX3_valueWith, Cond.code yX3_valueWith cX3_valueWith 2 (some .long), Cond.constantLong RX3 181 (27), Cond.constantLong RX3 183 (97), Cond.constantLong RX3 185 (10), Cond.constantLong RX3 187 (48), Cond.static yX6_lastLetter, Cond.initialized RX6, Cond.code yX6_lastLetter cX6_lastLetter 2 (some .int), Cond.constantLong RX6 310 (27), Cond.static yX6_isLetter, Cond.code yX6_isLetter cX6_isLetter 1 (some .boolean), Cond.methodLink RX3 128 yX3_readNumber, Cond.instanceMethod yX3_readNumber, Cond.selects RX3 yX3_readNumber yX3_readNumber, Cond.code yX3_readNumber cX3_readNumber 3 (some .boolean)]
def wsX3_readLetter : List Cond := .code yX3_readLetter cX3_readLetter 2 (some .boolean) :: ((wsX3_readLetter_r1 ++ wsX3_readLetter_r2) ++ wsX30 ++ wsX50)
def wsX5_isSyllable : List Cond := .code yX5_isSyllable cX5_isSyllable 4 (some .boolean) :: ([.fieldLink RX5 19 "SumNames$World" "syllableCount" "I", .fieldLink RX5 15 "SumNames$World" "syllables" "[J"] ++ wsX50)
def wsX5_addSyllable : List Cond := .code yX5_addSyllable cX5_addSyllable 3 (some .boolean) :: ([.fieldLink RX5 19 "SumNames$World" "syllableCount" "I", .fieldLink RX5 15 "SumNames$World" "syllables" "[J", .methodLink RX5 59 yX5_isSyllable, .instanceMethod yX5_isSyllable, .selects RX5 yX5_isSyllable yX5_isSyllable, .initialized RX5, .code yX5_isSyllable cX5_isSyllable 4 (some .boolean)] ++ wsX50)
def wsX3_readNoParents : List Cond := .code yX3_readNoParents cX3_readNoParents 1 (some .boolean) :: ([.fieldLink RX3 45 "SumNames$Reader" "parent" "I", .fieldLink RX3 48 "SumNames$Reader" "otherParent" "I"] ++ wsX30)
def wsX3_readWordOrNothing_r1 : List Cond := [Cond.fieldLink RX3 32 "SumNames$Reader" "token" "I", Cond.fieldLink RX3 41 "SumNames$Reader" "value" "J", Cond.constantLong RX3 162 (45), Cond.fieldLink RX3 38 "SumNames$Reader" "bytes" "I", Cond.methodLink RX3 61 yX3_readToken, Cond.instanceMethod yX3_readToken, Cond.selects RX3 yX3_readToken yX3_readToken, Cond.initialized RX3, Cond.code yX3_readToken cX3_readToken 2 none, Cond.fieldLink RX3 29 "SumNames$Reader" "place" "I", Cond.fieldLink RX3 15 "SumNames$Reader" "length" "I", Cond.fieldLink RX3 9 "SumNames$Reader" "text" "[I", Cond.fieldLink RX3 35 "SumNames$Reader" "begin" "I", Cond.methodLink RX3 173 yX3_kindAt, Cond.instanceMethod yX3_kindAt, Cond.selects RX3 yX3_kindAt yX3_kindAt, Cond.code yX3_kindAt cX3_kindAt 2 (some .int), Cond.methodLink RX3 177 yX3_valueWith, Cond.instanceMethod yX3_valueWith, Cond.selects RX3 yX3_valueWith yX3_valueWith, Cond.code yX3_valueWith cX3_valueWith 2 (some .long), Cond.constantLong RX3 181 (27), Cond.constantLong RX3 183 (97), Cond.constantLong RX3 185 (10)]
def wsX3_readWordOrNothing_r2 : List Cond := [Cond.constantLong RX3 187 (48)]
def wsX3_readWordOrNothing : List Cond := .code yX3_readWordOrNothing cX3_readWordOrNothing 1 (some .boolean) :: ((wsX3_readWordOrNothing_r1 ++ wsX3_readWordOrNothing_r2) ++ wsX30)
def wsX5_kindOf : List Cond := .code yX5_kindOf cX5_kindOf 7 (some .int) :: ([.fieldLink RX5 38 "SumNames$World" "personCount" "I", .fieldLink RX5 29 "SumNames$World" "parents" "[I", .fieldLink RX5 32 "SumNames$World" "otherParents" "[I", .fieldLink RX5 23 "SumNames$World" "days" "[I"] ++ wsX50)
def wsX5_addPerson : List Cond := .code yX5_addPerson cX5_addPerson 6 none :: ([.fieldLink RX5 38 "SumNames$World" "personCount" "I", .fieldLink RX5 35 "SumNames$World" "kinds" "[I", .fieldLink RX5 29 "SumNames$World" "parents" "[I", .fieldLink RX5 32 "SumNames$World" "otherParents" "[I", .fieldLink RX5 23 "SumNames$World" "days" "[I", .fieldLink RX5 26 "SumNames$World" "words" "[J", .methodLink RX5 63 yX5_kindOf, .instanceMethod yX5_kindOf, .selects RX5 yX5_kindOf yX5_kindOf, .initialized RX5, .code yX5_kindOf cX5_kindOf 7 (some .int)] ++ wsX50)
def wsX3_readBirth_r1 : List Cond := [Cond.fieldLink RX3 41 "SumNames$Reader" "value" "J", Cond.fieldLink RX3 22 "SumNames$Reader" "draft" "LSumNames$World;", Cond.fieldLink RX3 45 "SumNames$Reader" "parent" "I", Cond.fieldLink RX3 48 "SumNames$Reader" "otherParent" "I", Cond.methodLink RX3 128 yX3_readNumber, Cond.instanceMethod yX3_readNumber, Cond.selects RX3 yX3_readNumber yX3_readNumber, Cond.initialized RX3, Cond.code yX3_readNumber cX3_readNumber 3 (some .boolean), Cond.fieldLink RX3 32 "SumNames$Reader" "token" "I", Cond.fieldLink RX3 38 "SumNames$Reader" "bytes" "I", Cond.methodLink RX3 61 yX3_readToken, Cond.instanceMethod yX3_readToken, Cond.selects RX3 yX3_readToken yX3_readToken, Cond.code yX3_readToken cX3_readToken 2 none, Cond.fieldLink RX3 29 "SumNames$Reader" "place" "I", Cond.fieldLink RX3 15 "SumNames$Reader" "length" "I", Cond.fieldLink RX3 9 "SumNames$Reader" "text" "[I", Cond.fieldLink RX3 35 "SumNames$Reader" "begin" "I", Cond.methodLink RX3 173 yX3_kindAt, Cond.instanceMethod yX3_kindAt, Cond.selects RX3 yX3_kindAt yX3_kindAt, Cond.code yX3_kindAt cX3_kindAt 2 (some .int), Cond.methodLink RX3 177 yX3_valueWith]
def wsX3_readBirth_r2 : List Cond := [Cond.instanceMethod yX3_valueWith, Cond.selects RX3 yX3_valueWith yX3_valueWith, Cond.code yX3_valueWith cX3_valueWith 2 (some .long), Cond.constantLong RX3 181 (27), Cond.constantLong RX3 183 (97), Cond.constantLong RX3 185 (10), Cond.constantLong RX3 187 (48), Cond.methodLink RX3 138 yX3_readWordOrNothing, Cond.instanceMethod yX3_readWordOrNothing, Cond.selects RX3 yX3_readWordOrNothing yX3_readWordOrNothing, Cond.code yX3_readWordOrNothing cX3_readWordOrNothing 1 (some .boolean), Cond.constantLong RX3 162 (45), Cond.methodLink RX3 141 yX5_addPerson, Cond.instanceMethod yX5_addPerson, Cond.selects RX5 yX5_addPerson yX5_addPerson, Cond.initialized RX5, Cond.code yX5_addPerson cX5_addPerson 6 none, Cond.fieldLink RX5 38 "SumNames$World" "personCount" "I", Cond.fieldLink RX5 35 "SumNames$World" "kinds" "[I", Cond.fieldLink RX5 29 "SumNames$World" "parents" "[I", Cond.fieldLink RX5 32 "SumNames$World" "otherParents" "[I", Cond.fieldLink RX5 23 "SumNames$World" "days" "[I", Cond.fieldLink RX5 26 "SumNames$World" "words" "[J", Cond.methodLink RX5 63 yX5_kindOf]
def wsX3_readBirth_r3 : List Cond := [Cond.instanceMethod yX5_kindOf, Cond.selects RX5 yX5_kindOf yX5_kindOf, Cond.code yX5_kindOf cX5_kindOf 7 (some .int)]
def wsX3_readBirth : List Cond := .code yX3_readBirth cX3_readBirth 2 (some .boolean) :: ((wsX3_readBirth_r1 ++ (wsX3_readBirth_r2 ++ wsX3_readBirth_r3)) ++ wsX30 ++ wsX50)
def wsX3_readPerson_r1 : List Cond := [Cond.fieldLink RX3 22 "SumNames$Reader" "draft" "LSumNames$World;", Cond.fieldLink RX3 87 "SumNames$World" "personCount" "I", Cond.methodLink RX3 128 yX3_readNumber, Cond.instanceMethod yX3_readNumber, Cond.selects RX3 yX3_readNumber yX3_readNumber, Cond.initialized RX3, Cond.code yX3_readNumber cX3_readNumber 3 (some .boolean), Cond.fieldLink RX3 32 "SumNames$Reader" "token" "I", Cond.fieldLink RX3 38 "SumNames$Reader" "bytes" "I", Cond.fieldLink RX3 41 "SumNames$Reader" "value" "J", Cond.methodLink RX3 61 yX3_readToken, Cond.instanceMethod yX3_readToken, Cond.selects RX3 yX3_readToken yX3_readToken, Cond.code yX3_readToken cX3_readToken 2 none, Cond.fieldLink RX3 29 "SumNames$Reader" "place" "I", Cond.fieldLink RX3 15 "SumNames$Reader" "length" "I", Cond.fieldLink RX3 9 "SumNames$Reader" "text" "[I", Cond.fieldLink RX3 35 "SumNames$Reader" "begin" "I", Cond.methodLink RX3 173 yX3_kindAt, Cond.instanceMethod yX3_kindAt, Cond.selects RX3 yX3_kindAt yX3_kindAt, Cond.code yX3_kindAt cX3_kindAt 2 (some .int), Cond.methodLink RX3 177 yX3_valueWith, Cond.instanceMethod yX3_valueWith]
def wsX3_readPerson_r2 : List Cond := [Cond.selects RX3 yX3_valueWith yX3_valueWith, Cond.code yX3_valueWith cX3_valueWith 2 (some .long), Cond.constantLong RX3 181 (27), Cond.constantLong RX3 183 (97), Cond.constantLong RX3 185 (10), Cond.constantLong RX3 187 (48)]
def wsX3_readPerson : List Cond := .code yX3_readPerson cX3_readPerson 1 (some .boolean) :: ((wsX3_readPerson_r1 ++ wsX3_readPerson_r2) ++ wsX30 ++ wsX50)
def wsX3_readParents_r1 : List Cond := [Cond.fieldLink RX3 41 "SumNames$Reader" "value" "J", Cond.fieldLink RX3 45 "SumNames$Reader" "parent" "I", Cond.fieldLink RX3 48 "SumNames$Reader" "otherParent" "I", Cond.methodLink RX3 135 yX3_readPerson, Cond.instanceMethod yX3_readPerson, Cond.selects RX3 yX3_readPerson yX3_readPerson, Cond.initialized RX3, Cond.code yX3_readPerson cX3_readPerson 1 (some .boolean), Cond.fieldLink RX3 22 "SumNames$Reader" "draft" "LSumNames$World;", Cond.fieldLink RX3 87 "SumNames$World" "personCount" "I", Cond.methodLink RX3 128 yX3_readNumber, Cond.instanceMethod yX3_readNumber, Cond.selects RX3 yX3_readNumber yX3_readNumber, Cond.code yX3_readNumber cX3_readNumber 3 (some .boolean), Cond.fieldLink RX3 32 "SumNames$Reader" "token" "I", Cond.fieldLink RX3 38 "SumNames$Reader" "bytes" "I", Cond.methodLink RX3 61 yX3_readToken, Cond.instanceMethod yX3_readToken, Cond.selects RX3 yX3_readToken yX3_readToken, Cond.code yX3_readToken cX3_readToken 2 none, Cond.fieldLink RX3 29 "SumNames$Reader" "place" "I", Cond.fieldLink RX3 15 "SumNames$Reader" "length" "I", Cond.fieldLink RX3 9 "SumNames$Reader" "text" "[I", Cond.fieldLink RX3 35 "SumNames$Reader" "begin" "I"]
def wsX3_readParents_r2 : List Cond := [Cond.methodLink RX3 173 yX3_kindAt, Cond.instanceMethod yX3_kindAt, Cond.selects RX3 yX3_kindAt yX3_kindAt, Cond.code yX3_kindAt cX3_kindAt 2 (some .int), Cond.methodLink RX3 177 yX3_valueWith, Cond.instanceMethod yX3_valueWith, Cond.selects RX3 yX3_valueWith yX3_valueWith, Cond.code yX3_valueWith cX3_valueWith 2 (some .long), Cond.constantLong RX3 181 (27), Cond.constantLong RX3 183 (97), Cond.constantLong RX3 185 (10), Cond.constantLong RX3 187 (48)]
def wsX3_readParents : List Cond := .code yX3_readParents cX3_readParents 1 (some .boolean) :: ((wsX3_readParents_r1 ++ wsX3_readParents_r2) ++ wsX30 ++ wsX50)
def wsX3_readCall_r1 : List Cond := [Cond.fieldLink RX3 41 "SumNames$Reader" "value" "J", Cond.fieldLink RX3 22 "SumNames$Reader" "draft" "LSumNames$World;", Cond.fieldLink RX3 145 "SumNames$World" "words" "[J", Cond.methodLink RX3 135 yX3_readPerson, Cond.instanceMethod yX3_readPerson, Cond.selects RX3 yX3_readPerson yX3_readPerson, Cond.initialized RX3, Cond.code yX3_readPerson cX3_readPerson 1 (some .boolean), Cond.fieldLink RX3 87 "SumNames$World" "personCount" "I", Cond.methodLink RX3 128 yX3_readNumber, Cond.instanceMethod yX3_readNumber, Cond.selects RX3 yX3_readNumber yX3_readNumber, Cond.code yX3_readNumber cX3_readNumber 3 (some .boolean), Cond.fieldLink RX3 32 "SumNames$Reader" "token" "I", Cond.fieldLink RX3 38 "SumNames$Reader" "bytes" "I", Cond.methodLink RX3 61 yX3_readToken, Cond.instanceMethod yX3_readToken, Cond.selects RX3 yX3_readToken yX3_readToken, Cond.code yX3_readToken cX3_readToken 2 none, Cond.fieldLink RX3 29 "SumNames$Reader" "place" "I", Cond.fieldLink RX3 15 "SumNames$Reader" "length" "I", Cond.fieldLink RX3 9 "SumNames$Reader" "text" "[I", Cond.fieldLink RX3 35 "SumNames$Reader" "begin" "I", Cond.methodLink RX3 173 yX3_kindAt]
def wsX3_readCall_r2 : List Cond := [Cond.instanceMethod yX3_kindAt, Cond.selects RX3 yX3_kindAt yX3_kindAt, Cond.code yX3_kindAt cX3_kindAt 2 (some .int), Cond.methodLink RX3 177 yX3_valueWith, Cond.instanceMethod yX3_valueWith, Cond.selects RX3 yX3_valueWith yX3_valueWith, Cond.code yX3_valueWith cX3_valueWith 2 (some .long), Cond.constantLong RX3 181 (27), Cond.constantLong RX3 183 (97), Cond.constantLong RX3 185 (10), Cond.constantLong RX3 187 (48), Cond.methodLink RX3 138 yX3_readWordOrNothing, Cond.instanceMethod yX3_readWordOrNothing, Cond.selects RX3 yX3_readWordOrNothing yX3_readWordOrNothing, Cond.code yX3_readWordOrNothing cX3_readWordOrNothing 1 (some .boolean), Cond.constantLong RX3 162 (45)]
def wsX3_readCall : List Cond := .code yX3_readCall cX3_readCall 2 (some .boolean) :: ((wsX3_readCall_r1 ++ wsX3_readCall_r2) ++ wsX30 ++ wsX50)
def wsX5_addHope : List Cond := .code yX5_addHope cX5_addHope 3 none :: ([.fieldLink RX5 47 "SumNames$World" "hopeCount" "I", .fieldLink RX5 41 "SumNames$World" "hopeDays" "[I", .fieldLink RX5 44 "SumNames$World" "hopeTenths" "[I"] ++ wsX50)
def wsX3_readHope_r1 : List Cond := [Cond.fieldLink RX3 22 "SumNames$Reader" "draft" "LSumNames$World;", Cond.fieldLink RX3 149 "SumNames$World" "hopeCount" "I", Cond.fieldLink RX3 41 "SumNames$Reader" "value" "J", Cond.methodLink RX3 128 yX3_readNumber, Cond.instanceMethod yX3_readNumber, Cond.selects RX3 yX3_readNumber yX3_readNumber, Cond.initialized RX3, Cond.code yX3_readNumber cX3_readNumber 3 (some .boolean), Cond.fieldLink RX3 32 "SumNames$Reader" "token" "I", Cond.fieldLink RX3 38 "SumNames$Reader" "bytes" "I", Cond.methodLink RX3 61 yX3_readToken, Cond.instanceMethod yX3_readToken, Cond.selects RX3 yX3_readToken yX3_readToken, Cond.code yX3_readToken cX3_readToken 2 none, Cond.fieldLink RX3 29 "SumNames$Reader" "place" "I", Cond.fieldLink RX3 15 "SumNames$Reader" "length" "I", Cond.fieldLink RX3 9 "SumNames$Reader" "text" "[I", Cond.fieldLink RX3 35 "SumNames$Reader" "begin" "I", Cond.methodLink RX3 173 yX3_kindAt, Cond.instanceMethod yX3_kindAt, Cond.selects RX3 yX3_kindAt yX3_kindAt, Cond.code yX3_kindAt cX3_kindAt 2 (some .int), Cond.methodLink RX3 177 yX3_valueWith, Cond.instanceMethod yX3_valueWith]
def wsX3_readHope_r2 : List Cond := [Cond.selects RX3 yX3_valueWith yX3_valueWith, Cond.code yX3_valueWith cX3_valueWith 2 (some .long), Cond.constantLong RX3 181 (27), Cond.constantLong RX3 183 (97), Cond.constantLong RX3 185 (10), Cond.constantLong RX3 187 (48), Cond.methodLink RX3 152 yX5_addHope, Cond.instanceMethod yX5_addHope, Cond.selects RX5 yX5_addHope yX5_addHope, Cond.initialized RX5, Cond.code yX5_addHope cX5_addHope 3 none, Cond.fieldLink RX5 47 "SumNames$World" "hopeCount" "I", Cond.fieldLink RX5 41 "SumNames$World" "hopeDays" "[I", Cond.fieldLink RX5 44 "SumNames$World" "hopeTenths" "[I"]
def wsX3_readHope : List Cond := .code yX3_readHope cX3_readHope 2 (some .boolean) :: ((wsX3_readHope_r1 ++ wsX3_readHope_r2) ++ wsX30 ++ wsX50)
def wsX3_readDegrees_r1 : List Cond := [Cond.fieldLink RX3 22 "SumNames$Reader" "draft" "LSumNames$World;", Cond.fieldLink RX3 41 "SumNames$Reader" "value" "J", Cond.fieldLink RX3 156 "SumNames$World" "degreesTold" "I", Cond.methodLink RX3 128 yX3_readNumber, Cond.instanceMethod yX3_readNumber, Cond.selects RX3 yX3_readNumber yX3_readNumber, Cond.initialized RX3, Cond.code yX3_readNumber cX3_readNumber 3 (some .boolean), Cond.fieldLink RX3 32 "SumNames$Reader" "token" "I", Cond.fieldLink RX3 38 "SumNames$Reader" "bytes" "I", Cond.methodLink RX3 61 yX3_readToken, Cond.instanceMethod yX3_readToken, Cond.selects RX3 yX3_readToken yX3_readToken, Cond.code yX3_readToken cX3_readToken 2 none, Cond.fieldLink RX3 29 "SumNames$Reader" "place" "I", Cond.fieldLink RX3 15 "SumNames$Reader" "length" "I", Cond.fieldLink RX3 9 "SumNames$Reader" "text" "[I", Cond.fieldLink RX3 35 "SumNames$Reader" "begin" "I", Cond.methodLink RX3 173 yX3_kindAt, Cond.instanceMethod yX3_kindAt, Cond.selects RX3 yX3_kindAt yX3_kindAt, Cond.code yX3_kindAt cX3_kindAt 2 (some .int), Cond.methodLink RX3 177 yX3_valueWith, Cond.instanceMethod yX3_valueWith]
def wsX3_readDegrees_r2 : List Cond := [Cond.selects RX3 yX3_valueWith yX3_valueWith, Cond.code yX3_valueWith cX3_valueWith 2 (some .long), Cond.constantLong RX3 181 (27), Cond.constantLong RX3 183 (97), Cond.constantLong RX3 185 (10), Cond.constantLong RX3 187 (48)]
def wsX3_readDegrees : List Cond := .code yX3_readDegrees cX3_readDegrees 1 (some .boolean) :: ((wsX3_readDegrees_r1 ++ wsX3_readDegrees_r2) ++ wsX30 ++ wsX50)
def wsX5_forgetAll : List Cond := .code yX5_forgetAll cX5_forgetAll 1 none :: ([.fieldLink RX5 19 "SumNames$World" "syllableCount" "I", .fieldLink RX5 38 "SumNames$World" "personCount" "I", .fieldLink RX5 47 "SumNames$World" "hopeCount" "I"] ++ wsX50)
def wsX3_readForget : List Cond := .code yX3_readForget cX3_readForget 1 (some .boolean) :: ([.fieldLink RX3 22 "SumNames$Reader" "draft" "LSumNames$World;", .methodLink RX3 159 yX5_forgetAll, .instanceMethod yX5_forgetAll, .selects RX5 yX5_forgetAll yX5_forgetAll, .initialized RX5, .code yX5_forgetAll cX5_forgetAll 1 none, .fieldLink RX5 19 "SumNames$World" "syllableCount" "I", .fieldLink RX5 38 "SumNames$World" "personCount" "I", .fieldLink RX5 47 "SumNames$World" "hopeCount" "I"] ++ wsX30 ++ wsX50)
def wsX3_readLine_r1 : List Cond := [Cond.fieldLink RX3 32 "SumNames$Reader" "token" "I", Cond.fieldLink RX3 22 "SumNames$Reader" "draft" "LSumNames$World;", Cond.fieldLink RX3 41 "SumNames$Reader" "value" "J", Cond.fieldLink RX3 87 "SumNames$World" "personCount" "I", Cond.methodLink RX3 61 yX3_readToken, Cond.instanceMethod yX3_readToken, Cond.selects RX3 yX3_readToken yX3_readToken, Cond.initialized RX3, Cond.code yX3_readToken cX3_readToken 2 none, Cond.fieldLink RX3 29 "SumNames$Reader" "place" "I", Cond.fieldLink RX3 15 "SumNames$Reader" "length" "I", Cond.fieldLink RX3 9 "SumNames$Reader" "text" "[I", Cond.fieldLink RX3 35 "SumNames$Reader" "begin" "I", Cond.fieldLink RX3 38 "SumNames$Reader" "bytes" "I", Cond.methodLink RX3 173 yX3_kindAt, Cond.instanceMethod yX3_kindAt, Cond.selects RX3 yX3_kindAt yX3_kindAt, Cond.code yX3_kindAt cX3_kindAt 2 (some .int), Cond.methodLink RX3 177 yX3_valueWith, Cond.instanceMethod yX3_valueWith, Cond.selects RX3 yX3_valueWith yX3_valueWith, Cond.code yX3_valueWith cX3_valueWith 2 (some .long), Cond.constantLong RX3 181 (27), Cond.constantLong RX3 183 (97)]
def wsX3_readLine_r2 : List Cond := [Cond.constantLong RX3 185 (10), Cond.constantLong RX3 187 (48), Cond.methodLink RX3 68 yX3_says, Cond.instanceMethod yX3_says, Cond.selects RX3 yX3_says yX3_says, Cond.code yX3_says cX3_says 3 (some .boolean), Cond.methodLink RX3 164 yJ0_length_8abf5, Cond.instanceMethod yJ0_length_8abf5, Cond.selects RJ0 yJ0_length_8abf5 yJ0_length_8abf5, Cond.initialized RJ0, Cond.code yJ0_length_8abf5 cJ0_length_8abf5 1 (some .int), Cond.fieldLink RJ0 9 "java/lang/String" "value" "[B", Cond.methodLink RJ0 335 yJ0_coder_7d493, Cond.instanceMethod yJ0_coder_7d493, Cond.selects RJ0 yJ0_coder_7d493 yJ0_coder_7d493, Cond.code yJ0_coder_7d493 cJ0_coder_7d493 1 (some .byte), Cond.fieldLink RJ0 38 "java/lang/String" "COMPACT_STRINGS" "Z", Cond.fieldLink RJ0 15 "java/lang/String" "coder" "B", Cond.methodLink RX3 169 yJ0_charAt_5068e, Cond.instanceMethod yJ0_charAt_5068e, Cond.selects RJ0 yJ0_charAt_5068e yJ0_charAt_5068e, Cond.code yJ0_charAt_5068e cJ0_charAt_5068e 2 (some .char), Cond.methodLink RJ0 492 yJ0_isLatin1_aae02, Cond.instanceMethod yJ0_isLatin1_aae02]
def wsX3_readLine_r3 : List Cond := [Cond.selects RJ0 yJ0_isLatin1_aae02 yJ0_isLatin1_aae02, Cond.code yJ0_isLatin1_aae02 cJ0_isLatin1_aae02 1 (some .boolean), Cond.methodLink RJ0 495 yJ1_charAt_3b067, Cond.static yJ1_charAt_3b067, Cond.initialized RJ1, Cond.code yJ1_charAt_3b067 cJ1_charAt_3b067 2 (some .char), Cond.methodLink RJ1 9 yJ0_checkIndex_df160, Cond.static yJ0_checkIndex_df160, Cond.code yJ0_checkIndex_df160 cJ0_checkIndex_df160 2 none, Cond.fieldLink RJ0 1053 "jdk/internal/util/Preconditions" "SIOOBE_FORMATTER" "Ljava/util/function/BiFunction;", Cond.methodLink RJ0 1059 yJ3_checkIndex_8e157, Cond.static yJ3_checkIndex_8e157, Cond.initialized RJ3, Cond.code yJ3_checkIndex_8e157 cJ3_checkIndex_8e157 3 (some .int), Cond.methodLink RJ0 498 yJ2_charAt_3b067, Cond.static yJ2_charAt_3b067, Cond.initialized RJ2, Cond.code yJ2_charAt_3b067 cJ2_charAt_3b067 2 (some .char), Cond.methodLink RJ2 67 yJ2_checkIndex_2214a, Cond.static yJ2_checkIndex_2214a, Cond.code yJ2_checkIndex_2214a cJ2_checkIndex_2214a 2 none, Cond.methodLink RJ2 48 yJ2_length_9d52b, Cond.static yJ2_length_9d52b, Cond.code yJ2_length_9d52b cJ2_length_9d52b 1 (some .int)]
def wsX3_readLine_r4 : List Cond := [Cond.methodLink RJ2 414 yJ0_checkIndex_df160, Cond.methodLink RJ2 71 yJ2_getChar_3b067, Cond.static yJ2_getChar_3b067, Cond.code yJ2_getChar_3b067 cJ2_getChar_3b067 2 (some .char), Cond.fieldLink RJ2 44 "java/lang/StringUTF16" "$assertionsDisabled" "Z", Cond.fieldLink RJ2 59 "java/lang/StringUTF16" "HI_BYTE_SHIFT" "I", Cond.fieldLink RJ2 63 "java/lang/StringUTF16" "LO_BYTE_SHIFT" "I", Cond.methodLink RX3 72 yX3_readLetter, Cond.instanceMethod yX3_readLetter, Cond.selects RX3 yX3_readLetter yX3_readLetter, Cond.code yX3_readLetter cX3_readLetter 2 (some .boolean), Cond.fieldLink RX3 132 "SumNames$World" "numbers" "[I", Cond.methodLink RX3 77 yX3_readWord, Cond.instanceMethod yX3_readWord, Cond.selects RX3 yX3_readWord yX3_readWord, Cond.code yX3_readWord cX3_readWord 2 (some .boolean), Cond.static yX6_lastLetter, Cond.initialized RX6, Cond.code yX6_lastLetter cX6_lastLetter 2 (some .int), Cond.constantLong RX6 310 (27), Cond.static yX6_isLetter, Cond.code yX6_isLetter cX6_isLetter 1 (some .boolean), Cond.methodLink RX3 128 yX3_readNumber, Cond.instanceMethod yX3_readNumber]
def wsX3_readLine_r5 : List Cond := [Cond.selects RX3 yX3_readNumber yX3_readNumber, Cond.code yX3_readNumber cX3_readNumber 3 (some .boolean), Cond.methodLink RX3 81 yX5_addSyllable, Cond.instanceMethod yX5_addSyllable, Cond.selects RX5 yX5_addSyllable yX5_addSyllable, Cond.initialized RX5, Cond.code yX5_addSyllable cX5_addSyllable 3 (some .boolean), Cond.fieldLink RX5 19 "SumNames$World" "syllableCount" "I", Cond.fieldLink RX5 15 "SumNames$World" "syllables" "[J", Cond.methodLink RX5 59 yX5_isSyllable, Cond.instanceMethod yX5_isSyllable, Cond.selects RX5 yX5_isSyllable yX5_isSyllable, Cond.code yX5_isSyllable cX5_isSyllable 4 (some .boolean), Cond.methodLink RX3 90 yX3_readNoParents, Cond.instanceMethod yX3_readNoParents, Cond.selects RX3 yX3_readNoParents yX3_readNoParents, Cond.code yX3_readNoParents cX3_readNoParents 1 (some .boolean), Cond.fieldLink RX3 45 "SumNames$Reader" "parent" "I", Cond.fieldLink RX3 48 "SumNames$Reader" "otherParent" "I", Cond.methodLink RX3 93 yX3_readBirth, Cond.instanceMethod yX3_readBirth, Cond.selects RX3 yX3_readBirth yX3_readBirth, Cond.code yX3_readBirth cX3_readBirth 2 (some .boolean), Cond.methodLink RX3 138 yX3_readWordOrNothing]
def wsX3_readLine_r6 : List Cond := [Cond.instanceMethod yX3_readWordOrNothing, Cond.selects RX3 yX3_readWordOrNothing yX3_readWordOrNothing, Cond.code yX3_readWordOrNothing cX3_readWordOrNothing 1 (some .boolean), Cond.constantLong RX3 162 (45), Cond.methodLink RX3 141 yX5_addPerson, Cond.instanceMethod yX5_addPerson, Cond.selects RX5 yX5_addPerson yX5_addPerson, Cond.code yX5_addPerson cX5_addPerson 6 none, Cond.fieldLink RX5 38 "SumNames$World" "personCount" "I", Cond.fieldLink RX5 35 "SumNames$World" "kinds" "[I", Cond.fieldLink RX5 29 "SumNames$World" "parents" "[I", Cond.fieldLink RX5 32 "SumNames$World" "otherParents" "[I", Cond.fieldLink RX5 23 "SumNames$World" "days" "[I", Cond.fieldLink RX5 26 "SumNames$World" "words" "[J", Cond.methodLink RX5 63 yX5_kindOf, Cond.instanceMethod yX5_kindOf, Cond.selects RX5 yX5_kindOf yX5_kindOf, Cond.code yX5_kindOf cX5_kindOf 7 (some .int), Cond.methodLink RX3 98 yX3_readParents, Cond.instanceMethod yX3_readParents, Cond.selects RX3 yX3_readParents yX3_readParents, Cond.code yX3_readParents cX3_readParents 1 (some .boolean), Cond.methodLink RX3 135 yX3_readPerson, Cond.instanceMethod yX3_readPerson]
def wsX3_readLine_r7 : List Cond := [Cond.selects RX3 yX3_readPerson yX3_readPerson, Cond.code yX3_readPerson cX3_readPerson 1 (some .boolean), Cond.methodLink RX3 103 yX3_readCall, Cond.instanceMethod yX3_readCall, Cond.selects RX3 yX3_readCall yX3_readCall, Cond.code yX3_readCall cX3_readCall 2 (some .boolean), Cond.fieldLink RX3 145 "SumNames$World" "words" "[J", Cond.methodLink RX3 108 yX3_readHope, Cond.instanceMethod yX3_readHope, Cond.selects RX3 yX3_readHope yX3_readHope, Cond.code yX3_readHope cX3_readHope 2 (some .boolean), Cond.fieldLink RX3 149 "SumNames$World" "hopeCount" "I", Cond.methodLink RX3 152 yX5_addHope, Cond.instanceMethod yX5_addHope, Cond.selects RX5 yX5_addHope yX5_addHope, Cond.code yX5_addHope cX5_addHope 3 none, Cond.fieldLink RX5 47 "SumNames$World" "hopeCount" "I", Cond.fieldLink RX5 41 "SumNames$World" "hopeDays" "[I", Cond.fieldLink RX5 44 "SumNames$World" "hopeTenths" "[I", Cond.methodLink RX3 113 yX3_readDegrees, Cond.instanceMethod yX3_readDegrees, Cond.selects RX3 yX3_readDegrees yX3_readDegrees, Cond.code yX3_readDegrees cX3_readDegrees 1 (some .boolean), Cond.fieldLink RX3 156 "SumNames$World" "degreesTold" "I"]
def wsX3_readLine_r8 : List Cond := [Cond.methodLink RX3 118 yX3_readForget, Cond.instanceMethod yX3_readForget, Cond.selects RX3 yX3_readForget yX3_readForget, Cond.code yX3_readForget cX3_readForget 1 (some .boolean), Cond.methodLink RX3 159 yX5_forgetAll, Cond.instanceMethod yX5_forgetAll, Cond.selects RX5 yX5_forgetAll yX5_forgetAll, Cond.code yX5_forgetAll cX5_forgetAll 1 none]
def wsX3_readLine : List Cond := .code yX3_readLine cX3_readLine 1 (some .boolean) :: ((wsX3_readLine_r1 ++ (wsX3_readLine_r2 ++ (wsX3_readLine_r3 ++ (wsX3_readLine_r4 ++ (wsX3_readLine_r5 ++ (wsX3_readLine_r6 ++ (wsX3_readLine_r7 ++ wsX3_readLine_r8))))))) ++ wsX30 ++ wsX50)
def wsX3_read_r1 : List Cond := [Cond.fieldLink RX3 22 "SumNames$Reader" "draft" "LSumNames$World;", Cond.fieldLink RX3 29 "SumNames$Reader" "place" "I", Cond.fieldLink RX3 35 "SumNames$Reader" "begin" "I", Cond.fieldLink RX3 26 "SumNames$Reader" "lines" "I", Cond.fieldLink RX3 32 "SumNames$Reader" "token" "I", Cond.fieldLink RX3 41 "SumNames$Reader" "value" "J", Cond.constantLong RX3 64 (59), Cond.methodLink RX3 53 yX5_takeFrom, Cond.instanceMethod yX5_takeFrom, Cond.selects RX5 yX5_takeFrom yX5_takeFrom, Cond.initialized RX5, Cond.code yX5_takeFrom cX5_takeFrom 2 none, Cond.fieldLink RX5 9 "SumNames$World" "numbers" "[I", Cond.methodLink RX5 53 arraycopyName, Cond.native arraycopyName, Cond.static arraycopyName, Cond.initialized "java/lang/System", Cond.fieldLink RX5 15 "SumNames$World" "syllables" "[J", Cond.fieldLink RX5 19 "SumNames$World" "syllableCount" "I", Cond.fieldLink RX5 23 "SumNames$World" "days" "[I", Cond.fieldLink RX5 26 "SumNames$World" "words" "[J", Cond.fieldLink RX5 29 "SumNames$World" "parents" "[I", Cond.fieldLink RX5 32 "SumNames$World" "otherParents" "[I", Cond.fieldLink RX5 35 "SumNames$World" "kinds" "[I"]
def wsX3_read_r2 : List Cond := [Cond.fieldLink RX5 38 "SumNames$World" "personCount" "I", Cond.fieldLink RX5 41 "SumNames$World" "hopeDays" "[I", Cond.fieldLink RX5 44 "SumNames$World" "hopeTenths" "[I", Cond.fieldLink RX5 47 "SumNames$World" "hopeCount" "I", Cond.fieldLink RX5 50 "SumNames$World" "degreesTold" "I", Cond.methodLink RX3 57 yX3_readLine, Cond.instanceMethod yX3_readLine, Cond.selects RX3 yX3_readLine yX3_readLine, Cond.initialized RX3, Cond.code yX3_readLine cX3_readLine 1 (some .boolean), Cond.fieldLink RX3 87 "SumNames$World" "personCount" "I", Cond.methodLink RX3 61 yX3_readToken, Cond.instanceMethod yX3_readToken, Cond.selects RX3 yX3_readToken yX3_readToken, Cond.code yX3_readToken cX3_readToken 2 none, Cond.fieldLink RX3 15 "SumNames$Reader" "length" "I", Cond.fieldLink RX3 9 "SumNames$Reader" "text" "[I", Cond.fieldLink RX3 38 "SumNames$Reader" "bytes" "I", Cond.methodLink RX3 173 yX3_kindAt, Cond.instanceMethod yX3_kindAt, Cond.selects RX3 yX3_kindAt yX3_kindAt, Cond.code yX3_kindAt cX3_kindAt 2 (some .int), Cond.methodLink RX3 177 yX3_valueWith, Cond.instanceMethod yX3_valueWith]
def wsX3_read_r3 : List Cond := [Cond.selects RX3 yX3_valueWith yX3_valueWith, Cond.code yX3_valueWith cX3_valueWith 2 (some .long), Cond.constantLong RX3 181 (27), Cond.constantLong RX3 183 (97), Cond.constantLong RX3 185 (10), Cond.constantLong RX3 187 (48), Cond.methodLink RX3 68 yX3_says, Cond.instanceMethod yX3_says, Cond.selects RX3 yX3_says yX3_says, Cond.code yX3_says cX3_says 3 (some .boolean), Cond.methodLink RX3 164 yJ0_length_8abf5, Cond.instanceMethod yJ0_length_8abf5, Cond.selects RJ0 yJ0_length_8abf5 yJ0_length_8abf5, Cond.initialized RJ0, Cond.code yJ0_length_8abf5 cJ0_length_8abf5 1 (some .int), Cond.fieldLink RJ0 9 "java/lang/String" "value" "[B", Cond.methodLink RJ0 335 yJ0_coder_7d493, Cond.instanceMethod yJ0_coder_7d493, Cond.selects RJ0 yJ0_coder_7d493 yJ0_coder_7d493, Cond.code yJ0_coder_7d493 cJ0_coder_7d493 1 (some .byte), Cond.fieldLink RJ0 38 "java/lang/String" "COMPACT_STRINGS" "Z", Cond.fieldLink RJ0 15 "java/lang/String" "coder" "B", Cond.methodLink RX3 169 yJ0_charAt_5068e, Cond.instanceMethod yJ0_charAt_5068e]
def wsX3_read_r4 : List Cond := [Cond.selects RJ0 yJ0_charAt_5068e yJ0_charAt_5068e, Cond.code yJ0_charAt_5068e cJ0_charAt_5068e 2 (some .char), Cond.methodLink RJ0 492 yJ0_isLatin1_aae02, Cond.instanceMethod yJ0_isLatin1_aae02, Cond.selects RJ0 yJ0_isLatin1_aae02 yJ0_isLatin1_aae02, Cond.code yJ0_isLatin1_aae02 cJ0_isLatin1_aae02 1 (some .boolean), Cond.methodLink RJ0 495 yJ1_charAt_3b067, Cond.static yJ1_charAt_3b067, Cond.initialized RJ1, Cond.code yJ1_charAt_3b067 cJ1_charAt_3b067 2 (some .char), Cond.methodLink RJ1 9 yJ0_checkIndex_df160, Cond.static yJ0_checkIndex_df160, Cond.code yJ0_checkIndex_df160 cJ0_checkIndex_df160 2 none, Cond.fieldLink RJ0 1053 "jdk/internal/util/Preconditions" "SIOOBE_FORMATTER" "Ljava/util/function/BiFunction;", Cond.methodLink RJ0 1059 yJ3_checkIndex_8e157, Cond.static yJ3_checkIndex_8e157, Cond.initialized RJ3, Cond.code yJ3_checkIndex_8e157 cJ3_checkIndex_8e157 3 (some .int), Cond.methodLink RJ0 498 yJ2_charAt_3b067, Cond.static yJ2_charAt_3b067, Cond.initialized RJ2, Cond.code yJ2_charAt_3b067 cJ2_charAt_3b067 2 (some .char), Cond.methodLink RJ2 67 yJ2_checkIndex_2214a, Cond.static yJ2_checkIndex_2214a]
def wsX3_read_r5 : List Cond := [Cond.code yJ2_checkIndex_2214a cJ2_checkIndex_2214a 2 none, Cond.methodLink RJ2 48 yJ2_length_9d52b, Cond.static yJ2_length_9d52b, Cond.code yJ2_length_9d52b cJ2_length_9d52b 1 (some .int), Cond.methodLink RJ2 414 yJ0_checkIndex_df160, Cond.methodLink RJ2 71 yJ2_getChar_3b067, Cond.static yJ2_getChar_3b067, Cond.code yJ2_getChar_3b067 cJ2_getChar_3b067 2 (some .char), Cond.fieldLink RJ2 44 "java/lang/StringUTF16" "$assertionsDisabled" "Z", Cond.fieldLink RJ2 59 "java/lang/StringUTF16" "HI_BYTE_SHIFT" "I", Cond.fieldLink RJ2 63 "java/lang/StringUTF16" "LO_BYTE_SHIFT" "I", Cond.methodLink RX3 72 yX3_readLetter, Cond.instanceMethod yX3_readLetter, Cond.selects RX3 yX3_readLetter yX3_readLetter, Cond.code yX3_readLetter cX3_readLetter 2 (some .boolean), Cond.fieldLink RX3 132 "SumNames$World" "numbers" "[I", Cond.methodLink RX3 77 yX3_readWord, Cond.instanceMethod yX3_readWord, Cond.selects RX3 yX3_readWord yX3_readWord, Cond.code yX3_readWord cX3_readWord 2 (some .boolean), Cond.static yX6_lastLetter, Cond.initialized RX6, Cond.code yX6_lastLetter cX6_lastLetter 2 (some .int), Cond.constantLong RX6 310 (27)]
def wsX3_read_r6 : List Cond := [Cond.static yX6_isLetter, Cond.code yX6_isLetter cX6_isLetter 1 (some .boolean), Cond.methodLink RX3 128 yX3_readNumber, Cond.instanceMethod yX3_readNumber, Cond.selects RX3 yX3_readNumber yX3_readNumber, Cond.code yX3_readNumber cX3_readNumber 3 (some .boolean), Cond.methodLink RX3 81 yX5_addSyllable, Cond.instanceMethod yX5_addSyllable, Cond.selects RX5 yX5_addSyllable yX5_addSyllable, Cond.code yX5_addSyllable cX5_addSyllable 3 (some .boolean), Cond.methodLink RX5 59 yX5_isSyllable, Cond.instanceMethod yX5_isSyllable, Cond.selects RX5 yX5_isSyllable yX5_isSyllable, Cond.code yX5_isSyllable cX5_isSyllable 4 (some .boolean), Cond.methodLink RX3 90 yX3_readNoParents, Cond.instanceMethod yX3_readNoParents, Cond.selects RX3 yX3_readNoParents yX3_readNoParents, Cond.code yX3_readNoParents cX3_readNoParents 1 (some .boolean), Cond.fieldLink RX3 45 "SumNames$Reader" "parent" "I", Cond.fieldLink RX3 48 "SumNames$Reader" "otherParent" "I", Cond.methodLink RX3 93 yX3_readBirth, Cond.instanceMethod yX3_readBirth, Cond.selects RX3 yX3_readBirth yX3_readBirth, Cond.code yX3_readBirth cX3_readBirth 2 (some .boolean)]
def wsX3_read_r7 : List Cond := [Cond.methodLink RX3 138 yX3_readWordOrNothing, Cond.instanceMethod yX3_readWordOrNothing, Cond.selects RX3 yX3_readWordOrNothing yX3_readWordOrNothing, Cond.code yX3_readWordOrNothing cX3_readWordOrNothing 1 (some .boolean), Cond.constantLong RX3 162 (45), Cond.methodLink RX3 141 yX5_addPerson, Cond.instanceMethod yX5_addPerson, Cond.selects RX5 yX5_addPerson yX5_addPerson, Cond.code yX5_addPerson cX5_addPerson 6 none, Cond.methodLink RX5 63 yX5_kindOf, Cond.instanceMethod yX5_kindOf, Cond.selects RX5 yX5_kindOf yX5_kindOf, Cond.code yX5_kindOf cX5_kindOf 7 (some .int), Cond.methodLink RX3 98 yX3_readParents, Cond.instanceMethod yX3_readParents, Cond.selects RX3 yX3_readParents yX3_readParents, Cond.code yX3_readParents cX3_readParents 1 (some .boolean), Cond.methodLink RX3 135 yX3_readPerson, Cond.instanceMethod yX3_readPerson, Cond.selects RX3 yX3_readPerson yX3_readPerson, Cond.code yX3_readPerson cX3_readPerson 1 (some .boolean), Cond.methodLink RX3 103 yX3_readCall, Cond.instanceMethod yX3_readCall, Cond.selects RX3 yX3_readCall yX3_readCall]
def wsX3_read_r8 : List Cond := [Cond.code yX3_readCall cX3_readCall 2 (some .boolean), Cond.fieldLink RX3 145 "SumNames$World" "words" "[J", Cond.methodLink RX3 108 yX3_readHope, Cond.instanceMethod yX3_readHope, Cond.selects RX3 yX3_readHope yX3_readHope, Cond.code yX3_readHope cX3_readHope 2 (some .boolean), Cond.fieldLink RX3 149 "SumNames$World" "hopeCount" "I", Cond.methodLink RX3 152 yX5_addHope, Cond.instanceMethod yX5_addHope, Cond.selects RX5 yX5_addHope yX5_addHope, Cond.code yX5_addHope cX5_addHope 3 none, Cond.methodLink RX3 113 yX3_readDegrees, Cond.instanceMethod yX3_readDegrees, Cond.selects RX3 yX3_readDegrees yX3_readDegrees, Cond.code yX3_readDegrees cX3_readDegrees 1 (some .boolean), Cond.fieldLink RX3 156 "SumNames$World" "degreesTold" "I", Cond.methodLink RX3 118 yX3_readForget, Cond.instanceMethod yX3_readForget, Cond.selects RX3 yX3_readForget yX3_readForget, Cond.code yX3_readForget cX3_readForget 1 (some .boolean), Cond.methodLink RX3 159 yX5_forgetAll, Cond.instanceMethod yX5_forgetAll, Cond.selects RX5 yX5_forgetAll yX5_forgetAll, Cond.code yX5_forgetAll cX5_forgetAll 1 none]
def wsX3_read : List Cond := .code yX3_read cX3_read 3 (some .int) :: ((wsX3_read_r1 ++ (wsX3_read_r2 ++ (wsX3_read_r3 ++ (wsX3_read_r4 ++ (wsX3_read_r5 ++ (wsX3_read_r6 ++ (wsX3_read_r7 ++ wsX3_read_r8))))))) ++ wsX30 ++ wsX50)
def wsX4_init : List Cond := .code yX4_init cX4_init 1 none :: ([.methodLink RX4 3 objectInit, .instanceMethod objectInit, .code objectInit ⟨#[0xb1]⟩ 1 none, .arrayClass .int, .fieldLink RX4 9 "SumNames$Sheet" "items" "[I", .fieldLink RX4 15 "SumNames$Sheet" "lane" "I", .fieldLink RX4 19 "SumNames$Sheet" "size" "I"] ++ wsX40)
def wsX4_isMissing : List Cond := .code yX4_isMissing cX4_isMissing 1 (some .boolean) :: ([.fieldLink RX4 19 "SumNames$Sheet" "size" "I"] ++ wsX40)
def wsX4_begin : List Cond := .code yX4_begin cX4_begin 4 none :: ([.fieldLink RX4 15 "SumNames$Sheet" "lane" "I", .fieldLink RX4 19 "SumNames$Sheet" "size" "I", .fieldLink RX4 9 "SumNames$Sheet" "items" "[I"] ++ wsX40)
def wsX4_hasPlaces : List Cond := .code yX4_hasPlaces cX4_hasPlaces 3 (some .boolean) :: ([.fieldLink RX4 19 "SumNames$Sheet" "size" "I"] ++ wsX40)
def wsX4_put : List Cond := .code yX4_put cX4_put 3 none :: ([.fieldLink RX4 15 "SumNames$Sheet" "lane" "I", .fieldLink RX4 9 "SumNames$Sheet" "items" "[I"] ++ wsX40)
def wsX6_isDay : List Cond := .code yX6_isDay cX6_isDay 1 (some .boolean) :: ([])
def wsX4_hasOnlyDays : List Cond := .code yX4_hasOnlyDays cX4_hasOnlyDays 4 (some .boolean) :: ([.fieldLink RX4 9 "SumNames$Sheet" "items" "[I", .static yX6_isDay, .initialized RX6, .code yX6_isDay cX6_isDay 1 (some .boolean)] ++ wsX40)
def wsX5_isPerson : List Cond := .code yX5_isPerson cX5_isPerson 2 (some .boolean) :: ([.fieldLink RX5 38 "SumNames$World" "personCount" "I"] ++ wsX50)
def wsX5_isParted : List Cond := .code yX5_isParted cX5_isParted 7 (some .boolean) :: ([.constantLong RX5 75 (27), .methodLink RX5 59 yX5_isSyllable, .instanceMethod yX5_isSyllable, .selects RX5 yX5_isSyllable yX5_isSyllable, .initialized RX5, .code yX5_isSyllable cX5_isSyllable 4 (some .boolean), .fieldLink RX5 19 "SumNames$World" "syllableCount" "I", .fieldLink RX5 15 "SumNames$World" "syllables" "[J", .methodLink RX5 83 yX5_isParted, .instanceMethod yX5_isParted, .selects RX5 yX5_isParted yX5_isParted] ++ wsX50)
def wsX5_isName_r1 : List Cond := [Cond.methodLink RX5 80 yX5_sumInNames, Cond.instanceMethod yX5_sumInNames, Cond.selects RX5 yX5_sumInNames yX5_sumInNames, Cond.initialized RX5, Cond.code yX5_sumInNames cX5_sumInNames 7 (some .int), Cond.fieldLink RX5 9 "SumNames$World" "numbers" "[I", Cond.constantLong RX5 75 (27), Cond.static yX6_lastLetter, Cond.initialized RX6, Cond.code yX6_lastLetter cX6_lastLetter 2 (some .int), Cond.constantLong RX6 310 (27), Cond.static yX6_isLetter, Cond.code yX6_isLetter cX6_isLetter 1 (some .boolean), Cond.methodLink RX5 77 yX5_sumOf, Cond.instanceMethod yX5_sumOf, Cond.selects RX5 yX5_sumOf yX5_sumOf, Cond.code yX5_sumOf cX5_sumOf 8 (some .int), Cond.methodLink RX5 83 yX5_isParted, Cond.instanceMethod yX5_isParted, Cond.selects RX5 yX5_isParted yX5_isParted, Cond.code yX5_isParted cX5_isParted 7 (some .boolean), Cond.methodLink RX5 59 yX5_isSyllable, Cond.instanceMethod yX5_isSyllable, Cond.selects RX5 yX5_isSyllable yX5_isSyllable]
def wsX5_isName_r2 : List Cond := [Cond.code yX5_isSyllable cX5_isSyllable 4 (some .boolean), Cond.fieldLink RX5 19 "SumNames$World" "syllableCount" "I", Cond.fieldLink RX5 15 "SumNames$World" "syllables" "[J"]
def wsX5_isName : List Cond := .code yX5_isName cX5_isName 3 (some .boolean) :: ((wsX5_isName_r1 ++ wsX5_isName_r2) ++ wsX50)
def wsX5_addsUp : List Cond := .code yX5_addsUp cX5_addsUp 2 (some .boolean) :: ([.fieldLink RX5 26 "SumNames$World" "words" "[J", .fieldLink RX5 23 "SumNames$World" "days" "[I", .methodLink RX5 77 yX5_sumOf, .instanceMethod yX5_sumOf, .selects RX5 yX5_sumOf yX5_sumOf, .initialized RX5, .code yX5_sumOf cX5_sumOf 8 (some .int), .fieldLink RX5 9 "SumNames$World" "numbers" "[I", .constantLong RX5 75 (27), .static yX6_lastLetter, .initialized RX6, .code yX6_lastLetter cX6_lastLetter 2 (some .int), .constantLong RX6 310 (27), .static yX6_isLetter, .code yX6_isLetter cX6_isLetter 1 (some .boolean)] ++ wsX50)
def wsX5_oneStepMore : List Cond := .code yX5_oneStepMore cX5_oneStepMore 5 (some .int) :: ([.fieldLink RX5 38 "SumNames$World" "personCount" "I", .fieldLink RX5 35 "SumNames$World" "kinds" "[I", .fieldLink RX5 29 "SumNames$World" "parents" "[I", .fieldLink RX5 32 "SumNames$World" "otherParents" "[I"] ++ wsX50)
def wsX5_within : List Cond := .code yX5_within cX5_within 5 (some .int) :: ([.methodLink RX5 105 yX5_oneStepMore, .instanceMethod yX5_oneStepMore, .selects RX5 yX5_oneStepMore yX5_oneStepMore, .initialized RX5, .code yX5_oneStepMore cX5_oneStepMore 5 (some .int), .fieldLink RX5 38 "SumNames$World" "personCount" "I", .fieldLink RX5 35 "SumNames$World" "kinds" "[I", .fieldLink RX5 29 "SumNames$World" "parents" "[I", .fieldLink RX5 32 "SumNames$World" "otherParents" "[I"] ++ wsX50)
def wsX5_nearOf : List Cond := .code yX5_nearOf cX5_nearOf 2 (some .int) :: ([.fieldLink RX5 50 "SumNames$World" "degreesTold" "I", .methodLink RX5 101 yX5_within, .instanceMethod yX5_within, .selects RX5 yX5_within yX5_within, .initialized RX5, .code yX5_within cX5_within 5 (some .int), .methodLink RX5 105 yX5_oneStepMore, .instanceMethod yX5_oneStepMore, .selects RX5 yX5_oneStepMore yX5_oneStepMore, .code yX5_oneStepMore cX5_oneStepMore 5 (some .int), .fieldLink RX5 38 "SumNames$World" "personCount" "I", .fieldLink RX5 35 "SumNames$World" "kinds" "[I", .fieldLink RX5 29 "SumNames$World" "parents" "[I", .fieldLink RX5 32 "SumNames$World" "otherParents" "[I"] ++ wsX50)
def wsX5_faultOfName_r1 : List Cond := [Cond.fieldLink RX5 26 "SumNames$World" "words" "[J", Cond.methodLink RX5 87 yX5_isName, Cond.instanceMethod yX5_isName, Cond.selects RX5 yX5_isName yX5_isName, Cond.initialized RX5, Cond.code yX5_isName cX5_isName 3 (some .boolean), Cond.methodLink RX5 80 yX5_sumInNames, Cond.instanceMethod yX5_sumInNames, Cond.selects RX5 yX5_sumInNames yX5_sumInNames, Cond.code yX5_sumInNames cX5_sumInNames 7 (some .int), Cond.fieldLink RX5 9 "SumNames$World" "numbers" "[I", Cond.constantLong RX5 75 (27), Cond.static yX6_lastLetter, Cond.initialized RX6, Cond.code yX6_lastLetter cX6_lastLetter 2 (some .int), Cond.constantLong RX6 310 (27), Cond.static yX6_isLetter, Cond.code yX6_isLetter cX6_isLetter 1 (some .boolean), Cond.methodLink RX5 77 yX5_sumOf, Cond.instanceMethod yX5_sumOf, Cond.selects RX5 yX5_sumOf yX5_sumOf, Cond.code yX5_sumOf cX5_sumOf 8 (some .int), Cond.methodLink RX5 83 yX5_isParted, Cond.instanceMethod yX5_isParted]
def wsX5_faultOfName_r2 : List Cond := [Cond.selects RX5 yX5_isParted yX5_isParted, Cond.code yX5_isParted cX5_isParted 7 (some .boolean), Cond.methodLink RX5 59 yX5_isSyllable, Cond.instanceMethod yX5_isSyllable, Cond.selects RX5 yX5_isSyllable yX5_isSyllable, Cond.code yX5_isSyllable cX5_isSyllable 4 (some .boolean), Cond.fieldLink RX5 19 "SumNames$World" "syllableCount" "I", Cond.fieldLink RX5 15 "SumNames$World" "syllables" "[J", Cond.methodLink RX5 90 yX5_addsUp, Cond.instanceMethod yX5_addsUp, Cond.selects RX5 yX5_addsUp yX5_addsUp, Cond.code yX5_addsUp cX5_addsUp 2 (some .boolean), Cond.fieldLink RX5 23 "SumNames$World" "days" "[I", Cond.methodLink RX5 93 yX5_nearOf, Cond.instanceMethod yX5_nearOf, Cond.selects RX5 yX5_nearOf yX5_nearOf, Cond.code yX5_nearOf cX5_nearOf 2 (some .int), Cond.fieldLink RX5 50 "SumNames$World" "degreesTold" "I", Cond.methodLink RX5 101 yX5_within, Cond.instanceMethod yX5_within, Cond.selects RX5 yX5_within yX5_within, Cond.code yX5_within cX5_within 5 (some .int), Cond.methodLink RX5 105 yX5_oneStepMore, Cond.instanceMethod yX5_oneStepMore]
def wsX5_faultOfName_r3 : List Cond := [Cond.selects RX5 yX5_oneStepMore yX5_oneStepMore, Cond.code yX5_oneStepMore cX5_oneStepMore 5 (some .int), Cond.fieldLink RX5 38 "SumNames$World" "personCount" "I", Cond.fieldLink RX5 35 "SumNames$World" "kinds" "[I", Cond.fieldLink RX5 29 "SumNames$World" "parents" "[I", Cond.fieldLink RX5 32 "SumNames$World" "otherParents" "[I", Cond.methodLink RX5 97 yX5_leastCalled, Cond.instanceMethod yX5_leastCalled, Cond.selects RX5 yX5_leastCalled yX5_leastCalled, Cond.code yX5_leastCalled cX5_leastCalled 5 (some .int)]
def wsX5_faultOfName : List Cond := .code yX5_faultOfName cX5_faultOfName 4 (some .int) :: ((wsX5_faultOfName_r1 ++ (wsX5_faultOfName_r2 ++ wsX5_faultOfName_r3)) ++ wsX50)
def wsX5_nearChildOf : List Cond := .code yX5_nearChildOf cX5_nearChildOf 3 (some .int) :: ([.fieldLink RX5 50 "SumNames$World" "degreesTold" "I", .methodLink RX5 101 yX5_within, .instanceMethod yX5_within, .selects RX5 yX5_within yX5_within, .initialized RX5, .code yX5_within cX5_within 5 (some .int), .methodLink RX5 105 yX5_oneStepMore, .instanceMethod yX5_oneStepMore, .selects RX5 yX5_oneStepMore yX5_oneStepMore, .code yX5_oneStepMore cX5_oneStepMore 5 (some .int), .fieldLink RX5 38 "SumNames$World" "personCount" "I", .fieldLink RX5 35 "SumNames$World" "kinds" "[I", .fieldLink RX5 29 "SumNames$World" "parents" "[I", .fieldLink RX5 32 "SumNames$World" "otherParents" "[I"] ++ wsX50)
def wsX5_stepsBetween : List Cond := .code yX5_stepsBetween cX5_stepsBetween 5 (some .int) :: ([.methodLink RX5 105 yX5_oneStepMore, .instanceMethod yX5_oneStepMore, .selects RX5 yX5_oneStepMore yX5_oneStepMore, .initialized RX5, .code yX5_oneStepMore cX5_oneStepMore 5 (some .int), .fieldLink RX5 38 "SumNames$World" "personCount" "I", .fieldLink RX5 35 "SumNames$World" "kinds" "[I", .fieldLink RX5 29 "SumNames$World" "parents" "[I", .fieldLink RX5 32 "SumNames$World" "otherParents" "[I"] ++ wsX50)
def wsX5_sumOfAll : List Cond := .code yX5_sumOfAll cX5_sumOfAll 4 (some .int) :: ([.fieldLink RX5 38 "SumNames$World" "personCount" "I", .fieldLink RX5 26 "SumNames$World" "words" "[J", .methodLink RX5 77 yX5_sumOf, .instanceMethod yX5_sumOf, .selects RX5 yX5_sumOf yX5_sumOf, .initialized RX5, .code yX5_sumOf cX5_sumOf 8 (some .int), .fieldLink RX5 9 "SumNames$World" "numbers" "[I", .constantLong RX5 75 (27), .static yX6_lastLetter, .initialized RX6, .code yX6_lastLetter cX6_lastLetter 2 (some .int), .constantLong RX6 310 (27), .static yX6_isLetter, .code yX6_isLetter cX6_isLetter 1 (some .boolean)] ++ wsX50)
def wsX5_othersOfNumber : List Cond := .code yX5_othersOfNumber cX5_othersOfNumber 5 (some .int) :: ([.fieldLink RX5 9 "SumNames$World" "numbers" "[I"] ++ wsX50)
def wsX5_changesBy : List Cond := .code yX5_changesBy cX5_changesBy 9 (some .int) :: ([.fieldLink RX5 9 "SumNames$World" "numbers" "[I", .constantLong RX5 75 (27), .static yX6_lastLetter, .initialized RX6, .code yX6_lastLetter cX6_lastLetter 2 (some .int), .constantLong RX6 310 (27), .static yX6_isLetter, .code yX6_isLetter cX6_isLetter 1 (some .boolean), .methodLink RX5 108 yX5_othersOfNumber, .instanceMethod yX5_othersOfNumber, .selects RX5 yX5_othersOfNumber yX5_othersOfNumber, .initialized RX5, .code yX5_othersOfNumber cX5_othersOfNumber 5 (some .int)] ++ wsX50)
def wsX6_init_r1 : List Cond := [Cond.methodLink RX6 1 objectInit, Cond.instanceMethod objectInit, Cond.code objectInit ⟨#[0xb1]⟩ 1 none, Cond.classLink RX6 7 RX5, Cond.instantiable RX5 13, Cond.initialized RX5, Cond.fieldLink RX6 10 "SumNames" "now" "LSumNames$World;", Cond.fieldLink RX6 16 "SumNames" "images" "[LSumNames$World;", Cond.classLink RX6 20 RX3, Cond.instantiable RX3 11, Cond.initialized RX3, Cond.fieldLink RX6 23 "SumNames" "reader" "LSumNames$Reader;", Cond.classLink RX6 27 RX0, Cond.instantiable RX0 8, Cond.initialized RX0, Cond.fieldLink RX6 30 "SumNames" "row" "LSumNames$NameRow;", Cond.classLink RX6 34 RX2, Cond.instantiable RX2 2, Cond.initialized RX2, Cond.fieldLink RX6 37 "SumNames" "reach" "LSumNames$Reach;", Cond.classLink RX6 41 RX1, Cond.instantiable RX1 10, Cond.initialized RX1, Cond.fieldLink RX6 44 "SumNames" "oldNames" "LSumNames$OldNames;"]
def wsX6_init_r2 : List Cond := [Cond.classLink RX6 48 RX4, Cond.fieldLink RX6 50 "SumNames" "sheets" "[LSumNames$Sheet;", Cond.arrayClass .int, Cond.fieldLink RX6 54 "SumNames" "rooms" "[I", Cond.instantiable RX4 3, Cond.initialized RX4, Cond.methodLink RX6 9 yX5_init, Cond.instanceMethod yX5_init, Cond.code yX5_init cX5_init 2 none, Cond.methodLink RX5 3 objectInit, Cond.fieldLink RX5 9 "SumNames$World" "numbers" "[I", Cond.arrayClass .long, Cond.fieldLink RX5 15 "SumNames$World" "syllables" "[J", Cond.fieldLink RX5 19 "SumNames$World" "syllableCount" "I", Cond.fieldLink RX5 23 "SumNames$World" "days" "[I", Cond.fieldLink RX5 26 "SumNames$World" "words" "[J", Cond.fieldLink RX5 29 "SumNames$World" "parents" "[I", Cond.fieldLink RX5 32 "SumNames$World" "otherParents" "[I", Cond.fieldLink RX5 35 "SumNames$World" "kinds" "[I", Cond.fieldLink RX5 38 "SumNames$World" "personCount" "I", Cond.fieldLink RX5 41 "SumNames$World" "hopeDays" "[I", Cond.fieldLink RX5 44 "SumNames$World" "hopeTenths" "[I", Cond.fieldLink RX5 47 "SumNames$World" "hopeCount" "I", Cond.fieldLink RX5 50 "SumNames$World" "degreesTold" "I"]
def wsX6_init_r3 : List Cond := [Cond.instanceMethod yX3_init, Cond.code yX3_init cX3_init 1 none, Cond.methodLink RX3 3 objectInit, Cond.fieldLink RX3 9 "SumNames$Reader" "text" "[I", Cond.fieldLink RX3 15 "SumNames$Reader" "length" "I", Cond.classLink RX3 19 RX5, Cond.fieldLink RX3 22 "SumNames$Reader" "draft" "LSumNames$World;", Cond.fieldLink RX3 26 "SumNames$Reader" "lines" "I", Cond.fieldLink RX3 29 "SumNames$Reader" "place" "I", Cond.fieldLink RX3 32 "SumNames$Reader" "token" "I", Cond.fieldLink RX3 35 "SumNames$Reader" "begin" "I", Cond.fieldLink RX3 38 "SumNames$Reader" "bytes" "I", Cond.fieldLink RX3 41 "SumNames$Reader" "value" "J", Cond.fieldLink RX3 45 "SumNames$Reader" "parent" "I", Cond.fieldLink RX3 48 "SumNames$Reader" "otherParent" "I", Cond.methodLink RX3 21 yX5_init, Cond.instanceMethod yX0_init, Cond.code yX0_init cX0_init 1 none, Cond.methodLink RX0 3 objectInit, Cond.fieldLink RX0 9 "SumNames$NameRow" "codes" "[J", Cond.fieldLink RX0 15 "SumNames$NameRow" "size" "I", Cond.fieldLink RX0 19 "SumNames$NameRow" "partCodes" "[J", Cond.fieldLink RX0 22 "SumNames$NameRow" "partShifts" "[J", Cond.fieldLink RX0 25 "SumNames$NameRow" "partSums" "[I"]
def wsX6_init_r4 : List Cond := [Cond.fieldLink RX0 29 "SumNames$NameRow" "partCount" "I", Cond.fieldLink RX0 32 "SumNames$NameRow" "wantedDay" "I", Cond.fieldLink RX0 35 "SumNames$NameRow" "divisorsWanted" "Z", Cond.instanceMethod yX2_init, Cond.code yX2_init cX2_init 1 none, Cond.methodLink RX2 3 objectInit, Cond.fieldLink RX2 9 "SumNames$Reach" "fewest" "[I", Cond.arrayClass .boolean, Cond.fieldLink RX2 15 "SumNames$Reach" "tried" "[Z", Cond.instanceMethod yX1_init, Cond.code yX1_init cX1_init 1 none, Cond.methodLink RX1 3 objectInit, Cond.fieldLink RX1 9 "SumNames$OldNames" "ways" "I", Cond.fieldLink RX1 15 "SumNames$OldNames" "letters" "[I", Cond.fieldLink RX1 19 "SumNames$OldNames" "letterCount" "I", Cond.classLink RX1 22 "[[I", Cond.fieldLink RX1 24 "SumNames$OldNames" "times" "[[I", Cond.fieldLink RX1 27 "SumNames$OldNames" "behind" "[[I", Cond.fieldLink RX1 30 "SumNames$OldNames" "left" "[I", Cond.fieldLink RX1 33 "SumNames$OldNames" "wordCount" "I", Cond.fieldLink RX1 36 "SumNames$OldNames" "given" "[I", Cond.fieldLink RX1 39 "SumNames$OldNames" "first" "[I", Cond.fieldLink RX1 42 "SumNames$OldNames" "most" "I", Cond.instanceMethod yX4_init]
def wsX6_init_r5 : List Cond := [Cond.code yX4_init cX4_init 1 none, Cond.methodLink RX4 3 objectInit, Cond.fieldLink RX4 9 "SumNames$Sheet" "items" "[I", Cond.fieldLink RX4 15 "SumNames$Sheet" "lane" "I", Cond.fieldLink RX4 19 "SumNames$Sheet" "size" "I"]
def wsX6_init : List Cond := .code yX6_init cX6_init 2 none :: ((wsX6_init_r1 ++ (wsX6_init_r2 ++ (wsX6_init_r3 ++ (wsX6_init_r4 ++ wsX6_init_r5)))) ++ wsX50 ++ wsX60 ++ wsX30 ++ wsX00 ++ wsX20 ++ wsX10 ++ wsX40)
def wsX6_write : List Cond := .code yX6_write cX6_write 4 (some .int) :: ([.fieldLink RX6 23 "SumNames" "reader" "LSumNames$Reader;", .fieldLink RX6 63 "SumNames$Reader" "length" "I", .methodLink RX6 59 yX3_append, .instanceMethod yX3_append, .selects RX3 yX3_append yX3_append, .initialized RX3, .code yX3_append cX3_append 5 (some .boolean), .fieldLink RX3 15 "SumNames$Reader" "length" "I", .fieldLink RX3 9 "SumNames$Reader" "text" "[I", .constantLong RX3 51 (255)] ++ wsX60 ++ wsX30)
def wsX6_erase : List Cond := .code yX6_erase cX6_erase 2 (some .int) :: ([.fieldLink RX6 23 "SumNames" "reader" "LSumNames$Reader;", .fieldLink RX6 63 "SumNames$Reader" "length" "I"] ++ wsX60 ++ wsX30)
def wsX6_fault_r1 : List Cond := [Cond.fieldLink RX6 23 "SumNames" "reader" "LSumNames$Reader;", Cond.fieldLink RX6 10 "SumNames" "now" "LSumNames$World;", Cond.methodLink RX6 67 yX3_read, Cond.instanceMethod yX3_read, Cond.selects RX3 yX3_read yX3_read, Cond.initialized RX3, Cond.code yX3_read cX3_read 3 (some .int), Cond.fieldLink RX3 22 "SumNames$Reader" "draft" "LSumNames$World;", Cond.fieldLink RX3 29 "SumNames$Reader" "place" "I", Cond.fieldLink RX3 35 "SumNames$Reader" "begin" "I", Cond.fieldLink RX3 26 "SumNames$Reader" "lines" "I", Cond.fieldLink RX3 32 "SumNames$Reader" "token" "I", Cond.fieldLink RX3 41 "SumNames$Reader" "value" "J", Cond.constantLong RX3 64 (59), Cond.methodLink RX3 53 yX5_takeFrom, Cond.instanceMethod yX5_takeFrom, Cond.selects RX5 yX5_takeFrom yX5_takeFrom, Cond.initialized RX5, Cond.code yX5_takeFrom cX5_takeFrom 2 none, Cond.fieldLink RX5 9 "SumNames$World" "numbers" "[I", Cond.methodLink RX5 53 arraycopyName, Cond.native arraycopyName, Cond.static arraycopyName, Cond.initialized "java/lang/System"]
def wsX6_fault_r2 : List Cond := [Cond.fieldLink RX5 15 "SumNames$World" "syllables" "[J", Cond.fieldLink RX5 19 "SumNames$World" "syllableCount" "I", Cond.fieldLink RX5 23 "SumNames$World" "days" "[I", Cond.fieldLink RX5 26 "SumNames$World" "words" "[J", Cond.fieldLink RX5 29 "SumNames$World" "parents" "[I", Cond.fieldLink RX5 32 "SumNames$World" "otherParents" "[I", Cond.fieldLink RX5 35 "SumNames$World" "kinds" "[I", Cond.fieldLink RX5 38 "SumNames$World" "personCount" "I", Cond.fieldLink RX5 41 "SumNames$World" "hopeDays" "[I", Cond.fieldLink RX5 44 "SumNames$World" "hopeTenths" "[I", Cond.fieldLink RX5 47 "SumNames$World" "hopeCount" "I", Cond.fieldLink RX5 50 "SumNames$World" "degreesTold" "I", Cond.methodLink RX3 57 yX3_readLine, Cond.instanceMethod yX3_readLine, Cond.selects RX3 yX3_readLine yX3_readLine, Cond.code yX3_readLine cX3_readLine 1 (some .boolean), Cond.fieldLink RX3 87 "SumNames$World" "personCount" "I", Cond.methodLink RX3 61 yX3_readToken, Cond.instanceMethod yX3_readToken, Cond.selects RX3 yX3_readToken yX3_readToken, Cond.code yX3_readToken cX3_readToken 2 none, Cond.fieldLink RX3 15 "SumNames$Reader" "length" "I", Cond.fieldLink RX3 9 "SumNames$Reader" "text" "[I", Cond.fieldLink RX3 38 "SumNames$Reader" "bytes" "I"]
def wsX6_fault_r3 : List Cond := [Cond.methodLink RX3 173 yX3_kindAt, Cond.instanceMethod yX3_kindAt, Cond.selects RX3 yX3_kindAt yX3_kindAt, Cond.code yX3_kindAt cX3_kindAt 2 (some .int), Cond.methodLink RX3 177 yX3_valueWith, Cond.instanceMethod yX3_valueWith, Cond.selects RX3 yX3_valueWith yX3_valueWith, Cond.code yX3_valueWith cX3_valueWith 2 (some .long), Cond.constantLong RX3 181 (27), Cond.constantLong RX3 183 (97), Cond.constantLong RX3 185 (10), Cond.constantLong RX3 187 (48), Cond.methodLink RX3 68 yX3_says, Cond.instanceMethod yX3_says, Cond.selects RX3 yX3_says yX3_says, Cond.code yX3_says cX3_says 3 (some .boolean), Cond.methodLink RX3 164 yJ0_length_8abf5, Cond.instanceMethod yJ0_length_8abf5, Cond.selects RJ0 yJ0_length_8abf5 yJ0_length_8abf5, Cond.initialized RJ0, Cond.code yJ0_length_8abf5 cJ0_length_8abf5 1 (some .int), Cond.fieldLink RJ0 9 "java/lang/String" "value" "[B", Cond.methodLink RJ0 335 yJ0_coder_7d493, Cond.instanceMethod yJ0_coder_7d493]
def wsX6_fault_r4 : List Cond := [Cond.selects RJ0 yJ0_coder_7d493 yJ0_coder_7d493, Cond.code yJ0_coder_7d493 cJ0_coder_7d493 1 (some .byte), Cond.fieldLink RJ0 38 "java/lang/String" "COMPACT_STRINGS" "Z", Cond.fieldLink RJ0 15 "java/lang/String" "coder" "B", Cond.methodLink RX3 169 yJ0_charAt_5068e, Cond.instanceMethod yJ0_charAt_5068e, Cond.selects RJ0 yJ0_charAt_5068e yJ0_charAt_5068e, Cond.code yJ0_charAt_5068e cJ0_charAt_5068e 2 (some .char), Cond.methodLink RJ0 492 yJ0_isLatin1_aae02, Cond.instanceMethod yJ0_isLatin1_aae02, Cond.selects RJ0 yJ0_isLatin1_aae02 yJ0_isLatin1_aae02, Cond.code yJ0_isLatin1_aae02 cJ0_isLatin1_aae02 1 (some .boolean), Cond.methodLink RJ0 495 yJ1_charAt_3b067, Cond.static yJ1_charAt_3b067, Cond.initialized RJ1, Cond.code yJ1_charAt_3b067 cJ1_charAt_3b067 2 (some .char), Cond.methodLink RJ1 9 yJ0_checkIndex_df160, Cond.static yJ0_checkIndex_df160, Cond.code yJ0_checkIndex_df160 cJ0_checkIndex_df160 2 none, Cond.fieldLink RJ0 1053 "jdk/internal/util/Preconditions" "SIOOBE_FORMATTER" "Ljava/util/function/BiFunction;", Cond.methodLink RJ0 1059 yJ3_checkIndex_8e157, Cond.static yJ3_checkIndex_8e157, Cond.initialized RJ3, Cond.code yJ3_checkIndex_8e157 cJ3_checkIndex_8e157 3 (some .int)]
def wsX6_fault_r5 : List Cond := [Cond.methodLink RJ0 498 yJ2_charAt_3b067, Cond.static yJ2_charAt_3b067, Cond.initialized RJ2, Cond.code yJ2_charAt_3b067 cJ2_charAt_3b067 2 (some .char), Cond.methodLink RJ2 67 yJ2_checkIndex_2214a, Cond.static yJ2_checkIndex_2214a, Cond.code yJ2_checkIndex_2214a cJ2_checkIndex_2214a 2 none, Cond.methodLink RJ2 48 yJ2_length_9d52b, Cond.static yJ2_length_9d52b, Cond.code yJ2_length_9d52b cJ2_length_9d52b 1 (some .int), Cond.methodLink RJ2 414 yJ0_checkIndex_df160, Cond.methodLink RJ2 71 yJ2_getChar_3b067, Cond.static yJ2_getChar_3b067, Cond.code yJ2_getChar_3b067 cJ2_getChar_3b067 2 (some .char), Cond.fieldLink RJ2 44 "java/lang/StringUTF16" "$assertionsDisabled" "Z", Cond.fieldLink RJ2 59 "java/lang/StringUTF16" "HI_BYTE_SHIFT" "I", Cond.fieldLink RJ2 63 "java/lang/StringUTF16" "LO_BYTE_SHIFT" "I", Cond.methodLink RX3 72 yX3_readLetter, Cond.instanceMethod yX3_readLetter, Cond.selects RX3 yX3_readLetter yX3_readLetter, Cond.code yX3_readLetter cX3_readLetter 2 (some .boolean), Cond.fieldLink RX3 132 "SumNames$World" "numbers" "[I", Cond.methodLink RX3 77 yX3_readWord, Cond.instanceMethod yX3_readWord]
def wsX6_fault_r6 : List Cond := [Cond.selects RX3 yX3_readWord yX3_readWord, Cond.code yX3_readWord cX3_readWord 2 (some .boolean), Cond.static yX6_lastLetter, Cond.initialized RX6, Cond.code yX6_lastLetter cX6_lastLetter 2 (some .int), Cond.constantLong RX6 310 (27), Cond.static yX6_isLetter, Cond.code yX6_isLetter cX6_isLetter 1 (some .boolean), Cond.methodLink RX3 128 yX3_readNumber, Cond.instanceMethod yX3_readNumber, Cond.selects RX3 yX3_readNumber yX3_readNumber, Cond.code yX3_readNumber cX3_readNumber 3 (some .boolean), Cond.methodLink RX3 81 yX5_addSyllable, Cond.instanceMethod yX5_addSyllable, Cond.selects RX5 yX5_addSyllable yX5_addSyllable, Cond.code yX5_addSyllable cX5_addSyllable 3 (some .boolean), Cond.methodLink RX5 59 yX5_isSyllable, Cond.instanceMethod yX5_isSyllable, Cond.selects RX5 yX5_isSyllable yX5_isSyllable, Cond.code yX5_isSyllable cX5_isSyllable 4 (some .boolean), Cond.methodLink RX3 90 yX3_readNoParents, Cond.instanceMethod yX3_readNoParents, Cond.selects RX3 yX3_readNoParents yX3_readNoParents, Cond.code yX3_readNoParents cX3_readNoParents 1 (some .boolean)]
def wsX6_fault_r7 : List Cond := [Cond.fieldLink RX3 45 "SumNames$Reader" "parent" "I", Cond.fieldLink RX3 48 "SumNames$Reader" "otherParent" "I", Cond.methodLink RX3 93 yX3_readBirth, Cond.instanceMethod yX3_readBirth, Cond.selects RX3 yX3_readBirth yX3_readBirth, Cond.code yX3_readBirth cX3_readBirth 2 (some .boolean), Cond.methodLink RX3 138 yX3_readWordOrNothing, Cond.instanceMethod yX3_readWordOrNothing, Cond.selects RX3 yX3_readWordOrNothing yX3_readWordOrNothing, Cond.code yX3_readWordOrNothing cX3_readWordOrNothing 1 (some .boolean), Cond.constantLong RX3 162 (45), Cond.methodLink RX3 141 yX5_addPerson, Cond.instanceMethod yX5_addPerson, Cond.selects RX5 yX5_addPerson yX5_addPerson, Cond.code yX5_addPerson cX5_addPerson 6 none, Cond.methodLink RX5 63 yX5_kindOf, Cond.instanceMethod yX5_kindOf, Cond.selects RX5 yX5_kindOf yX5_kindOf, Cond.code yX5_kindOf cX5_kindOf 7 (some .int), Cond.methodLink RX3 98 yX3_readParents, Cond.instanceMethod yX3_readParents, Cond.selects RX3 yX3_readParents yX3_readParents, Cond.code yX3_readParents cX3_readParents 1 (some .boolean), Cond.methodLink RX3 135 yX3_readPerson]
def wsX6_fault_r8 : List Cond := [Cond.instanceMethod yX3_readPerson, Cond.selects RX3 yX3_readPerson yX3_readPerson, Cond.code yX3_readPerson cX3_readPerson 1 (some .boolean), Cond.methodLink RX3 103 yX3_readCall, Cond.instanceMethod yX3_readCall, Cond.selects RX3 yX3_readCall yX3_readCall, Cond.code yX3_readCall cX3_readCall 2 (some .boolean), Cond.fieldLink RX3 145 "SumNames$World" "words" "[J", Cond.methodLink RX3 108 yX3_readHope, Cond.instanceMethod yX3_readHope, Cond.selects RX3 yX3_readHope yX3_readHope, Cond.code yX3_readHope cX3_readHope 2 (some .boolean), Cond.fieldLink RX3 149 "SumNames$World" "hopeCount" "I", Cond.methodLink RX3 152 yX5_addHope, Cond.instanceMethod yX5_addHope, Cond.selects RX5 yX5_addHope yX5_addHope, Cond.code yX5_addHope cX5_addHope 3 none, Cond.methodLink RX3 113 yX3_readDegrees, Cond.instanceMethod yX3_readDegrees, Cond.selects RX3 yX3_readDegrees yX3_readDegrees, Cond.code yX3_readDegrees cX3_readDegrees 1 (some .boolean), Cond.fieldLink RX3 156 "SumNames$World" "degreesTold" "I", Cond.methodLink RX3 118 yX3_readForget, Cond.instanceMethod yX3_readForget]
def wsX6_fault_r9 : List Cond := [Cond.selects RX3 yX3_readForget yX3_readForget, Cond.code yX3_readForget cX3_readForget 1 (some .boolean), Cond.methodLink RX3 159 yX5_forgetAll, Cond.instanceMethod yX5_forgetAll, Cond.selects RX5 yX5_forgetAll yX5_forgetAll, Cond.code yX5_forgetAll cX5_forgetAll 1 none]
def wsX6_fault : List Cond := .code yX6_fault cX6_fault 1 (some .int) :: ((wsX6_fault_r1 ++ (wsX6_fault_r2 ++ (wsX6_fault_r3 ++ (wsX6_fault_r4 ++ (wsX6_fault_r5 ++ (wsX6_fault_r6 ++ (wsX6_fault_r7 ++ (wsX6_fault_r8 ++ wsX6_fault_r9)))))))) ++ wsX60 ++ wsX30 ++ wsX50)
def wsX6_told_r1 : List Cond := [Cond.fieldLink RX6 23 "SumNames" "reader" "LSumNames$Reader;", Cond.fieldLink RX6 10 "SumNames" "now" "LSumNames$World;", Cond.fieldLink RX6 71 "SumNames$Reader" "draft" "LSumNames$World;", Cond.fieldLink RX6 63 "SumNames$Reader" "length" "I", Cond.fieldLink RX6 78 "SumNames$Reader" "lines" "I", Cond.methodLink RX6 67 yX3_read, Cond.instanceMethod yX3_read, Cond.selects RX3 yX3_read yX3_read, Cond.initialized RX3, Cond.code yX3_read cX3_read 3 (some .int), Cond.fieldLink RX3 22 "SumNames$Reader" "draft" "LSumNames$World;", Cond.fieldLink RX3 29 "SumNames$Reader" "place" "I", Cond.fieldLink RX3 35 "SumNames$Reader" "begin" "I", Cond.fieldLink RX3 26 "SumNames$Reader" "lines" "I", Cond.fieldLink RX3 32 "SumNames$Reader" "token" "I", Cond.fieldLink RX3 41 "SumNames$Reader" "value" "J", Cond.constantLong RX3 64 (59), Cond.methodLink RX3 53 yX5_takeFrom, Cond.instanceMethod yX5_takeFrom, Cond.selects RX5 yX5_takeFrom yX5_takeFrom, Cond.initialized RX5, Cond.code yX5_takeFrom cX5_takeFrom 2 none, Cond.fieldLink RX5 9 "SumNames$World" "numbers" "[I", Cond.methodLink RX5 53 arraycopyName]
def wsX6_told_r2 : List Cond := [Cond.native arraycopyName, Cond.static arraycopyName, Cond.initialized "java/lang/System", Cond.fieldLink RX5 15 "SumNames$World" "syllables" "[J", Cond.fieldLink RX5 19 "SumNames$World" "syllableCount" "I", Cond.fieldLink RX5 23 "SumNames$World" "days" "[I", Cond.fieldLink RX5 26 "SumNames$World" "words" "[J", Cond.fieldLink RX5 29 "SumNames$World" "parents" "[I", Cond.fieldLink RX5 32 "SumNames$World" "otherParents" "[I", Cond.fieldLink RX5 35 "SumNames$World" "kinds" "[I", Cond.fieldLink RX5 38 "SumNames$World" "personCount" "I", Cond.fieldLink RX5 41 "SumNames$World" "hopeDays" "[I", Cond.fieldLink RX5 44 "SumNames$World" "hopeTenths" "[I", Cond.fieldLink RX5 47 "SumNames$World" "hopeCount" "I", Cond.fieldLink RX5 50 "SumNames$World" "degreesTold" "I", Cond.methodLink RX3 57 yX3_readLine, Cond.instanceMethod yX3_readLine, Cond.selects RX3 yX3_readLine yX3_readLine, Cond.code yX3_readLine cX3_readLine 1 (some .boolean), Cond.fieldLink RX3 87 "SumNames$World" "personCount" "I", Cond.methodLink RX3 61 yX3_readToken, Cond.instanceMethod yX3_readToken, Cond.selects RX3 yX3_readToken yX3_readToken, Cond.code yX3_readToken cX3_readToken 2 none]
def wsX6_told_r3 : List Cond := [Cond.fieldLink RX3 15 "SumNames$Reader" "length" "I", Cond.fieldLink RX3 9 "SumNames$Reader" "text" "[I", Cond.fieldLink RX3 38 "SumNames$Reader" "bytes" "I", Cond.methodLink RX3 173 yX3_kindAt, Cond.instanceMethod yX3_kindAt, Cond.selects RX3 yX3_kindAt yX3_kindAt, Cond.code yX3_kindAt cX3_kindAt 2 (some .int), Cond.methodLink RX3 177 yX3_valueWith, Cond.instanceMethod yX3_valueWith, Cond.selects RX3 yX3_valueWith yX3_valueWith, Cond.code yX3_valueWith cX3_valueWith 2 (some .long), Cond.constantLong RX3 181 (27), Cond.constantLong RX3 183 (97), Cond.constantLong RX3 185 (10), Cond.constantLong RX3 187 (48), Cond.methodLink RX3 68 yX3_says, Cond.instanceMethod yX3_says, Cond.selects RX3 yX3_says yX3_says, Cond.code yX3_says cX3_says 3 (some .boolean), Cond.methodLink RX3 164 yJ0_length_8abf5, Cond.instanceMethod yJ0_length_8abf5, Cond.selects RJ0 yJ0_length_8abf5 yJ0_length_8abf5, Cond.initialized RJ0, Cond.code yJ0_length_8abf5 cJ0_length_8abf5 1 (some .int)]
def wsX6_told_r4 : List Cond := [Cond.fieldLink RJ0 9 "java/lang/String" "value" "[B", Cond.methodLink RJ0 335 yJ0_coder_7d493, Cond.instanceMethod yJ0_coder_7d493, Cond.selects RJ0 yJ0_coder_7d493 yJ0_coder_7d493, Cond.code yJ0_coder_7d493 cJ0_coder_7d493 1 (some .byte), Cond.fieldLink RJ0 38 "java/lang/String" "COMPACT_STRINGS" "Z", Cond.fieldLink RJ0 15 "java/lang/String" "coder" "B", Cond.methodLink RX3 169 yJ0_charAt_5068e, Cond.instanceMethod yJ0_charAt_5068e, Cond.selects RJ0 yJ0_charAt_5068e yJ0_charAt_5068e, Cond.code yJ0_charAt_5068e cJ0_charAt_5068e 2 (some .char), Cond.methodLink RJ0 492 yJ0_isLatin1_aae02, Cond.instanceMethod yJ0_isLatin1_aae02, Cond.selects RJ0 yJ0_isLatin1_aae02 yJ0_isLatin1_aae02, Cond.code yJ0_isLatin1_aae02 cJ0_isLatin1_aae02 1 (some .boolean), Cond.methodLink RJ0 495 yJ1_charAt_3b067, Cond.static yJ1_charAt_3b067, Cond.initialized RJ1, Cond.code yJ1_charAt_3b067 cJ1_charAt_3b067 2 (some .char), Cond.methodLink RJ1 9 yJ0_checkIndex_df160, Cond.static yJ0_checkIndex_df160, Cond.code yJ0_checkIndex_df160 cJ0_checkIndex_df160 2 none, Cond.fieldLink RJ0 1053 "jdk/internal/util/Preconditions" "SIOOBE_FORMATTER" "Ljava/util/function/BiFunction;", Cond.methodLink RJ0 1059 yJ3_checkIndex_8e157]
def wsX6_told_r5 : List Cond := [Cond.static yJ3_checkIndex_8e157, Cond.initialized RJ3, Cond.code yJ3_checkIndex_8e157 cJ3_checkIndex_8e157 3 (some .int), Cond.methodLink RJ0 498 yJ2_charAt_3b067, Cond.static yJ2_charAt_3b067, Cond.initialized RJ2, Cond.code yJ2_charAt_3b067 cJ2_charAt_3b067 2 (some .char), Cond.methodLink RJ2 67 yJ2_checkIndex_2214a, Cond.static yJ2_checkIndex_2214a, Cond.code yJ2_checkIndex_2214a cJ2_checkIndex_2214a 2 none, Cond.methodLink RJ2 48 yJ2_length_9d52b, Cond.static yJ2_length_9d52b, Cond.code yJ2_length_9d52b cJ2_length_9d52b 1 (some .int), Cond.methodLink RJ2 414 yJ0_checkIndex_df160, Cond.methodLink RJ2 71 yJ2_getChar_3b067, Cond.static yJ2_getChar_3b067, Cond.code yJ2_getChar_3b067 cJ2_getChar_3b067 2 (some .char), Cond.fieldLink RJ2 44 "java/lang/StringUTF16" "$assertionsDisabled" "Z", Cond.fieldLink RJ2 59 "java/lang/StringUTF16" "HI_BYTE_SHIFT" "I", Cond.fieldLink RJ2 63 "java/lang/StringUTF16" "LO_BYTE_SHIFT" "I", Cond.methodLink RX3 72 yX3_readLetter, Cond.instanceMethod yX3_readLetter, Cond.selects RX3 yX3_readLetter yX3_readLetter, Cond.code yX3_readLetter cX3_readLetter 2 (some .boolean)]
def wsX6_told_r6 : List Cond := [Cond.fieldLink RX3 132 "SumNames$World" "numbers" "[I", Cond.methodLink RX3 77 yX3_readWord, Cond.instanceMethod yX3_readWord, Cond.selects RX3 yX3_readWord yX3_readWord, Cond.code yX3_readWord cX3_readWord 2 (some .boolean), Cond.static yX6_lastLetter, Cond.initialized RX6, Cond.code yX6_lastLetter cX6_lastLetter 2 (some .int), Cond.constantLong RX6 310 (27), Cond.static yX6_isLetter, Cond.code yX6_isLetter cX6_isLetter 1 (some .boolean), Cond.methodLink RX3 128 yX3_readNumber, Cond.instanceMethod yX3_readNumber, Cond.selects RX3 yX3_readNumber yX3_readNumber, Cond.code yX3_readNumber cX3_readNumber 3 (some .boolean), Cond.methodLink RX3 81 yX5_addSyllable, Cond.instanceMethod yX5_addSyllable, Cond.selects RX5 yX5_addSyllable yX5_addSyllable, Cond.code yX5_addSyllable cX5_addSyllable 3 (some .boolean), Cond.methodLink RX5 59 yX5_isSyllable, Cond.instanceMethod yX5_isSyllable, Cond.selects RX5 yX5_isSyllable yX5_isSyllable, Cond.code yX5_isSyllable cX5_isSyllable 4 (some .boolean), Cond.methodLink RX3 90 yX3_readNoParents]
def wsX6_told_r7 : List Cond := [Cond.instanceMethod yX3_readNoParents, Cond.selects RX3 yX3_readNoParents yX3_readNoParents, Cond.code yX3_readNoParents cX3_readNoParents 1 (some .boolean), Cond.fieldLink RX3 45 "SumNames$Reader" "parent" "I", Cond.fieldLink RX3 48 "SumNames$Reader" "otherParent" "I", Cond.methodLink RX3 93 yX3_readBirth, Cond.instanceMethod yX3_readBirth, Cond.selects RX3 yX3_readBirth yX3_readBirth, Cond.code yX3_readBirth cX3_readBirth 2 (some .boolean), Cond.methodLink RX3 138 yX3_readWordOrNothing, Cond.instanceMethod yX3_readWordOrNothing, Cond.selects RX3 yX3_readWordOrNothing yX3_readWordOrNothing, Cond.code yX3_readWordOrNothing cX3_readWordOrNothing 1 (some .boolean), Cond.constantLong RX3 162 (45), Cond.methodLink RX3 141 yX5_addPerson, Cond.instanceMethod yX5_addPerson, Cond.selects RX5 yX5_addPerson yX5_addPerson, Cond.code yX5_addPerson cX5_addPerson 6 none, Cond.methodLink RX5 63 yX5_kindOf, Cond.instanceMethod yX5_kindOf, Cond.selects RX5 yX5_kindOf yX5_kindOf, Cond.code yX5_kindOf cX5_kindOf 7 (some .int), Cond.methodLink RX3 98 yX3_readParents, Cond.instanceMethod yX3_readParents]
def wsX6_told_r8 : List Cond := [Cond.selects RX3 yX3_readParents yX3_readParents, Cond.code yX3_readParents cX3_readParents 1 (some .boolean), Cond.methodLink RX3 135 yX3_readPerson, Cond.instanceMethod yX3_readPerson, Cond.selects RX3 yX3_readPerson yX3_readPerson, Cond.code yX3_readPerson cX3_readPerson 1 (some .boolean), Cond.methodLink RX3 103 yX3_readCall, Cond.instanceMethod yX3_readCall, Cond.selects RX3 yX3_readCall yX3_readCall, Cond.code yX3_readCall cX3_readCall 2 (some .boolean), Cond.fieldLink RX3 145 "SumNames$World" "words" "[J", Cond.methodLink RX3 108 yX3_readHope, Cond.instanceMethod yX3_readHope, Cond.selects RX3 yX3_readHope yX3_readHope, Cond.code yX3_readHope cX3_readHope 2 (some .boolean), Cond.fieldLink RX3 149 "SumNames$World" "hopeCount" "I", Cond.methodLink RX3 152 yX5_addHope, Cond.instanceMethod yX5_addHope, Cond.selects RX5 yX5_addHope yX5_addHope, Cond.code yX5_addHope cX5_addHope 3 none, Cond.methodLink RX3 113 yX3_readDegrees, Cond.instanceMethod yX3_readDegrees, Cond.selects RX3 yX3_readDegrees yX3_readDegrees, Cond.code yX3_readDegrees cX3_readDegrees 1 (some .boolean)]
def wsX6_told_r9 : List Cond := [Cond.fieldLink RX3 156 "SumNames$World" "degreesTold" "I", Cond.methodLink RX3 118 yX3_readForget, Cond.instanceMethod yX3_readForget, Cond.selects RX3 yX3_readForget yX3_readForget, Cond.code yX3_readForget cX3_readForget 1 (some .boolean), Cond.methodLink RX3 159 yX5_forgetAll, Cond.instanceMethod yX5_forgetAll, Cond.selects RX5 yX5_forgetAll yX5_forgetAll, Cond.code yX5_forgetAll cX5_forgetAll 1 none, Cond.methodLink RX6 74 yX5_takeFrom]
def wsX6_told : List Cond := .code yX6_told cX6_told 1 (some .int) :: ((wsX6_told_r1 ++ (wsX6_told_r2 ++ (wsX6_told_r3 ++ (wsX6_told_r4 ++ (wsX6_told_r5 ++ (wsX6_told_r6 ++ (wsX6_told_r7 ++ (wsX6_told_r8 ++ wsX6_told_r9)))))))) ++ wsX60 ++ wsX30 ++ wsX50)
def wsX6_letter : List Cond := .code yX6_letter cX6_letter 2 (some .int) :: ([.fieldLink RX6 10 "SumNames" "now" "LSumNames$World;", .fieldLink RX6 85 "SumNames$World" "numbers" "[I", .methodLink RX6 81 yX6_isLetter, .static yX6_isLetter, .initialized RX6, .code yX6_isLetter cX6_isLetter 1 (some .boolean)] ++ wsX60 ++ wsX50)
def wsX6_person_r1 : List Cond := [Cond.fieldLink RX6 10 "SumNames" "now" "LSumNames$World;", Cond.fieldLink RX6 91 "SumNames$World" "days" "[I", Cond.fieldLink RX6 94 "SumNames$World" "parents" "[I", Cond.fieldLink RX6 97 "SumNames$World" "otherParents" "[I", Cond.fieldLink RX6 100 "SumNames$World" "kinds" "[I", Cond.methodLink RX6 88 yX5_isPerson, Cond.instanceMethod yX5_isPerson, Cond.selects RX5 yX5_isPerson yX5_isPerson, Cond.initialized RX5, Cond.code yX5_isPerson cX5_isPerson 2 (some .boolean), Cond.fieldLink RX5 38 "SumNames$World" "personCount" "I", Cond.methodLink RX6 103 yX5_nearOf, Cond.instanceMethod yX5_nearOf, Cond.selects RX5 yX5_nearOf yX5_nearOf, Cond.code yX5_nearOf cX5_nearOf 2 (some .int), Cond.fieldLink RX5 50 "SumNames$World" "degreesTold" "I", Cond.methodLink RX5 101 yX5_within, Cond.instanceMethod yX5_within, Cond.selects RX5 yX5_within yX5_within, Cond.code yX5_within cX5_within 5 (some .int), Cond.methodLink RX5 105 yX5_oneStepMore, Cond.instanceMethod yX5_oneStepMore, Cond.selects RX5 yX5_oneStepMore yX5_oneStepMore, Cond.code yX5_oneStepMore cX5_oneStepMore 5 (some .int)]
def wsX6_person_r2 : List Cond := [Cond.fieldLink RX5 35 "SumNames$World" "kinds" "[I", Cond.fieldLink RX5 29 "SumNames$World" "parents" "[I", Cond.fieldLink RX5 32 "SumNames$World" "otherParents" "[I"]
def wsX6_person : List Cond := .code yX6_person cX6_person 3 (some .int) :: ((wsX6_person_r1 ++ wsX6_person_r2) ++ wsX60 ++ wsX50)
def wsX6_called : List Cond := .code yX6_called cX6_called 2 (some .long) :: ([.fieldLink RX6 10 "SumNames" "now" "LSumNames$World;", .fieldLink RX6 107 "SumNames$World" "words" "[J", .constantLong RX6 111 (-2), .methodLink RX6 88 yX5_isPerson, .instanceMethod yX5_isPerson, .selects RX5 yX5_isPerson yX5_isPerson, .initialized RX5, .code yX5_isPerson cX5_isPerson 2 (some .boolean), .fieldLink RX5 38 "SumNames$World" "personCount" "I"] ++ wsX60 ++ wsX50)
def wsX6_degrees : List Cond := .code yX6_degrees cX6_degrees 3 (some .int) :: ([.fieldLink RX6 10 "SumNames" "now" "LSumNames$World;", .methodLink RX6 88 yX5_isPerson, .instanceMethod yX5_isPerson, .selects RX5 yX5_isPerson yX5_isPerson, .initialized RX5, .code yX5_isPerson cX5_isPerson 2 (some .boolean), .fieldLink RX5 38 "SumNames$World" "personCount" "I", .methodLink RX6 113 yX5_stepsBetween, .instanceMethod yX5_stepsBetween, .selects RX5 yX5_stepsBetween yX5_stepsBetween, .code yX5_stepsBetween cX5_stepsBetween 5 (some .int), .methodLink RX5 105 yX5_oneStepMore, .instanceMethod yX5_oneStepMore, .selects RX5 yX5_oneStepMore yX5_oneStepMore, .code yX5_oneStepMore cX5_oneStepMore 5 (some .int), .fieldLink RX5 35 "SumNames$World" "kinds" "[I", .fieldLink RX5 29 "SumNames$World" "parents" "[I", .fieldLink RX5 32 "SumNames$World" "otherParents" "[I"] ++ wsX60 ++ wsX50)
def wsX6_isOfKind : List Cond := .code yX6_isOfKind cX6_isOfKind 2 (some .boolean) :: ([])
def wsJ6_bitCount_0f7a4 : List Cond := .code yJ6_bitCount_0f7a4 cJ6_bitCount_0f7a4 1 (some .int) :: ([.constant RJ6 265 (1431655765), .constant RJ6 266 (858993459), .constant RJ6 267 (252645135)])
def wsX6_as_r1 : List Cond := [Cond.fieldLink RX6 10 "SumNames" "now" "LSumNames$World;", Cond.fieldLink RX6 100 "SumNames$World" "kinds" "[I", Cond.methodLink RX6 88 yX5_isPerson, Cond.instanceMethod yX5_isPerson, Cond.selects RX5 yX5_isPerson yX5_isPerson, Cond.initialized RX5, Cond.code yX5_isPerson cX5_isPerson 2 (some .boolean), Cond.fieldLink RX5 38 "SumNames$World" "personCount" "I", Cond.methodLink RX6 117 yX6_isOfKind, Cond.static yX6_isOfKind, Cond.initialized RX6, Cond.code yX6_isOfKind cX6_isOfKind 2 (some .boolean), Cond.methodLink RX6 103 yX5_nearOf, Cond.instanceMethod yX5_nearOf, Cond.selects RX5 yX5_nearOf yX5_nearOf, Cond.code yX5_nearOf cX5_nearOf 2 (some .int), Cond.fieldLink RX5 50 "SumNames$World" "degreesTold" "I", Cond.methodLink RX5 101 yX5_within, Cond.instanceMethod yX5_within, Cond.selects RX5 yX5_within yX5_within, Cond.code yX5_within cX5_within 5 (some .int), Cond.methodLink RX5 105 yX5_oneStepMore, Cond.instanceMethod yX5_oneStepMore, Cond.selects RX5 yX5_oneStepMore yX5_oneStepMore]
def wsX6_as_r2 : List Cond := [Cond.code yX5_oneStepMore cX5_oneStepMore 5 (some .int), Cond.fieldLink RX5 35 "SumNames$World" "kinds" "[I", Cond.fieldLink RX5 29 "SumNames$World" "parents" "[I", Cond.fieldLink RX5 32 "SumNames$World" "otherParents" "[I", Cond.methodLink RX6 121 yJ6_bitCount_0f7a4, Cond.static yJ6_bitCount_0f7a4, Cond.initialized RJ6, Cond.code yJ6_bitCount_0f7a4 cJ6_bitCount_0f7a4 1 (some .int), Cond.constant RJ6 265 (1431655765), Cond.constant RJ6 266 (858993459), Cond.constant RJ6 267 (252645135)]
def wsX6_as : List Cond := .code yX6_as cX6_as 3 (some .int) :: ((wsX6_as_r1 ++ wsX6_as_r2) ++ wsX60 ++ wsX50)
def wsX6_lettersOf : List Cond := .code yX6_lettersOf cX6_lettersOf 5 (some .int) :: ([.constantLong RX6 308 (7625597484986), .constantLong RX6 310 (27)])
def wsX6_sum : List Cond := .code yX6_sum cX6_sum 3 (some .int) :: ([.fieldLink RX6 10 "SumNames" "now" "LSumNames$World;", .methodLink RX6 126 yX6_lettersOf, .static yX6_lettersOf, .initialized RX6, .code yX6_lettersOf cX6_lettersOf 5 (some .int), .constantLong RX6 308 (7625597484986), .constantLong RX6 310 (27), .methodLink RX6 130 yX5_sumOf, .instanceMethod yX5_sumOf, .selects RX5 yX5_sumOf yX5_sumOf, .initialized RX5, .code yX5_sumOf cX5_sumOf 8 (some .int), .fieldLink RX5 9 "SumNames$World" "numbers" "[I", .constantLong RX5 75 (27), .static yX6_lastLetter, .code yX6_lastLetter cX6_lastLetter 2 (some .int), .static yX6_isLetter, .code yX6_isLetter cX6_isLetter 1 (some .boolean)] ++ wsX60 ++ wsX50)
def wsX6_name_r1 : List Cond := [Cond.fieldLink RX6 10 "SumNames" "now" "LSumNames$World;", Cond.methodLink RX6 126 yX6_lettersOf, Cond.static yX6_lettersOf, Cond.initialized RX6, Cond.code yX6_lettersOf cX6_lettersOf 5 (some .int), Cond.constantLong RX6 308 (7625597484986), Cond.constantLong RX6 310 (27), Cond.methodLink RX6 133 yX5_isName, Cond.instanceMethod yX5_isName, Cond.selects RX5 yX5_isName yX5_isName, Cond.initialized RX5, Cond.code yX5_isName cX5_isName 3 (some .boolean), Cond.methodLink RX5 80 yX5_sumInNames, Cond.instanceMethod yX5_sumInNames, Cond.selects RX5 yX5_sumInNames yX5_sumInNames, Cond.code yX5_sumInNames cX5_sumInNames 7 (some .int), Cond.fieldLink RX5 9 "SumNames$World" "numbers" "[I", Cond.constantLong RX5 75 (27), Cond.static yX6_lastLetter, Cond.code yX6_lastLetter cX6_lastLetter 2 (some .int), Cond.static yX6_isLetter, Cond.code yX6_isLetter cX6_isLetter 1 (some .boolean), Cond.methodLink RX5 77 yX5_sumOf, Cond.instanceMethod yX5_sumOf]
def wsX6_name_r2 : List Cond := [Cond.selects RX5 yX5_sumOf yX5_sumOf, Cond.code yX5_sumOf cX5_sumOf 8 (some .int), Cond.methodLink RX5 83 yX5_isParted, Cond.instanceMethod yX5_isParted, Cond.selects RX5 yX5_isParted yX5_isParted, Cond.code yX5_isParted cX5_isParted 7 (some .boolean), Cond.methodLink RX5 59 yX5_isSyllable, Cond.instanceMethod yX5_isSyllable, Cond.selects RX5 yX5_isSyllable yX5_isSyllable, Cond.code yX5_isSyllable cX5_isSyllable 4 (some .boolean), Cond.fieldLink RX5 19 "SumNames$World" "syllableCount" "I", Cond.fieldLink RX5 15 "SumNames$World" "syllables" "[J"]
def wsX6_name : List Cond := .code yX6_name cX6_name 3 (some .int) :: ((wsX6_name_r1 ++ wsX6_name_r2) ++ wsX60 ++ wsX50)
def wsX6_judge_r1 : List Cond := [Cond.fieldLink RX6 10 "SumNames" "now" "LSumNames$World;", Cond.methodLink RX6 88 yX5_isPerson, Cond.instanceMethod yX5_isPerson, Cond.selects RX5 yX5_isPerson yX5_isPerson, Cond.initialized RX5, Cond.code yX5_isPerson cX5_isPerson 2 (some .boolean), Cond.fieldLink RX5 38 "SumNames$World" "personCount" "I", Cond.methodLink RX6 137 yX5_faultOfName, Cond.instanceMethod yX5_faultOfName, Cond.selects RX5 yX5_faultOfName yX5_faultOfName, Cond.code yX5_faultOfName cX5_faultOfName 4 (some .int), Cond.fieldLink RX5 26 "SumNames$World" "words" "[J", Cond.methodLink RX5 87 yX5_isName, Cond.instanceMethod yX5_isName, Cond.selects RX5 yX5_isName yX5_isName, Cond.code yX5_isName cX5_isName 3 (some .boolean), Cond.methodLink RX5 80 yX5_sumInNames, Cond.instanceMethod yX5_sumInNames, Cond.selects RX5 yX5_sumInNames yX5_sumInNames, Cond.code yX5_sumInNames cX5_sumInNames 7 (some .int), Cond.fieldLink RX5 9 "SumNames$World" "numbers" "[I", Cond.constantLong RX5 75 (27), Cond.static yX6_lastLetter, Cond.initialized RX6]
def wsX6_judge_r2 : List Cond := [Cond.code yX6_lastLetter cX6_lastLetter 2 (some .int), Cond.constantLong RX6 310 (27), Cond.static yX6_isLetter, Cond.code yX6_isLetter cX6_isLetter 1 (some .boolean), Cond.methodLink RX5 77 yX5_sumOf, Cond.instanceMethod yX5_sumOf, Cond.selects RX5 yX5_sumOf yX5_sumOf, Cond.code yX5_sumOf cX5_sumOf 8 (some .int), Cond.methodLink RX5 83 yX5_isParted, Cond.instanceMethod yX5_isParted, Cond.selects RX5 yX5_isParted yX5_isParted, Cond.code yX5_isParted cX5_isParted 7 (some .boolean), Cond.methodLink RX5 59 yX5_isSyllable, Cond.instanceMethod yX5_isSyllable, Cond.selects RX5 yX5_isSyllable yX5_isSyllable, Cond.code yX5_isSyllable cX5_isSyllable 4 (some .boolean), Cond.fieldLink RX5 19 "SumNames$World" "syllableCount" "I", Cond.fieldLink RX5 15 "SumNames$World" "syllables" "[J", Cond.methodLink RX5 90 yX5_addsUp, Cond.instanceMethod yX5_addsUp, Cond.selects RX5 yX5_addsUp yX5_addsUp, Cond.code yX5_addsUp cX5_addsUp 2 (some .boolean), Cond.fieldLink RX5 23 "SumNames$World" "days" "[I", Cond.methodLink RX5 93 yX5_nearOf]
def wsX6_judge_r3 : List Cond := [Cond.instanceMethod yX5_nearOf, Cond.selects RX5 yX5_nearOf yX5_nearOf, Cond.code yX5_nearOf cX5_nearOf 2 (some .int), Cond.fieldLink RX5 50 "SumNames$World" "degreesTold" "I", Cond.methodLink RX5 101 yX5_within, Cond.instanceMethod yX5_within, Cond.selects RX5 yX5_within yX5_within, Cond.code yX5_within cX5_within 5 (some .int), Cond.methodLink RX5 105 yX5_oneStepMore, Cond.instanceMethod yX5_oneStepMore, Cond.selects RX5 yX5_oneStepMore yX5_oneStepMore, Cond.code yX5_oneStepMore cX5_oneStepMore 5 (some .int), Cond.fieldLink RX5 35 "SumNames$World" "kinds" "[I", Cond.fieldLink RX5 29 "SumNames$World" "parents" "[I", Cond.fieldLink RX5 32 "SumNames$World" "otherParents" "[I", Cond.methodLink RX5 97 yX5_leastCalled, Cond.instanceMethod yX5_leastCalled, Cond.selects RX5 yX5_leastCalled yX5_leastCalled, Cond.code yX5_leastCalled cX5_leastCalled 5 (some .int)]
def wsX6_judge : List Cond := .code yX6_judge cX6_judge 2 (some .int) :: ((wsX6_judge_r1 ++ (wsX6_judge_r2 ++ wsX6_judge_r3)) ++ wsX60 ++ wsX50)
def wsX6_taker_r1 : List Cond := [Cond.fieldLink RX6 10 "SumNames" "now" "LSumNames$World;", Cond.fieldLink RX6 107 "SumNames$World" "words" "[J", Cond.methodLink RX6 88 yX5_isPerson, Cond.instanceMethod yX5_isPerson, Cond.selects RX5 yX5_isPerson yX5_isPerson, Cond.initialized RX5, Cond.code yX5_isPerson cX5_isPerson 2 (some .boolean), Cond.fieldLink RX5 38 "SumNames$World" "personCount" "I", Cond.methodLink RX6 137 yX5_faultOfName, Cond.instanceMethod yX5_faultOfName, Cond.selects RX5 yX5_faultOfName yX5_faultOfName, Cond.code yX5_faultOfName cX5_faultOfName 4 (some .int), Cond.fieldLink RX5 26 "SumNames$World" "words" "[J", Cond.methodLink RX5 87 yX5_isName, Cond.instanceMethod yX5_isName, Cond.selects RX5 yX5_isName yX5_isName, Cond.code yX5_isName cX5_isName 3 (some .boolean), Cond.methodLink RX5 80 yX5_sumInNames, Cond.instanceMethod yX5_sumInNames, Cond.selects RX5 yX5_sumInNames yX5_sumInNames, Cond.code yX5_sumInNames cX5_sumInNames 7 (some .int), Cond.fieldLink RX5 9 "SumNames$World" "numbers" "[I", Cond.constantLong RX5 75 (27), Cond.static yX6_lastLetter]
def wsX6_taker_r2 : List Cond := [Cond.initialized RX6, Cond.code yX6_lastLetter cX6_lastLetter 2 (some .int), Cond.constantLong RX6 310 (27), Cond.static yX6_isLetter, Cond.code yX6_isLetter cX6_isLetter 1 (some .boolean), Cond.methodLink RX5 77 yX5_sumOf, Cond.instanceMethod yX5_sumOf, Cond.selects RX5 yX5_sumOf yX5_sumOf, Cond.code yX5_sumOf cX5_sumOf 8 (some .int), Cond.methodLink RX5 83 yX5_isParted, Cond.instanceMethod yX5_isParted, Cond.selects RX5 yX5_isParted yX5_isParted, Cond.code yX5_isParted cX5_isParted 7 (some .boolean), Cond.methodLink RX5 59 yX5_isSyllable, Cond.instanceMethod yX5_isSyllable, Cond.selects RX5 yX5_isSyllable yX5_isSyllable, Cond.code yX5_isSyllable cX5_isSyllable 4 (some .boolean), Cond.fieldLink RX5 19 "SumNames$World" "syllableCount" "I", Cond.fieldLink RX5 15 "SumNames$World" "syllables" "[J", Cond.methodLink RX5 90 yX5_addsUp, Cond.instanceMethod yX5_addsUp, Cond.selects RX5 yX5_addsUp yX5_addsUp, Cond.code yX5_addsUp cX5_addsUp 2 (some .boolean), Cond.fieldLink RX5 23 "SumNames$World" "days" "[I"]
def wsX6_taker_r3 : List Cond := [Cond.methodLink RX5 93 yX5_nearOf, Cond.instanceMethod yX5_nearOf, Cond.selects RX5 yX5_nearOf yX5_nearOf, Cond.code yX5_nearOf cX5_nearOf 2 (some .int), Cond.fieldLink RX5 50 "SumNames$World" "degreesTold" "I", Cond.methodLink RX5 101 yX5_within, Cond.instanceMethod yX5_within, Cond.selects RX5 yX5_within yX5_within, Cond.code yX5_within cX5_within 5 (some .int), Cond.methodLink RX5 105 yX5_oneStepMore, Cond.instanceMethod yX5_oneStepMore, Cond.selects RX5 yX5_oneStepMore yX5_oneStepMore, Cond.code yX5_oneStepMore cX5_oneStepMore 5 (some .int), Cond.fieldLink RX5 35 "SumNames$World" "kinds" "[I", Cond.fieldLink RX5 29 "SumNames$World" "parents" "[I", Cond.fieldLink RX5 32 "SumNames$World" "otherParents" "[I", Cond.methodLink RX5 97 yX5_leastCalled, Cond.instanceMethod yX5_leastCalled, Cond.selects RX5 yX5_leastCalled yX5_leastCalled, Cond.code yX5_leastCalled cX5_leastCalled 5 (some .int), Cond.methodLink RX6 103 yX5_nearOf, Cond.methodLink RX6 140 yX5_leastCalled]
def wsX6_taker : List Cond := .code yX6_taker cX6_taker 2 (some .int) :: ((wsX6_taker_r1 ++ (wsX6_taker_r2 ++ wsX6_taker_r3)) ++ wsX60 ++ wsX50)
def wsX6_names_r1 : List Cond := [Cond.fieldLink RX6 30 "SumNames" "row" "LSumNames$NameRow;", Cond.fieldLink RX6 10 "SumNames" "now" "LSumNames$World;", Cond.fieldLink RX6 151 "SumNames$NameRow" "size" "I", Cond.fieldLink RX6 154 "SumNames$NameRow" "codes" "[J", Cond.methodLink RX6 144 yX6_isDay, Cond.static yX6_isDay, Cond.initialized RX6, Cond.code yX6_isDay cX6_isDay 1 (some .boolean), Cond.methodLink RX6 147 yX0_gather, Cond.instanceMethod yX0_gather, Cond.selects RX0 yX0_gather yX0_gather, Cond.initialized RX0, Cond.code yX0_gather cX0_gather 4 none, Cond.fieldLink RX0 32 "SumNames$NameRow" "wantedDay" "I", Cond.fieldLink RX0 35 "SumNames$NameRow" "divisorsWanted" "Z", Cond.fieldLink RX0 15 "SumNames$NameRow" "size" "I", Cond.methodLink RX0 39 yX0_findParts, Cond.instanceMethod yX0_findParts, Cond.selects RX0 yX0_findParts yX0_findParts, Cond.code yX0_findParts cX0_findParts 6 none, Cond.fieldLink RX0 29 "SumNames$NameRow" "partCount" "I", Cond.fieldLink RX0 53 "SumNames$World" "syllableCount" "I", Cond.fieldLink RX0 58 "SumNames$World" "syllables" "[J", Cond.fieldLink RX0 19 "SumNames$NameRow" "partCodes" "[J"]
def wsX6_names_r2 : List Cond := [Cond.fieldLink RX0 22 "SumNames$NameRow" "partShifts" "[J", Cond.fieldLink RX0 25 "SumNames$NameRow" "partSums" "[I", Cond.methodLink RX0 61 yX5_sumInNames, Cond.instanceMethod yX5_sumInNames, Cond.selects RX5 yX5_sumInNames yX5_sumInNames, Cond.initialized RX5, Cond.code yX5_sumInNames cX5_sumInNames 7 (some .int), Cond.fieldLink RX5 9 "SumNames$World" "numbers" "[I", Cond.constantLong RX5 75 (27), Cond.static yX6_lastLetter, Cond.code yX6_lastLetter cX6_lastLetter 2 (some .int), Cond.constantLong RX6 310 (27), Cond.static yX6_isLetter, Cond.code yX6_isLetter cX6_isLetter 1 (some .boolean), Cond.methodLink RX5 77 yX5_sumOf, Cond.instanceMethod yX5_sumOf, Cond.selects RX5 yX5_sumOf yX5_sumOf, Cond.code yX5_sumOf cX5_sumOf 8 (some .int), Cond.methodLink RX0 65 yX0_shiftOf, Cond.static yX0_shiftOf, Cond.code yX0_shiftOf cX0_shiftOf 5 (some .long), Cond.constantLong RX0 69 (27), Cond.methodLink RX0 43 yX0_join, Cond.instanceMethod yX0_join]
def wsX6_names_r3 : List Cond := [Cond.selects RX0 yX0_join yX0_join, Cond.code yX0_join cX0_join 9 none, Cond.methodLink RX0 71 yX0_addIfWanted, Cond.instanceMethod yX0_addIfWanted, Cond.selects RX0 yX0_addIfWanted yX0_addIfWanted, Cond.code yX0_addIfWanted cX0_addIfWanted 5 none, Cond.fieldLink RX0 9 "SumNames$NameRow" "codes" "[J", Cond.methodLink RX0 47 yX0_sort, Cond.instanceMethod yX0_sort, Cond.selects RX0 yX0_sort yX0_sort, Cond.code yX0_sort cX0_sort 9 none, Cond.fieldLink RX0 75 "SumNames$NameRow" "GAPS" "[I", Cond.methodLink RX0 50 yX0_dropLike, Cond.instanceMethod yX0_dropLike, Cond.selects RX0 yX0_dropLike yX0_dropLike, Cond.code yX0_dropLike cX0_dropLike 3 none, Cond.methodLink RX6 126 yX6_lettersOf, Cond.static yX6_lettersOf, Cond.code yX6_lettersOf cX6_lettersOf 5 (some .int), Cond.constantLong RX6 308 (7625597484986)]
def wsX6_names : List Cond := .code yX6_names cX6_names 5 (some .int) :: ((wsX6_names_r1 ++ (wsX6_names_r2 ++ wsX6_names_r3)) ++ wsX60 ++ wsX00 ++ wsX50)
def wsX6_which_r1 : List Cond := [Cond.constantLong RX6 157 (-3), Cond.fieldLink RX6 30 "SumNames" "row" "LSumNames$NameRow;", Cond.fieldLink RX6 10 "SumNames" "now" "LSumNames$World;", Cond.fieldLink RX6 151 "SumNames$NameRow" "size" "I", Cond.fieldLink RX6 154 "SumNames$NameRow" "codes" "[J", Cond.constantLong RX6 159 (-1), Cond.methodLink RX6 144 yX6_isDay, Cond.static yX6_isDay, Cond.initialized RX6, Cond.code yX6_isDay cX6_isDay 1 (some .boolean), Cond.methodLink RX6 147 yX0_gather, Cond.instanceMethod yX0_gather, Cond.selects RX0 yX0_gather yX0_gather, Cond.initialized RX0, Cond.code yX0_gather cX0_gather 4 none, Cond.fieldLink RX0 32 "SumNames$NameRow" "wantedDay" "I", Cond.fieldLink RX0 35 "SumNames$NameRow" "divisorsWanted" "Z", Cond.fieldLink RX0 15 "SumNames$NameRow" "size" "I", Cond.methodLink RX0 39 yX0_findParts, Cond.instanceMethod yX0_findParts, Cond.selects RX0 yX0_findParts yX0_findParts, Cond.code yX0_findParts cX0_findParts 6 none, Cond.fieldLink RX0 29 "SumNames$NameRow" "partCount" "I", Cond.fieldLink RX0 53 "SumNames$World" "syllableCount" "I"]
def wsX6_which_r2 : List Cond := [Cond.fieldLink RX0 58 "SumNames$World" "syllables" "[J", Cond.fieldLink RX0 19 "SumNames$NameRow" "partCodes" "[J", Cond.fieldLink RX0 22 "SumNames$NameRow" "partShifts" "[J", Cond.fieldLink RX0 25 "SumNames$NameRow" "partSums" "[I", Cond.methodLink RX0 61 yX5_sumInNames, Cond.instanceMethod yX5_sumInNames, Cond.selects RX5 yX5_sumInNames yX5_sumInNames, Cond.initialized RX5, Cond.code yX5_sumInNames cX5_sumInNames 7 (some .int), Cond.fieldLink RX5 9 "SumNames$World" "numbers" "[I", Cond.constantLong RX5 75 (27), Cond.static yX6_lastLetter, Cond.code yX6_lastLetter cX6_lastLetter 2 (some .int), Cond.constantLong RX6 310 (27), Cond.static yX6_isLetter, Cond.code yX6_isLetter cX6_isLetter 1 (some .boolean), Cond.methodLink RX5 77 yX5_sumOf, Cond.instanceMethod yX5_sumOf, Cond.selects RX5 yX5_sumOf yX5_sumOf, Cond.code yX5_sumOf cX5_sumOf 8 (some .int), Cond.methodLink RX0 65 yX0_shiftOf, Cond.static yX0_shiftOf, Cond.code yX0_shiftOf cX0_shiftOf 5 (some .long), Cond.constantLong RX0 69 (27)]
def wsX6_which_r3 : List Cond := [Cond.methodLink RX0 43 yX0_join, Cond.instanceMethod yX0_join, Cond.selects RX0 yX0_join yX0_join, Cond.code yX0_join cX0_join 9 none, Cond.methodLink RX0 71 yX0_addIfWanted, Cond.instanceMethod yX0_addIfWanted, Cond.selects RX0 yX0_addIfWanted yX0_addIfWanted, Cond.code yX0_addIfWanted cX0_addIfWanted 5 none, Cond.fieldLink RX0 9 "SumNames$NameRow" "codes" "[J", Cond.methodLink RX0 47 yX0_sort, Cond.instanceMethod yX0_sort, Cond.selects RX0 yX0_sort yX0_sort, Cond.code yX0_sort cX0_sort 9 none, Cond.fieldLink RX0 75 "SumNames$NameRow" "GAPS" "[I", Cond.methodLink RX0 50 yX0_dropLike, Cond.instanceMethod yX0_dropLike, Cond.selects RX0 yX0_dropLike yX0_dropLike, Cond.code yX0_dropLike cX0_dropLike 3 none]
def wsX6_which : List Cond := .code yX6_which cX6_which 3 (some .long) :: ((wsX6_which_r1 ++ (wsX6_which_r2 ++ wsX6_which_r3)) ++ wsX60 ++ wsX00 ++ wsX50)
def wsX6_free_r1 : List Cond := [Cond.fieldLink RX6 10 "SumNames" "now" "LSumNames$World;", Cond.constantLong RX6 111 (-2), Cond.constantLong RX6 157 (-3), Cond.fieldLink RX6 30 "SumNames" "row" "LSumNames$NameRow;", Cond.fieldLink RX6 91 "SumNames$World" "days" "[I", Cond.fieldLink RX6 151 "SumNames$NameRow" "size" "I", Cond.fieldLink RX6 154 "SumNames$NameRow" "codes" "[J", Cond.constantLong RX6 159 (-1), Cond.methodLink RX6 88 yX5_isPerson, Cond.instanceMethod yX5_isPerson, Cond.selects RX5 yX5_isPerson yX5_isPerson, Cond.initialized RX5, Cond.code yX5_isPerson cX5_isPerson 2 (some .boolean), Cond.fieldLink RX5 38 "SumNames$World" "personCount" "I", Cond.methodLink RX6 147 yX0_gather, Cond.instanceMethod yX0_gather, Cond.selects RX0 yX0_gather yX0_gather, Cond.initialized RX0, Cond.code yX0_gather cX0_gather 4 none, Cond.fieldLink RX0 32 "SumNames$NameRow" "wantedDay" "I", Cond.fieldLink RX0 35 "SumNames$NameRow" "divisorsWanted" "Z", Cond.fieldLink RX0 15 "SumNames$NameRow" "size" "I", Cond.methodLink RX0 39 yX0_findParts, Cond.instanceMethod yX0_findParts]
def wsX6_free_r2 : List Cond := [Cond.selects RX0 yX0_findParts yX0_findParts, Cond.code yX0_findParts cX0_findParts 6 none, Cond.fieldLink RX0 29 "SumNames$NameRow" "partCount" "I", Cond.fieldLink RX0 53 "SumNames$World" "syllableCount" "I", Cond.fieldLink RX0 58 "SumNames$World" "syllables" "[J", Cond.fieldLink RX0 19 "SumNames$NameRow" "partCodes" "[J", Cond.fieldLink RX0 22 "SumNames$NameRow" "partShifts" "[J", Cond.fieldLink RX0 25 "SumNames$NameRow" "partSums" "[I", Cond.methodLink RX0 61 yX5_sumInNames, Cond.instanceMethod yX5_sumInNames, Cond.selects RX5 yX5_sumInNames yX5_sumInNames, Cond.code yX5_sumInNames cX5_sumInNames 7 (some .int), Cond.fieldLink RX5 9 "SumNames$World" "numbers" "[I", Cond.constantLong RX5 75 (27), Cond.static yX6_lastLetter, Cond.initialized RX6, Cond.code yX6_lastLetter cX6_lastLetter 2 (some .int), Cond.constantLong RX6 310 (27), Cond.static yX6_isLetter, Cond.code yX6_isLetter cX6_isLetter 1 (some .boolean), Cond.methodLink RX5 77 yX5_sumOf, Cond.instanceMethod yX5_sumOf, Cond.selects RX5 yX5_sumOf yX5_sumOf, Cond.code yX5_sumOf cX5_sumOf 8 (some .int)]
def wsX6_free_r3 : List Cond := [Cond.methodLink RX0 65 yX0_shiftOf, Cond.static yX0_shiftOf, Cond.code yX0_shiftOf cX0_shiftOf 5 (some .long), Cond.constantLong RX0 69 (27), Cond.methodLink RX0 43 yX0_join, Cond.instanceMethod yX0_join, Cond.selects RX0 yX0_join yX0_join, Cond.code yX0_join cX0_join 9 none, Cond.methodLink RX0 71 yX0_addIfWanted, Cond.instanceMethod yX0_addIfWanted, Cond.selects RX0 yX0_addIfWanted yX0_addIfWanted, Cond.code yX0_addIfWanted cX0_addIfWanted 5 none, Cond.fieldLink RX0 9 "SumNames$NameRow" "codes" "[J", Cond.methodLink RX0 47 yX0_sort, Cond.instanceMethod yX0_sort, Cond.selects RX0 yX0_sort yX0_sort, Cond.code yX0_sort cX0_sort 9 none, Cond.fieldLink RX0 75 "SumNames$NameRow" "GAPS" "[I", Cond.methodLink RX0 50 yX0_dropLike, Cond.instanceMethod yX0_dropLike, Cond.selects RX0 yX0_dropLike yX0_dropLike, Cond.code yX0_dropLike cX0_dropLike 3 none, Cond.methodLink RX6 103 yX5_nearOf, Cond.instanceMethod yX5_nearOf]
def wsX6_free_r4 : List Cond := [Cond.selects RX5 yX5_nearOf yX5_nearOf, Cond.code yX5_nearOf cX5_nearOf 2 (some .int), Cond.fieldLink RX5 50 "SumNames$World" "degreesTold" "I", Cond.methodLink RX5 101 yX5_within, Cond.instanceMethod yX5_within, Cond.selects RX5 yX5_within yX5_within, Cond.code yX5_within cX5_within 5 (some .int), Cond.methodLink RX5 105 yX5_oneStepMore, Cond.instanceMethod yX5_oneStepMore, Cond.selects RX5 yX5_oneStepMore yX5_oneStepMore, Cond.code yX5_oneStepMore cX5_oneStepMore 5 (some .int), Cond.fieldLink RX5 35 "SumNames$World" "kinds" "[I", Cond.fieldLink RX5 29 "SumNames$World" "parents" "[I", Cond.fieldLink RX5 32 "SumNames$World" "otherParents" "[I", Cond.methodLink RX6 161 yX0_dropCalled, Cond.instanceMethod yX0_dropCalled, Cond.selects RX0 yX0_dropCalled yX0_dropCalled, Cond.code yX0_dropCalled cX0_dropCalled 5 none, Cond.methodLink RX0 78 yX5_leastCalled, Cond.instanceMethod yX5_leastCalled, Cond.selects RX5 yX5_leastCalled yX5_leastCalled, Cond.code yX5_leastCalled cX5_leastCalled 5 (some .int), Cond.fieldLink RX5 26 "SumNames$World" "words" "[J"]
def wsX6_free : List Cond := .code yX6_free cX6_free 3 (some .long) :: ((wsX6_free_r1 ++ (wsX6_free_r2 ++ (wsX6_free_r3 ++ wsX6_free_r4))) ++ wsX60 ++ wsX50 ++ wsX00)
def wsX6_isZeroOrOne : List Cond := .code yX6_isZeroOrOne cX6_isZeroOrOne 1 (some .boolean) :: ([])
def wsX6_findRooms_r1 : List Cond := [Cond.fieldLink RX6 10 "SumNames" "now" "LSumNames$World;", Cond.fieldLink RX6 179 "SumNames$World" "hopeCount" "I", Cond.fieldLink RX6 30 "SumNames" "row" "LSumNames$NameRow;", Cond.fieldLink RX6 188 "SumNames$World" "hopeDays" "[I", Cond.fieldLink RX6 54 "SumNames" "rooms" "[I", Cond.fieldLink RX6 151 "SumNames$NameRow" "size" "I", Cond.methodLink RX6 147 yX0_gather, Cond.instanceMethod yX0_gather, Cond.selects RX0 yX0_gather yX0_gather, Cond.initialized RX0, Cond.code yX0_gather cX0_gather 4 none, Cond.fieldLink RX0 32 "SumNames$NameRow" "wantedDay" "I", Cond.fieldLink RX0 35 "SumNames$NameRow" "divisorsWanted" "Z", Cond.fieldLink RX0 15 "SumNames$NameRow" "size" "I", Cond.methodLink RX0 39 yX0_findParts, Cond.instanceMethod yX0_findParts, Cond.selects RX0 yX0_findParts yX0_findParts, Cond.code yX0_findParts cX0_findParts 6 none, Cond.fieldLink RX0 29 "SumNames$NameRow" "partCount" "I", Cond.fieldLink RX0 53 "SumNames$World" "syllableCount" "I", Cond.fieldLink RX0 58 "SumNames$World" "syllables" "[J", Cond.fieldLink RX0 19 "SumNames$NameRow" "partCodes" "[J", Cond.fieldLink RX0 22 "SumNames$NameRow" "partShifts" "[J", Cond.fieldLink RX0 25 "SumNames$NameRow" "partSums" "[I"]
def wsX6_findRooms_r2 : List Cond := [Cond.methodLink RX0 61 yX5_sumInNames, Cond.instanceMethod yX5_sumInNames, Cond.selects RX5 yX5_sumInNames yX5_sumInNames, Cond.initialized RX5, Cond.code yX5_sumInNames cX5_sumInNames 7 (some .int), Cond.fieldLink RX5 9 "SumNames$World" "numbers" "[I", Cond.constantLong RX5 75 (27), Cond.static yX6_lastLetter, Cond.initialized RX6, Cond.code yX6_lastLetter cX6_lastLetter 2 (some .int), Cond.constantLong RX6 310 (27), Cond.static yX6_isLetter, Cond.code yX6_isLetter cX6_isLetter 1 (some .boolean), Cond.methodLink RX5 77 yX5_sumOf, Cond.instanceMethod yX5_sumOf, Cond.selects RX5 yX5_sumOf yX5_sumOf, Cond.code yX5_sumOf cX5_sumOf 8 (some .int), Cond.methodLink RX0 65 yX0_shiftOf, Cond.static yX0_shiftOf, Cond.code yX0_shiftOf cX0_shiftOf 5 (some .long), Cond.constantLong RX0 69 (27), Cond.methodLink RX0 43 yX0_join, Cond.instanceMethod yX0_join, Cond.selects RX0 yX0_join yX0_join]
def wsX6_findRooms_r3 : List Cond := [Cond.code yX0_join cX0_join 9 none, Cond.methodLink RX0 71 yX0_addIfWanted, Cond.instanceMethod yX0_addIfWanted, Cond.selects RX0 yX0_addIfWanted yX0_addIfWanted, Cond.code yX0_addIfWanted cX0_addIfWanted 5 none, Cond.fieldLink RX0 9 "SumNames$NameRow" "codes" "[J", Cond.methodLink RX0 47 yX0_sort, Cond.instanceMethod yX0_sort, Cond.selects RX0 yX0_sort yX0_sort, Cond.code yX0_sort cX0_sort 9 none, Cond.fieldLink RX0 75 "SumNames$NameRow" "GAPS" "[I", Cond.methodLink RX0 50 yX0_dropLike, Cond.instanceMethod yX0_dropLike, Cond.selects RX0 yX0_dropLike yX0_dropLike, Cond.code yX0_dropLike cX0_dropLike 3 none, Cond.methodLink RX6 161 yX0_dropCalled, Cond.instanceMethod yX0_dropCalled, Cond.selects RX0 yX0_dropCalled yX0_dropCalled, Cond.code yX0_dropCalled cX0_dropCalled 5 none, Cond.methodLink RX0 78 yX5_leastCalled, Cond.instanceMethod yX5_leastCalled, Cond.selects RX5 yX5_leastCalled yX5_leastCalled, Cond.code yX5_leastCalled cX5_leastCalled 5 (some .int), Cond.fieldLink RX5 38 "SumNames$World" "personCount" "I"]
def wsX6_findRooms_r4 : List Cond := [Cond.fieldLink RX5 26 "SumNames$World" "words" "[J"]
def wsX6_findRooms : List Cond := .code yX6_findRooms cX6_findRooms 3 none :: ((wsX6_findRooms_r1 ++ (wsX6_findRooms_r2 ++ (wsX6_findRooms_r3 ++ wsX6_findRooms_r4))) ++ wsX60 ++ wsX50 ++ wsX00)
def wsX6_comingWith : List Cond := .code yX6_comingWith cX6_comingWith 5 (some .int) :: ([.fieldLink RX6 10 "SumNames" "now" "LSumNames$World;", .fieldLink RX6 179 "SumNames$World" "hopeCount" "I", .fieldLink RX6 188 "SumNames$World" "hopeDays" "[I"] ++ wsX60 ++ wsX50)
def wsX6_allHaveNames : List Cond := .code yX6_allHaveNames cX6_allHaveNames 3 (some .boolean) :: ([.fieldLink RX6 10 "SumNames" "now" "LSumNames$World;", .fieldLink RX6 179 "SumNames$World" "hopeCount" "I", .fieldLink RX6 54 "SumNames" "rooms" "[I", .methodLink RX6 198 yX6_comingWith, .instanceMethod yX6_comingWith, .selects RX6 yX6_comingWith yX6_comingWith, .initialized RX6, .code yX6_comingWith cX6_comingWith 5 (some .int), .fieldLink RX6 188 "SumNames$World" "hopeDays" "[I"] ++ wsX60 ++ wsX50)
def wsX6_waysOfComing : List Cond := .code yX6_waysOfComing cX6_waysOfComing 6 (some .long) :: ([.fieldLink RX6 10 "SumNames" "now" "LSumNames$World;", .fieldLink RX6 179 "SumNames$World" "hopeCount" "I", .fieldLink RX6 201 "SumNames$World" "hopeTenths" "[I"] ++ wsX60 ++ wsX50)
def wsX6_waysWithNames : List Cond := .code yX6_waysWithNames cX6_waysWithNames 4 (some .long) :: ([.fieldLink RX6 10 "SumNames" "now" "LSumNames$World;", .fieldLink RX6 179 "SumNames$World" "hopeCount" "I", .methodLink RX6 191 yX6_allHaveNames, .instanceMethod yX6_allHaveNames, .selects RX6 yX6_allHaveNames yX6_allHaveNames, .initialized RX6, .code yX6_allHaveNames cX6_allHaveNames 3 (some .boolean), .fieldLink RX6 54 "SumNames" "rooms" "[I", .methodLink RX6 198 yX6_comingWith, .instanceMethod yX6_comingWith, .selects RX6 yX6_comingWith yX6_comingWith, .code yX6_comingWith cX6_comingWith 5 (some .int), .fieldLink RX6 188 "SumNames$World" "hopeDays" "[I", .methodLink RX6 194 yX6_waysOfComing, .instanceMethod yX6_waysOfComing, .selects RX6 yX6_waysOfComing yX6_waysOfComing, .code yX6_waysOfComing cX6_waysOfComing 6 (some .long), .fieldLink RX6 201 "SumNames$World" "hopeTenths" "[I"] ++ wsX60 ++ wsX50)
def wsX6_commonDivisor : List Cond := .code yX6_commonDivisor cX6_commonDivisor 11 (some .long) :: ([.methodLink RX6 315 Lib.MathLoose.max_long.x, .static Lib.MathLoose.max_long.x, .initialized "java/lang/Math", .code Lib.MathLoose.max_long.x Lib.MathLoose.max_long.code 4 (some .long)])
def wsX6_hopes_r1 : List Cond := [Cond.fieldLink RX6 10 "SumNames" "now" "LSumNames$World;", Cond.constantLong RX6 111 (-2), Cond.constantLong RX6 157 (-3), Cond.fieldLink RX6 179 "SumNames$World" "hopeCount" "I", Cond.constantLong RX6 182 (10), Cond.methodLink RX6 88 yX5_isPerson, Cond.instanceMethod yX5_isPerson, Cond.selects RX5 yX5_isPerson yX5_isPerson, Cond.initialized RX5, Cond.code yX5_isPerson cX5_isPerson 2 (some .boolean), Cond.fieldLink RX5 38 "SumNames$World" "personCount" "I", Cond.methodLink RX6 165 yX6_isZeroOrOne, Cond.static yX6_isZeroOrOne, Cond.initialized RX6, Cond.code yX6_isZeroOrOne cX6_isZeroOrOne 1 (some .boolean), Cond.methodLink RX6 168 yX5_nearChildOf, Cond.instanceMethod yX5_nearChildOf, Cond.selects RX5 yX5_nearChildOf yX5_nearChildOf, Cond.code yX5_nearChildOf cX5_nearChildOf 3 (some .int), Cond.fieldLink RX5 50 "SumNames$World" "degreesTold" "I", Cond.methodLink RX5 101 yX5_within, Cond.instanceMethod yX5_within, Cond.selects RX5 yX5_within yX5_within, Cond.code yX5_within cX5_within 5 (some .int)]
def wsX6_hopes_r2 : List Cond := [Cond.methodLink RX5 105 yX5_oneStepMore, Cond.instanceMethod yX5_oneStepMore, Cond.selects RX5 yX5_oneStepMore yX5_oneStepMore, Cond.code yX5_oneStepMore cX5_oneStepMore 5 (some .int), Cond.fieldLink RX5 35 "SumNames$World" "kinds" "[I", Cond.fieldLink RX5 29 "SumNames$World" "parents" "[I", Cond.fieldLink RX5 32 "SumNames$World" "otherParents" "[I", Cond.methodLink RX6 171 yX6_findRooms, Cond.instanceMethod yX6_findRooms, Cond.selects RX6 yX6_findRooms yX6_findRooms, Cond.code yX6_findRooms cX6_findRooms 3 none, Cond.fieldLink RX6 30 "SumNames" "row" "LSumNames$NameRow;", Cond.fieldLink RX6 188 "SumNames$World" "hopeDays" "[I", Cond.fieldLink RX6 54 "SumNames" "rooms" "[I", Cond.fieldLink RX6 151 "SumNames$NameRow" "size" "I", Cond.methodLink RX6 147 yX0_gather, Cond.instanceMethod yX0_gather, Cond.selects RX0 yX0_gather yX0_gather, Cond.initialized RX0, Cond.code yX0_gather cX0_gather 4 none, Cond.fieldLink RX0 32 "SumNames$NameRow" "wantedDay" "I", Cond.fieldLink RX0 35 "SumNames$NameRow" "divisorsWanted" "Z", Cond.fieldLink RX0 15 "SumNames$NameRow" "size" "I", Cond.methodLink RX0 39 yX0_findParts]
def wsX6_hopes_r3 : List Cond := [Cond.instanceMethod yX0_findParts, Cond.selects RX0 yX0_findParts yX0_findParts, Cond.code yX0_findParts cX0_findParts 6 none, Cond.fieldLink RX0 29 "SumNames$NameRow" "partCount" "I", Cond.fieldLink RX0 53 "SumNames$World" "syllableCount" "I", Cond.fieldLink RX0 58 "SumNames$World" "syllables" "[J", Cond.fieldLink RX0 19 "SumNames$NameRow" "partCodes" "[J", Cond.fieldLink RX0 22 "SumNames$NameRow" "partShifts" "[J", Cond.fieldLink RX0 25 "SumNames$NameRow" "partSums" "[I", Cond.methodLink RX0 61 yX5_sumInNames, Cond.instanceMethod yX5_sumInNames, Cond.selects RX5 yX5_sumInNames yX5_sumInNames, Cond.code yX5_sumInNames cX5_sumInNames 7 (some .int), Cond.fieldLink RX5 9 "SumNames$World" "numbers" "[I", Cond.constantLong RX5 75 (27), Cond.static yX6_lastLetter, Cond.code yX6_lastLetter cX6_lastLetter 2 (some .int), Cond.constantLong RX6 310 (27), Cond.static yX6_isLetter, Cond.code yX6_isLetter cX6_isLetter 1 (some .boolean), Cond.methodLink RX5 77 yX5_sumOf, Cond.instanceMethod yX5_sumOf, Cond.selects RX5 yX5_sumOf yX5_sumOf, Cond.code yX5_sumOf cX5_sumOf 8 (some .int)]
def wsX6_hopes_r4 : List Cond := [Cond.methodLink RX0 65 yX0_shiftOf, Cond.static yX0_shiftOf, Cond.code yX0_shiftOf cX0_shiftOf 5 (some .long), Cond.constantLong RX0 69 (27), Cond.methodLink RX0 43 yX0_join, Cond.instanceMethod yX0_join, Cond.selects RX0 yX0_join yX0_join, Cond.code yX0_join cX0_join 9 none, Cond.methodLink RX0 71 yX0_addIfWanted, Cond.instanceMethod yX0_addIfWanted, Cond.selects RX0 yX0_addIfWanted yX0_addIfWanted, Cond.code yX0_addIfWanted cX0_addIfWanted 5 none, Cond.fieldLink RX0 9 "SumNames$NameRow" "codes" "[J", Cond.methodLink RX0 47 yX0_sort, Cond.instanceMethod yX0_sort, Cond.selects RX0 yX0_sort yX0_sort, Cond.code yX0_sort cX0_sort 9 none, Cond.fieldLink RX0 75 "SumNames$NameRow" "GAPS" "[I", Cond.methodLink RX0 50 yX0_dropLike, Cond.instanceMethod yX0_dropLike, Cond.selects RX0 yX0_dropLike yX0_dropLike, Cond.code yX0_dropLike cX0_dropLike 3 none, Cond.methodLink RX6 161 yX0_dropCalled, Cond.instanceMethod yX0_dropCalled]
def wsX6_hopes_r5 : List Cond := [Cond.selects RX0 yX0_dropCalled yX0_dropCalled, Cond.code yX0_dropCalled cX0_dropCalled 5 none, Cond.methodLink RX0 78 yX5_leastCalled, Cond.instanceMethod yX5_leastCalled, Cond.selects RX5 yX5_leastCalled yX5_leastCalled, Cond.code yX5_leastCalled cX5_leastCalled 5 (some .int), Cond.fieldLink RX5 26 "SumNames$World" "words" "[J", Cond.methodLink RX6 175 yX6_waysWithNames, Cond.instanceMethod yX6_waysWithNames, Cond.selects RX6 yX6_waysWithNames yX6_waysWithNames, Cond.code yX6_waysWithNames cX6_waysWithNames 4 (some .long), Cond.methodLink RX6 191 yX6_allHaveNames, Cond.instanceMethod yX6_allHaveNames, Cond.selects RX6 yX6_allHaveNames yX6_allHaveNames, Cond.code yX6_allHaveNames cX6_allHaveNames 3 (some .boolean), Cond.methodLink RX6 198 yX6_comingWith, Cond.instanceMethod yX6_comingWith, Cond.selects RX6 yX6_comingWith yX6_comingWith, Cond.code yX6_comingWith cX6_comingWith 5 (some .int), Cond.methodLink RX6 194 yX6_waysOfComing, Cond.instanceMethod yX6_waysOfComing, Cond.selects RX6 yX6_waysOfComing yX6_waysOfComing, Cond.code yX6_waysOfComing cX6_waysOfComing 6 (some .long), Cond.fieldLink RX6 201 "SumNames$World" "hopeTenths" "[I"]
def wsX6_hopes_r6 : List Cond := [Cond.methodLink RX6 184 yX6_commonDivisor, Cond.static yX6_commonDivisor, Cond.code yX6_commonDivisor cX6_commonDivisor 11 (some .long), Cond.methodLink RX6 315 Lib.MathLoose.max_long.x, Cond.static Lib.MathLoose.max_long.x, Cond.initialized "java/lang/Math", Cond.code Lib.MathLoose.max_long.x Lib.MathLoose.max_long.code 4 (some .long)]
def wsX6_hopes : List Cond := .code yX6_hopes cX6_hopes 10 (some .long) :: ((wsX6_hopes_r1 ++ (wsX6_hopes_r2 ++ (wsX6_hopes_r3 ++ (wsX6_hopes_r4 ++ (wsX6_hopes_r5 ++ wsX6_hopes_r6))))) ++ wsX60 ++ wsX50 ++ wsX00)
def wsX6_areDays : List Cond := .code yX6_areDays cX6_areDays 2 (some .boolean) :: ([.methodLink RX6 144 yX6_isDay, .static yX6_isDay, .initialized RX6, .code yX6_isDay cX6_isDay 1 (some .boolean)])
def wsX6_without_r1 : List Cond := [Cond.fieldLink RX6 37 "SumNames" "reach" "LSumNames$Reach;", Cond.fieldLink RX6 10 "SumNames" "now" "LSumNames$World;", Cond.methodLink RX6 204 yX6_areDays, Cond.static yX6_areDays, Cond.initialized RX6, Cond.code yX6_areDays cX6_areDays 2 (some .boolean), Cond.methodLink RX6 144 yX6_isDay, Cond.static yX6_isDay, Cond.code yX6_isDay cX6_isDay 1 (some .boolean), Cond.methodLink RX6 165 yX6_isZeroOrOne, Cond.static yX6_isZeroOrOne, Cond.code yX6_isZeroOrOne cX6_isZeroOrOne 1 (some .boolean), Cond.methodLink RX6 207 yX2_measure, Cond.instanceMethod yX2_measure, Cond.selects RX2 yX2_measure yX2_measure, Cond.initialized RX2, Cond.code yX2_measure cX2_measure 4 none, Cond.fieldLink RX2 9 "SumNames$Reach" "fewest" "[I", Cond.fieldLink RX2 19 "SumNames$World" "syllableCount" "I", Cond.fieldLink RX2 25 "SumNames$World" "syllables" "[J", Cond.methodLink RX2 29 yX5_sumInNames, Cond.instanceMethod yX5_sumInNames, Cond.selects RX5 yX5_sumInNames yX5_sumInNames, Cond.initialized RX5]
def wsX6_without_r2 : List Cond := [Cond.code yX5_sumInNames cX5_sumInNames 7 (some .int), Cond.fieldLink RX5 9 "SumNames$World" "numbers" "[I", Cond.constantLong RX5 75 (27), Cond.static yX6_lastLetter, Cond.code yX6_lastLetter cX6_lastLetter 2 (some .int), Cond.constantLong RX6 310 (27), Cond.static yX6_isLetter, Cond.code yX6_isLetter cX6_isLetter 1 (some .boolean), Cond.methodLink RX5 77 yX5_sumOf, Cond.instanceMethod yX5_sumOf, Cond.selects RX5 yX5_sumOf yX5_sumOf, Cond.code yX5_sumOf cX5_sumOf 8 (some .int), Cond.methodLink RX2 33 yX2_addPart, Cond.instanceMethod yX2_addPart, Cond.selects RX2 yX2_addPart yX2_addPart, Cond.code yX2_addPart cX2_addPart 3 none, Cond.methodLink RX2 37 Lib.Math.min.name, Cond.static Lib.Math.min.name, Cond.initialized "java/lang/Math", Cond.code Lib.Math.min.name Lib.Math.min.code 2 (some .int), Cond.methodLink RX6 210 yX2_daysWithout, Cond.instanceMethod yX2_daysWithout, Cond.selects RX2 yX2_daysWithout yX2_daysWithout, Cond.code yX2_daysWithout cX2_daysWithout 5 (some .int)]
def wsX6_without_r3 : List Cond := [Cond.methodLink RX6 213 yX2_firstWithout, Cond.instanceMethod yX2_firstWithout, Cond.selects RX2 yX2_firstWithout yX2_firstWithout, Cond.code yX2_firstWithout cX2_firstWithout 4 (some .int)]
def wsX6_without : List Cond := .code yX6_without cX6_without 4 (some .int) :: ((wsX6_without_r1 ++ (wsX6_without_r2 ++ wsX6_without_r3)) ++ wsX60 ++ wsX20 ++ wsX50)
def wsX6_mend_r1 : List Cond := [Cond.constantLong RX6 157 (-3), Cond.fieldLink RX6 37 "SumNames" "reach" "LSumNames$Reach;", Cond.fieldLink RX6 10 "SumNames" "now" "LSumNames$World;", Cond.fieldLink RX6 216 "SumNames$World" "syllableCount" "I", Cond.constantLong RX6 219 (-4), Cond.methodLink RX6 204 yX6_areDays, Cond.static yX6_areDays, Cond.initialized RX6, Cond.code yX6_areDays cX6_areDays 2 (some .boolean), Cond.methodLink RX6 144 yX6_isDay, Cond.static yX6_isDay, Cond.code yX6_isDay cX6_isDay 1 (some .boolean), Cond.methodLink RX6 207 yX2_measure, Cond.instanceMethod yX2_measure, Cond.selects RX2 yX2_measure yX2_measure, Cond.initialized RX2, Cond.code yX2_measure cX2_measure 4 none, Cond.fieldLink RX2 9 "SumNames$Reach" "fewest" "[I", Cond.fieldLink RX2 19 "SumNames$World" "syllableCount" "I", Cond.fieldLink RX2 25 "SumNames$World" "syllables" "[J", Cond.methodLink RX2 29 yX5_sumInNames, Cond.instanceMethod yX5_sumInNames, Cond.selects RX5 yX5_sumInNames yX5_sumInNames, Cond.initialized RX5]
def wsX6_mend_r2 : List Cond := [Cond.code yX5_sumInNames cX5_sumInNames 7 (some .int), Cond.fieldLink RX5 9 "SumNames$World" "numbers" "[I", Cond.constantLong RX5 75 (27), Cond.static yX6_lastLetter, Cond.code yX6_lastLetter cX6_lastLetter 2 (some .int), Cond.constantLong RX6 310 (27), Cond.static yX6_isLetter, Cond.code yX6_isLetter cX6_isLetter 1 (some .boolean), Cond.methodLink RX5 77 yX5_sumOf, Cond.instanceMethod yX5_sumOf, Cond.selects RX5 yX5_sumOf yX5_sumOf, Cond.code yX5_sumOf cX5_sumOf 8 (some .int), Cond.methodLink RX2 33 yX2_addPart, Cond.instanceMethod yX2_addPart, Cond.selects RX2 yX2_addPart yX2_addPart, Cond.code yX2_addPart cX2_addPart 3 none, Cond.methodLink RX2 37 Lib.Math.min.name, Cond.static Lib.Math.min.name, Cond.initialized "java/lang/Math", Cond.code Lib.Math.min.name Lib.Math.min.code 2 (some .int), Cond.methodLink RX6 213 yX2_firstWithout, Cond.instanceMethod yX2_firstWithout, Cond.selects RX2 yX2_firstWithout yX2_firstWithout, Cond.code yX2_firstWithout cX2_firstWithout 4 (some .int)]
def wsX6_mend_r3 : List Cond := [Cond.methodLink RX6 221 yX2_mendingSyllable, Cond.instanceMethod yX2_mendingSyllable, Cond.selects RX2 yX2_mendingSyllable yX2_mendingSyllable, Cond.code yX2_mendingSyllable cX2_mendingSyllable 7 (some .long), Cond.fieldLink RX2 15 "SumNames$Reach" "tried" "[Z", Cond.constantLong RX2 43 (728), Cond.constantLong RX2 49 (-1), Cond.methodLink RX2 45 yX2_mendsAll, Cond.instanceMethod yX2_mendsAll, Cond.selects RX2 yX2_mendsAll yX2_mendsAll, Cond.code yX2_mendsAll cX2_mendsAll 5 (some .boolean), Cond.methodLink RX2 51 yX2_hasNameWith, Cond.instanceMethod yX2_hasNameWith, Cond.selects RX2 yX2_hasNameWith yX2_hasNameWith, Cond.code yX2_hasNameWith cX2_hasNameWith 5 (some .boolean)]
def wsX6_mend : List Cond := .code yX6_mend cX6_mend 3 (some .long) :: ((wsX6_mend_r1 ++ (wsX6_mend_r2 ++ wsX6_mend_r3)) ++ wsX60 ++ wsX50 ++ wsX20)
def wsX6_old_r1 : List Cond := [Cond.fieldLink RX6 44 "SumNames" "oldNames" "LSumNames$OldNames;", Cond.fieldLink RX6 10 "SumNames" "now" "LSumNames$World;", Cond.fieldLink RX6 229 "SumNames$OldNames" "ways" "I", Cond.methodLink RX6 81 yX6_isLetter, Cond.static yX6_isLetter, Cond.initialized RX6, Cond.code yX6_isLetter cX6_isLetter 1 (some .boolean), Cond.methodLink RX6 225 yX1_solve, Cond.instanceMethod yX1_solve, Cond.selects RX1 yX1_solve yX1_solve, Cond.initialized RX1, Cond.code yX1_solve cX1_solve 4 (some .boolean), Cond.fieldLink RX1 9 "SumNames$OldNames" "ways" "I", Cond.fieldLink RX1 42 "SumNames$OldNames" "most" "I", Cond.fieldLink RX1 33 "SumNames$OldNames" "wordCount" "I", Cond.fieldLink RX1 49 "SumNames$World" "personCount" "I", Cond.fieldLink RX1 54 "SumNames$World" "words" "[J", Cond.fieldLink RX1 58 "SumNames$World" "days" "[I", Cond.methodLink RX1 45 yX1_findLetters, Cond.instanceMethod yX1_findLetters, Cond.selects RX1 yX1_findLetters yX1_findLetters, Cond.code yX1_findLetters cX1_findLetters 3 (some .boolean), Cond.fieldLink RX1 19 "SumNames$OldNames" "letterCount" "I", Cond.fieldLink RX1 15 "SumNames$OldNames" "letters" "[I"]
def wsX6_old_r2 : List Cond := [Cond.methodLink RX1 69 yX1_isInAny, Cond.static yX1_isInAny, Cond.code yX1_isInAny cX1_isInAny 3 (some .boolean), Cond.static yX6_timesIn, Cond.code yX6_timesIn cX6_timesIn 7 (some .int), Cond.constantLong RX6 310 (27), Cond.methodLink RX6 312 yX6_lastLetter, Cond.static yX6_lastLetter, Cond.code yX6_lastLetter cX6_lastLetter 2 (some .int), Cond.methodLink RX1 61 yX1_addWord, Cond.instanceMethod yX1_addWord, Cond.selects RX1 yX1_addWord yX1_addWord, Cond.code yX1_addWord cX1_addWord 6 none, Cond.fieldLink RX1 27 "SumNames$OldNames" "behind" "[[I", Cond.fieldLink RX1 24 "SumNames$OldNames" "times" "[[I", Cond.fieldLink RX1 30 "SumNames$OldNames" "left" "[I", Cond.methodLink RX1 65 yX1_give, Cond.instanceMethod yX1_give, Cond.selects RX1 yX1_give yX1_give, Cond.code yX1_give cX1_give 4 none, Cond.fieldLink RX1 36 "SumNames$OldNames" "given" "[I", Cond.methodLink RX1 77 yX1_addWay, Cond.instanceMethod yX1_addWay, Cond.selects RX1 yX1_addWay yX1_addWay]
def wsX6_old_r3 : List Cond := [Cond.code yX1_addWay cX1_addWay 1 none, Cond.fieldLink RX1 39 "SumNames$OldNames" "first" "[I", Cond.methodLink RX1 91 arraycopyName, Cond.native arraycopyName, Cond.static arraycopyName, Cond.initialized "java/lang/System", Cond.methodLink RX1 80 yX1_greatestFor, Cond.instanceMethod yX1_greatestFor, Cond.selects RX1 yX1_greatestFor yX1_greatestFor, Cond.code yX1_greatestFor cX1_greatestFor 4 (some .int), Cond.methodLink RX1 106 Lib.Math.min.name, Cond.static Lib.Math.min.name, Cond.initialized "java/lang/Math", Cond.code Lib.Math.min.name Lib.Math.min.code 2 (some .int), Cond.methodLink RX1 97 yJ9_floorDiv_7cf53, Cond.static yJ9_floorDiv_7cf53, Cond.initialized RJ9, Cond.code yJ9_floorDiv_7cf53 cJ9_floorDiv_7cf53 3 (some .int), Cond.methodLink RX1 84 yX1_leastFor, Cond.instanceMethod yX1_leastFor, Cond.selects RX1 yX1_leastFor yX1_leastFor, Cond.code yX1_leastFor cX1_leastFor 5 (some .int), Cond.methodLink RX1 103 Lib.Math.max.name, Cond.static Lib.Math.max.name]
def wsX6_old_r4 : List Cond := [Cond.code Lib.Math.max.name Lib.Math.max.code 2 (some .int), Cond.methodLink RX1 87 yX1_take, Cond.instanceMethod yX1_take, Cond.selects RX1 yX1_take yX1_take, Cond.code yX1_take cX1_take 4 none, Cond.methodLink RX6 232 yX1_firstNumberOf, Cond.instanceMethod yX1_firstNumberOf, Cond.selects RX1 yX1_firstNumberOf yX1_firstNumberOf, Cond.code yX1_firstNumberOf cX1_firstNumberOf 3 (some .int)]
def wsX6_old : List Cond := .code yX6_old cX6_old 3 (some .int) :: ((wsX6_old_r1 ++ (wsX6_old_r2 ++ (wsX6_old_r3 ++ wsX6_old_r4))) ++ wsX60 ++ wsX10 ++ wsX50)
def wsX6_reformedNumber : List Cond := .code yX6_reformedNumber cX6_reformedNumber 7 (some .int) :: ([.fieldLink RX6 10 "SumNames" "now" "LSumNames$World;", .fieldLink RX6 85 "SumNames$World" "numbers" "[I", .fieldLink RX6 107 "SumNames$World" "words" "[J", .fieldLink RX6 91 "SumNames$World" "days" "[I", .methodLink RX6 244 yX6_timesIn, .static yX6_timesIn, .initialized RX6, .code yX6_timesIn cX6_timesIn 7 (some .int), .constantLong RX6 310 (27), .methodLink RX6 312 yX6_lastLetter, .static yX6_lastLetter, .code yX6_lastLetter cX6_lastLetter 2 (some .int), .methodLink RX6 130 yX5_sumOf, .instanceMethod yX5_sumOf, .selects RX5 yX5_sumOf yX5_sumOf, .initialized RX5, .code yX5_sumOf cX5_sumOf 8 (some .int), .fieldLink RX5 9 "SumNames$World" "numbers" "[I", .constantLong RX5 75 (27), .static yX6_isLetter, .code yX6_isLetter cX6_isLetter 1 (some .boolean)] ++ wsX60 ++ wsX50)
def wsX6_calledAnew_r1 : List Cond := [Cond.fieldLink RX6 10 "SumNames" "now" "LSumNames$World;", Cond.fieldLink RX6 247 "SumNames$World" "personCount" "I", Cond.fieldLink RX6 107 "SumNames$World" "words" "[J", Cond.methodLink RX6 250 yX5_addsUp, Cond.instanceMethod yX5_addsUp, Cond.selects RX5 yX5_addsUp yX5_addsUp, Cond.initialized RX5, Cond.code yX5_addsUp cX5_addsUp 2 (some .boolean), Cond.fieldLink RX5 26 "SumNames$World" "words" "[J", Cond.fieldLink RX5 23 "SumNames$World" "days" "[I", Cond.methodLink RX5 77 yX5_sumOf, Cond.instanceMethod yX5_sumOf, Cond.selects RX5 yX5_sumOf yX5_sumOf, Cond.code yX5_sumOf cX5_sumOf 8 (some .int), Cond.fieldLink RX5 9 "SumNames$World" "numbers" "[I", Cond.constantLong RX5 75 (27), Cond.static yX6_lastLetter, Cond.initialized RX6, Cond.code yX6_lastLetter cX6_lastLetter 2 (some .int), Cond.constantLong RX6 310 (27), Cond.static yX6_isLetter, Cond.code yX6_isLetter cX6_isLetter 1 (some .boolean), Cond.methodLink RX6 244 yX6_timesIn, Cond.static yX6_timesIn]
def wsX6_calledAnew_r2 : List Cond := [Cond.code yX6_timesIn cX6_timesIn 7 (some .int), Cond.methodLink RX6 312 yX6_lastLetter]
def wsX6_calledAnew : List Cond := .code yX6_calledAnew cX6_calledAnew 5 (some .int) :: ((wsX6_calledAnew_r1 ++ wsX6_calledAnew_r2) ++ wsX60 ++ wsX50)
def wsX6_bestReformedLetter_r1 : List Cond := [Cond.methodLink RX6 238 yX6_reformedNumber, Cond.instanceMethod yX6_reformedNumber, Cond.selects RX6 yX6_reformedNumber yX6_reformedNumber, Cond.initialized RX6, Cond.code yX6_reformedNumber cX6_reformedNumber 7 (some .int), Cond.fieldLink RX6 10 "SumNames" "now" "LSumNames$World;", Cond.fieldLink RX6 85 "SumNames$World" "numbers" "[I", Cond.fieldLink RX6 107 "SumNames$World" "words" "[J", Cond.fieldLink RX6 91 "SumNames$World" "days" "[I", Cond.methodLink RX6 244 yX6_timesIn, Cond.static yX6_timesIn, Cond.code yX6_timesIn cX6_timesIn 7 (some .int), Cond.constantLong RX6 310 (27), Cond.methodLink RX6 312 yX6_lastLetter, Cond.static yX6_lastLetter, Cond.code yX6_lastLetter cX6_lastLetter 2 (some .int), Cond.methodLink RX6 130 yX5_sumOf, Cond.instanceMethod yX5_sumOf, Cond.selects RX5 yX5_sumOf yX5_sumOf, Cond.initialized RX5, Cond.code yX5_sumOf cX5_sumOf 8 (some .int), Cond.fieldLink RX5 9 "SumNames$World" "numbers" "[I", Cond.constantLong RX5 75 (27), Cond.static yX6_isLetter]
def wsX6_bestReformedLetter_r2 : List Cond := [Cond.code yX6_isLetter cX6_isLetter 1 (some .boolean), Cond.methodLink RX6 241 yX6_calledAnew, Cond.instanceMethod yX6_calledAnew, Cond.selects RX6 yX6_calledAnew yX6_calledAnew, Cond.code yX6_calledAnew cX6_calledAnew 5 (some .int), Cond.fieldLink RX6 247 "SumNames$World" "personCount" "I", Cond.methodLink RX6 250 yX5_addsUp, Cond.instanceMethod yX5_addsUp, Cond.selects RX5 yX5_addsUp yX5_addsUp, Cond.code yX5_addsUp cX5_addsUp 2 (some .boolean), Cond.fieldLink RX5 26 "SumNames$World" "words" "[J", Cond.fieldLink RX5 23 "SumNames$World" "days" "[I", Cond.methodLink RX5 77 yX5_sumOf]
def wsX6_bestReformedLetter : List Cond := .code yX6_bestReformedLetter cX6_bestReformedLetter 5 (some .int) :: ((wsX6_bestReformedLetter_r1 ++ wsX6_bestReformedLetter_r2) ++ wsX60 ++ wsX50)
def wsX6_reform_r1 : List Cond := [Cond.fieldLink RX6 10 "SumNames" "now" "LSumNames$World;", Cond.fieldLink RX6 107 "SumNames$World" "words" "[J", Cond.methodLink RX6 88 yX5_isPerson, Cond.instanceMethod yX5_isPerson, Cond.selects RX5 yX5_isPerson yX5_isPerson, Cond.initialized RX5, Cond.code yX5_isPerson cX5_isPerson 2 (some .boolean), Cond.fieldLink RX5 38 "SumNames$World" "personCount" "I", Cond.methodLink RX6 235 yX6_bestReformedLetter, Cond.instanceMethod yX6_bestReformedLetter, Cond.selects RX6 yX6_bestReformedLetter yX6_bestReformedLetter, Cond.initialized RX6, Cond.code yX6_bestReformedLetter cX6_bestReformedLetter 5 (some .int), Cond.methodLink RX6 238 yX6_reformedNumber, Cond.instanceMethod yX6_reformedNumber, Cond.selects RX6 yX6_reformedNumber yX6_reformedNumber, Cond.code yX6_reformedNumber cX6_reformedNumber 7 (some .int), Cond.fieldLink RX6 85 "SumNames$World" "numbers" "[I", Cond.fieldLink RX6 91 "SumNames$World" "days" "[I", Cond.methodLink RX6 244 yX6_timesIn, Cond.static yX6_timesIn, Cond.code yX6_timesIn cX6_timesIn 7 (some .int), Cond.constantLong RX6 310 (27), Cond.methodLink RX6 312 yX6_lastLetter]
def wsX6_reform_r2 : List Cond := [Cond.static yX6_lastLetter, Cond.code yX6_lastLetter cX6_lastLetter 2 (some .int), Cond.methodLink RX6 130 yX5_sumOf, Cond.instanceMethod yX5_sumOf, Cond.selects RX5 yX5_sumOf yX5_sumOf, Cond.code yX5_sumOf cX5_sumOf 8 (some .int), Cond.fieldLink RX5 9 "SumNames$World" "numbers" "[I", Cond.constantLong RX5 75 (27), Cond.static yX6_isLetter, Cond.code yX6_isLetter cX6_isLetter 1 (some .boolean), Cond.methodLink RX6 241 yX6_calledAnew, Cond.instanceMethod yX6_calledAnew, Cond.selects RX6 yX6_calledAnew yX6_calledAnew, Cond.code yX6_calledAnew cX6_calledAnew 5 (some .int), Cond.fieldLink RX6 247 "SumNames$World" "personCount" "I", Cond.methodLink RX6 250 yX5_addsUp, Cond.instanceMethod yX5_addsUp, Cond.selects RX5 yX5_addsUp yX5_addsUp, Cond.code yX5_addsUp cX5_addsUp 2 (some .boolean), Cond.fieldLink RX5 26 "SumNames$World" "words" "[J", Cond.fieldLink RX5 23 "SumNames$World" "days" "[I", Cond.methodLink RX5 77 yX5_sumOf]
def wsX6_reform : List Cond := .code yX6_reform cX6_reform 4 (some .int) :: ((wsX6_reform_r1 ++ wsX6_reform_r2) ++ wsX60 ++ wsX50)
def wsX6_nicknames_r1 : List Cond := [Cond.fieldLink RX6 10 "SumNames" "now" "LSumNames$World;", Cond.constantLong RX6 111 (-2), Cond.constantLong RX6 157 (-3), Cond.fieldLink RX6 107 "SumNames$World" "words" "[J", Cond.constantLong RX6 219 (-4), Cond.fieldLink RX6 30 "SumNames" "row" "LSumNames$NameRow;", Cond.fieldLink RX6 91 "SumNames$World" "days" "[I", Cond.fieldLink RX6 151 "SumNames$NameRow" "size" "I", Cond.fieldLink RX6 154 "SumNames$NameRow" "codes" "[J", Cond.constantLong RX6 159 (-1), Cond.methodLink RX6 88 yX5_isPerson, Cond.instanceMethod yX5_isPerson, Cond.selects RX5 yX5_isPerson yX5_isPerson, Cond.initialized RX5, Cond.code yX5_isPerson cX5_isPerson 2 (some .boolean), Cond.fieldLink RX5 38 "SumNames$World" "personCount" "I", Cond.methodLink RX6 165 yX6_isZeroOrOne, Cond.static yX6_isZeroOrOne, Cond.initialized RX6, Cond.code yX6_isZeroOrOne cX6_isZeroOrOne 1 (some .boolean), Cond.methodLink RX6 147 yX0_gather, Cond.instanceMethod yX0_gather, Cond.selects RX0 yX0_gather yX0_gather, Cond.initialized RX0]
def wsX6_nicknames_r2 : List Cond := [Cond.code yX0_gather cX0_gather 4 none, Cond.fieldLink RX0 32 "SumNames$NameRow" "wantedDay" "I", Cond.fieldLink RX0 35 "SumNames$NameRow" "divisorsWanted" "Z", Cond.fieldLink RX0 15 "SumNames$NameRow" "size" "I", Cond.methodLink RX0 39 yX0_findParts, Cond.instanceMethod yX0_findParts, Cond.selects RX0 yX0_findParts yX0_findParts, Cond.code yX0_findParts cX0_findParts 6 none, Cond.fieldLink RX0 29 "SumNames$NameRow" "partCount" "I", Cond.fieldLink RX0 53 "SumNames$World" "syllableCount" "I", Cond.fieldLink RX0 58 "SumNames$World" "syllables" "[J", Cond.fieldLink RX0 19 "SumNames$NameRow" "partCodes" "[J", Cond.fieldLink RX0 22 "SumNames$NameRow" "partShifts" "[J", Cond.fieldLink RX0 25 "SumNames$NameRow" "partSums" "[I", Cond.methodLink RX0 61 yX5_sumInNames, Cond.instanceMethod yX5_sumInNames, Cond.selects RX5 yX5_sumInNames yX5_sumInNames, Cond.code yX5_sumInNames cX5_sumInNames 7 (some .int), Cond.fieldLink RX5 9 "SumNames$World" "numbers" "[I", Cond.constantLong RX5 75 (27), Cond.static yX6_lastLetter, Cond.code yX6_lastLetter cX6_lastLetter 2 (some .int), Cond.constantLong RX6 310 (27), Cond.static yX6_isLetter]
def wsX6_nicknames_r3 : List Cond := [Cond.code yX6_isLetter cX6_isLetter 1 (some .boolean), Cond.methodLink RX5 77 yX5_sumOf, Cond.instanceMethod yX5_sumOf, Cond.selects RX5 yX5_sumOf yX5_sumOf, Cond.code yX5_sumOf cX5_sumOf 8 (some .int), Cond.methodLink RX0 65 yX0_shiftOf, Cond.static yX0_shiftOf, Cond.code yX0_shiftOf cX0_shiftOf 5 (some .long), Cond.constantLong RX0 69 (27), Cond.methodLink RX0 43 yX0_join, Cond.instanceMethod yX0_join, Cond.selects RX0 yX0_join yX0_join, Cond.code yX0_join cX0_join 9 none, Cond.methodLink RX0 71 yX0_addIfWanted, Cond.instanceMethod yX0_addIfWanted, Cond.selects RX0 yX0_addIfWanted yX0_addIfWanted, Cond.code yX0_addIfWanted cX0_addIfWanted 5 none, Cond.fieldLink RX0 9 "SumNames$NameRow" "codes" "[J", Cond.methodLink RX0 47 yX0_sort, Cond.instanceMethod yX0_sort, Cond.selects RX0 yX0_sort yX0_sort, Cond.code yX0_sort cX0_sort 9 none, Cond.fieldLink RX0 75 "SumNames$NameRow" "GAPS" "[I", Cond.methodLink RX0 50 yX0_dropLike]
def wsX6_nicknames_r4 : List Cond := [Cond.instanceMethod yX0_dropLike, Cond.selects RX0 yX0_dropLike yX0_dropLike, Cond.code yX0_dropLike cX0_dropLike 3 none, Cond.methodLink RX6 253 yX0_dropNoNicknames, Cond.instanceMethod yX0_dropNoNicknames, Cond.selects RX0 yX0_dropNoNicknames yX0_dropNoNicknames, Cond.code yX0_dropNoNicknames cX0_dropNoNicknames 5 none, Cond.static yX6_isLeftOf, Cond.code yX6_isLeftOf cX6_isLeftOf 9 (some .boolean), Cond.methodLink RX6 312 yX6_lastLetter]
def wsX6_nicknames : List Cond := .code yX6_nicknames cX6_nicknames 3 (some .long) :: ((wsX6_nicknames_r1 ++ (wsX6_nicknames_r2 ++ (wsX6_nicknames_r3 ++ wsX6_nicknames_r4))) ++ wsX60 ++ wsX50 ++ wsX00)
def wsX6_page_r1 : List Cond := [Cond.fieldLink RX6 10 "SumNames" "now" "LSumNames$World;", Cond.fieldLink RX6 247 "SumNames$World" "personCount" "I", Cond.fieldLink RX6 107 "SumNames$World" "words" "[J", Cond.methodLink RX6 165 yX6_isZeroOrOne, Cond.static yX6_isZeroOrOne, Cond.initialized RX6, Cond.code yX6_isZeroOrOne cX6_isZeroOrOne 1 (some .boolean), Cond.methodLink RX6 140 yX5_leastCalled, Cond.instanceMethod yX5_leastCalled, Cond.selects RX5 yX5_leastCalled yX5_leastCalled, Cond.initialized RX5, Cond.code yX5_leastCalled cX5_leastCalled 5 (some .int), Cond.fieldLink RX5 38 "SumNames$World" "personCount" "I", Cond.fieldLink RX5 26 "SumNames$World" "words" "[J", Cond.methodLink RX6 257 yX5_sumOfAll, Cond.instanceMethod yX5_sumOfAll, Cond.selects RX5 yX5_sumOfAll yX5_sumOfAll, Cond.code yX5_sumOfAll cX5_sumOfAll 4 (some .int), Cond.methodLink RX5 77 yX5_sumOf, Cond.instanceMethod yX5_sumOf, Cond.selects RX5 yX5_sumOf yX5_sumOf, Cond.code yX5_sumOf cX5_sumOf 8 (some .int), Cond.fieldLink RX5 9 "SumNames$World" "numbers" "[I", Cond.constantLong RX5 75 (27)]
def wsX6_page_r2 : List Cond := [Cond.static yX6_lastLetter, Cond.code yX6_lastLetter cX6_lastLetter 2 (some .int), Cond.constantLong RX6 310 (27), Cond.static yX6_isLetter, Cond.code yX6_isLetter cX6_isLetter 1 (some .boolean), Cond.methodLink RX6 260 yX5_changesBy, Cond.instanceMethod yX5_changesBy, Cond.selects RX5 yX5_changesBy yX5_changesBy, Cond.code yX5_changesBy cX5_changesBy 9 (some .int), Cond.methodLink RX5 108 yX5_othersOfNumber, Cond.instanceMethod yX5_othersOfNumber, Cond.selects RX5 yX5_othersOfNumber yX5_othersOfNumber, Cond.code yX5_othersOfNumber cX5_othersOfNumber 5 (some .int)]
def wsX6_page : List Cond := .code yX6_page cX6_page 8 (some .int) :: ((wsX6_page_r1 ++ wsX6_page_r2) ++ wsX60 ++ wsX50)
def wsX6_isSheet : List Cond := .code yX6_isSheet cX6_isSheet 1 (some .boolean) :: ([])
def wsX6_isLane : List Cond := .code yX6_isLane cX6_isLane 1 (some .boolean) :: ([])
def wsX6_sheet : List Cond := .code yX6_sheet cX6_sheet 4 (some .int) :: ([.fieldLink RX6 50 "SumNames" "sheets" "[LSumNames$Sheet;", .methodLink RX6 263 yX6_isSheet, .static yX6_isSheet, .initialized RX6, .code yX6_isSheet cX6_isSheet 1 (some .boolean), .methodLink RX6 266 yX6_isLane, .static yX6_isLane, .code yX6_isLane cX6_isLane 1 (some .boolean), .methodLink RX6 269 yX4_begin, .instanceMethod yX4_begin, .selects RX4 yX4_begin yX4_begin, .initialized RX4, .code yX4_begin cX4_begin 4 none, .fieldLink RX4 15 "SumNames$Sheet" "lane" "I", .fieldLink RX4 19 "SumNames$Sheet" "size" "I", .fieldLink RX4 9 "SumNames$Sheet" "items" "[I"] ++ wsX60 ++ wsX40)
def wsX6_tear : List Cond := .code yX6_tear cX6_tear 2 (some .int) :: ([.fieldLink RX6 50 "SumNames" "sheets" "[LSumNames$Sheet;", .fieldLink RX6 273 "SumNames$Sheet" "size" "I", .methodLink RX6 263 yX6_isSheet, .static yX6_isSheet, .initialized RX6, .code yX6_isSheet cX6_isSheet 1 (some .boolean)] ++ wsX60 ++ wsX40)
def wsX6_lay : List Cond := .code yX6_lay cX6_lay 4 (some .int) :: ([.fieldLink RX6 50 "SumNames" "sheets" "[LSumNames$Sheet;", .methodLink RX6 263 yX6_isSheet, .static yX6_isSheet, .initialized RX6, .code yX6_isSheet cX6_isSheet 1 (some .boolean), .methodLink RX6 274 yX4_isMissing, .instanceMethod yX4_isMissing, .selects RX4 yX4_isMissing yX4_isMissing, .initialized RX4, .code yX4_isMissing cX4_isMissing 1 (some .boolean), .fieldLink RX4 19 "SumNames$Sheet" "size" "I", .methodLink RX6 278 yX4_hasPlaces, .instanceMethod yX4_hasPlaces, .selects RX4 yX4_hasPlaces yX4_hasPlaces, .code yX4_hasPlaces cX4_hasPlaces 3 (some .boolean), .methodLink RX6 281 yX4_put, .instanceMethod yX4_put, .selects RX4 yX4_put yX4_put, .code yX4_put cX4_put 3 none, .fieldLink RX4 15 "SumNames$Sheet" "lane" "I", .fieldLink RX4 9 "SumNames$Sheet" "items" "[I"] ++ wsX60 ++ wsX40)
def wsX6_copy : List Cond := .code yX6_copy cX6_copy 8 (some .int) :: ([.fieldLink RX6 50 "SumNames" "sheets" "[LSumNames$Sheet;", .fieldLink RX6 284 "SumNames$Sheet" "lane" "I", .fieldLink RX6 287 "SumNames$Sheet" "items" "[I", .methodLink RX6 290 arraycopyName, .native arraycopyName, .static arraycopyName, .initialized "java/lang/System", .methodLink RX6 263 yX6_isSheet, .static yX6_isSheet, .initialized RX6, .code yX6_isSheet cX6_isSheet 1 (some .boolean), .methodLink RX6 274 yX4_isMissing, .instanceMethod yX4_isMissing, .selects RX4 yX4_isMissing yX4_isMissing, .initialized RX4, .code yX4_isMissing cX4_isMissing 1 (some .boolean), .fieldLink RX4 19 "SumNames$Sheet" "size" "I", .methodLink RX6 278 yX4_hasPlaces, .instanceMethod yX4_hasPlaces, .selects RX4 yX4_hasPlaces yX4_hasPlaces, .code yX4_hasPlaces cX4_hasPlaces 3 (some .boolean)] ++ wsX60 ++ wsX40)
def wsX6_hope_r1 : List Cond := [Cond.fieldLink RX6 50 "SumNames" "sheets" "[LSumNames$Sheet;", Cond.fieldLink RX6 284 "SumNames$Sheet" "lane" "I", Cond.fieldLink RX6 10 "SumNames" "now" "LSumNames$World;", Cond.fieldLink RX6 179 "SumNames$World" "hopeCount" "I", Cond.fieldLink RX6 287 "SumNames$Sheet" "items" "[I", Cond.methodLink RX6 263 yX6_isSheet, Cond.static yX6_isSheet, Cond.initialized RX6, Cond.code yX6_isSheet cX6_isSheet 1 (some .boolean), Cond.methodLink RX6 266 yX6_isLane, Cond.static yX6_isLane, Cond.code yX6_isLane cX6_isLane 1 (some .boolean), Cond.methodLink RX6 274 yX4_isMissing, Cond.instanceMethod yX4_isMissing, Cond.selects RX4 yX4_isMissing yX4_isMissing, Cond.initialized RX4, Cond.code yX4_isMissing cX4_isMissing 1 (some .boolean), Cond.fieldLink RX4 19 "SumNames$Sheet" "size" "I", Cond.methodLink RX6 278 yX4_hasPlaces, Cond.instanceMethod yX4_hasPlaces, Cond.selects RX4 yX4_hasPlaces yX4_hasPlaces, Cond.code yX4_hasPlaces cX4_hasPlaces 3 (some .boolean), Cond.methodLink RX6 296 yX4_hasOnlyDays, Cond.instanceMethod yX4_hasOnlyDays]
def wsX6_hope_r2 : List Cond := [Cond.selects RX4 yX4_hasOnlyDays yX4_hasOnlyDays, Cond.code yX4_hasOnlyDays cX4_hasOnlyDays 4 (some .boolean), Cond.fieldLink RX4 9 "SumNames$Sheet" "items" "[I", Cond.static yX6_isDay, Cond.code yX6_isDay cX6_isDay 1 (some .boolean), Cond.methodLink RX6 299 yX5_addHope, Cond.instanceMethod yX5_addHope, Cond.selects RX5 yX5_addHope yX5_addHope, Cond.initialized RX5, Cond.code yX5_addHope cX5_addHope 3 none, Cond.fieldLink RX5 47 "SumNames$World" "hopeCount" "I", Cond.fieldLink RX5 41 "SumNames$World" "hopeDays" "[I", Cond.fieldLink RX5 44 "SumNames$World" "hopeTenths" "[I"]
def wsX6_hope : List Cond := .code yX6_hope cX6_hope 8 (some .int) :: ((wsX6_hope_r1 ++ wsX6_hope_r2) ++ wsX60 ++ wsX40 ++ wsX50)
def wsX6_isImage : List Cond := .code yX6_isImage cX6_isImage 1 (some .boolean) :: ([])
def wsX6_keep_r1 : List Cond := [Cond.fieldLink RX6 16 "SumNames" "images" "[LSumNames$World;", Cond.classLink RX6 7 RX5, Cond.instantiable RX5 13, Cond.initialized RX5, Cond.fieldLink RX6 10 "SumNames" "now" "LSumNames$World;", Cond.fieldLink RX6 247 "SumNames$World" "personCount" "I", Cond.methodLink RX6 302 yX6_isImage, Cond.static yX6_isImage, Cond.initialized RX6, Cond.code yX6_isImage cX6_isImage 1 (some .boolean), Cond.methodLink RX6 9 yX5_init, Cond.instanceMethod yX5_init, Cond.code yX5_init cX5_init 2 none, Cond.methodLink RX5 3 objectInit, Cond.instanceMethod objectInit, Cond.code objectInit ⟨#[0xb1]⟩ 1 none, Cond.arrayClass .int, Cond.fieldLink RX5 9 "SumNames$World" "numbers" "[I", Cond.arrayClass .long, Cond.fieldLink RX5 15 "SumNames$World" "syllables" "[J", Cond.fieldLink RX5 19 "SumNames$World" "syllableCount" "I", Cond.fieldLink RX5 23 "SumNames$World" "days" "[I", Cond.fieldLink RX5 26 "SumNames$World" "words" "[J", Cond.fieldLink RX5 29 "SumNames$World" "parents" "[I"]
def wsX6_keep_r2 : List Cond := [Cond.fieldLink RX5 32 "SumNames$World" "otherParents" "[I", Cond.fieldLink RX5 35 "SumNames$World" "kinds" "[I", Cond.fieldLink RX5 38 "SumNames$World" "personCount" "I", Cond.fieldLink RX5 41 "SumNames$World" "hopeDays" "[I", Cond.fieldLink RX5 44 "SumNames$World" "hopeTenths" "[I", Cond.fieldLink RX5 47 "SumNames$World" "hopeCount" "I", Cond.fieldLink RX5 50 "SumNames$World" "degreesTold" "I", Cond.methodLink RX6 74 yX5_takeFrom, Cond.instanceMethod yX5_takeFrom, Cond.selects RX5 yX5_takeFrom yX5_takeFrom, Cond.code yX5_takeFrom cX5_takeFrom 2 none, Cond.methodLink RX5 53 arraycopyName, Cond.native arraycopyName, Cond.static arraycopyName, Cond.initialized "java/lang/System"]
def wsX6_keep : List Cond := .code yX6_keep cX6_keep 2 (some .int) :: ((wsX6_keep_r1 ++ wsX6_keep_r2) ++ wsX60 ++ wsX50)
def wsX6_back_r1 : List Cond := [Cond.fieldLink RX6 16 "SumNames" "images" "[LSumNames$World;", Cond.fieldLink RX6 10 "SumNames" "now" "LSumNames$World;", Cond.fieldLink RX6 247 "SumNames$World" "personCount" "I", Cond.methodLink RX6 302 yX6_isImage, Cond.static yX6_isImage, Cond.initialized RX6, Cond.code yX6_isImage cX6_isImage 1 (some .boolean), Cond.methodLink RX6 74 yX5_takeFrom, Cond.instanceMethod yX5_takeFrom, Cond.selects RX5 yX5_takeFrom yX5_takeFrom, Cond.initialized RX5, Cond.code yX5_takeFrom cX5_takeFrom 2 none, Cond.fieldLink RX5 9 "SumNames$World" "numbers" "[I", Cond.methodLink RX5 53 arraycopyName, Cond.native arraycopyName, Cond.static arraycopyName, Cond.initialized "java/lang/System", Cond.fieldLink RX5 15 "SumNames$World" "syllables" "[J", Cond.fieldLink RX5 19 "SumNames$World" "syllableCount" "I", Cond.fieldLink RX5 23 "SumNames$World" "days" "[I", Cond.fieldLink RX5 26 "SumNames$World" "words" "[J", Cond.fieldLink RX5 29 "SumNames$World" "parents" "[I", Cond.fieldLink RX5 32 "SumNames$World" "otherParents" "[I", Cond.fieldLink RX5 35 "SumNames$World" "kinds" "[I"]
def wsX6_back_r2 : List Cond := [Cond.fieldLink RX5 38 "SumNames$World" "personCount" "I", Cond.fieldLink RX5 41 "SumNames$World" "hopeDays" "[I", Cond.fieldLink RX5 44 "SumNames$World" "hopeTenths" "[I", Cond.fieldLink RX5 47 "SumNames$World" "hopeCount" "I", Cond.fieldLink RX5 50 "SumNames$World" "degreesTold" "I"]
def wsX6_back : List Cond := .code yX6_back cX6_back 2 (some .int) :: ((wsX6_back_r1 ++ wsX6_back_r2) ++ wsX60 ++ wsX50)
def wsX6_count : List Cond := .code yX6_count cX6_count 2 (some .int) :: ([.fieldLink RX6 10 "SumNames" "now" "LSumNames$World;", .fieldLink RX6 247 "SumNames$World" "personCount" "I", .fieldLink RX6 216 "SumNames$World" "syllableCount" "I", .fieldLink RX6 179 "SumNames$World" "hopeCount" "I", .fieldLink RX6 305 "SumNames$World" "degreesTold" "I", .fieldLink RX6 23 "SumNames" "reader" "LSumNames$Reader;", .fieldLink RX6 63 "SumNames$Reader" "length" "I", .fieldLink RX6 50 "SumNames" "sheets" "[LSumNames$Sheet;", .fieldLink RX6 273 "SumNames$Sheet" "size" "I"] ++ wsX60 ++ wsX50 ++ wsX30 ++ wsX40)
def wsX7_init : List Cond := .code yX7_init cX7_init 2 none :: ([.methodLink RX7 1 objectInit, .instanceMethod objectInit, .code objectInit ⟨#[0xb1]⟩ 1 none, .arrayClass .int, .fieldLink RX7 7 "SumNamesModel" "row" "[I", .arrayClass .long, .fieldLink RX7 13 "SumNamesModel" "words" "[J", .arrayClass .boolean, .fieldLink RX7 17 "SumNamesModel" "isKept" "[Z", .fieldLink RX7 21 "SumNamesModel" "text" "[I", .fieldLink RX7 24 "SumNamesModel" "read" "[I", .fieldLink RX7 27 "SumNamesModel" "readWord" "[J", .fieldLink RX7 30 "SumNamesModel" "lanes" "[I", .fieldLink RX7 33 "SumNamesModel" "sizes" "[I", .fieldLink RX7 36 "SumNamesModel" "items" "[I", .fieldLink RX7 39 "SumNamesModel" "readSyl" "[I", .fieldLink RX7 42 "SumNamesModel" "far" "[I", .fieldLink RX7 45 "SumNamesModel" "names" "[J", .fieldLink RX7 48 "SumNamesModel" "room" "[I", .fieldLink RX7 51 "SumNamesModel" "sums" "[I", .fieldLink RX7 54 "SumNamesModel" "named" "[Z", .fieldLink RX7 57 "SumNamesModel" "used" "[I", .fieldLink RX7 60 "SumNamesModel" "trial" "[I", .fieldLink RX7 63 "SumNamesModel" "found" "[J"] ++ wsX70)
def wsX7_in : List Cond := .code yX7_in cX7_in 6 (some .boolean) :: ([])
def wsX7_has : List Cond := .code yX7_has cX7_has 2 (some .boolean) :: ([])
def wsX7_write : List Cond := .code yX7_write cX7_write 5 (some .int) :: ([.constantLong RX7 66 (8), .fieldLink RX7 72 "SumNamesModel" "length" "I", .fieldLink RX7 21 "SumNamesModel" "text" "[I", .constantLong RX7 76 (255), .methodLink RX7 68 yX7_in, .static yX7_in, .initialized RX7, .code yX7_in cX7_in 6 (some .boolean)] ++ wsX70)
def wsX7_erase : List Cond := .code yX7_erase cX7_erase 2 (some .int) :: ([.fieldLink RX7 72 "SumNamesModel" "length" "I"] ++ wsX70)
def wsX7_sort : List Cond := .code yX7_sort cX7_sort 1 (some .int) :: ([])
def wsX7_token : List Cond := .code yX7_token cX7_token 1 none :: ([.fieldLink RX7 78 "SumNamesModel" "at" "I", .fieldLink RX7 72 "SumNamesModel" "length" "I", .fieldLink RX7 21 "SumNamesModel" "text" "[I", .fieldLink RX7 81 "SumNamesModel" "place" "I", .fieldLink RX7 88 "SumNamesModel" "end" "I", .methodLink RX7 84 yX7_sort, .static yX7_sort, .initialized RX7, .code yX7_sort cX7_sort 1 (some .int)] ++ wsX70)
def wsX7_isWord : List Cond := .code yX7_isWord cX7_isWord 6 (some .boolean) :: ([.fieldLink RX7 88 "SumNamesModel" "end" "I", .fieldLink RX7 81 "SumNamesModel" "place" "I", .fieldLink RX7 21 "SumNamesModel" "text" "[I", .constantLong RX7 91 (31)] ++ wsX70)
def wsX7_wordOf : List Cond := .code yX7_wordOf cX7_wordOf 1 (some .int) :: ([.constantLong RX7 93 (609898668), .constantLong RX7 99 (13107), .constantLong RX7 101 (21612838), .constantLong RX7 103 (4596995), .constantLong RX7 105 (405539), .constantLong RX7 107 (180712), .constantLong RX7 109 (20574706852), .constantLong RX7 111 (676579814), .methodLink RX7 95 yX7_isWord, .instanceMethod yX7_isWord, .selects RX7 yX7_isWord yX7_isWord, .initialized RX7, .code yX7_isWord cX7_isWord 6 (some .boolean), .fieldLink RX7 88 "SumNamesModel" "end" "I", .fieldLink RX7 81 "SumNamesModel" "place" "I", .fieldLink RX7 21 "SumNamesModel" "text" "[I", .constantLong RX7 91 (31)] ++ wsX70)
def wsX7_reads : List Cond := .code yX7_reads cX7_reads 7 (some .boolean) :: ([.fieldLink RX7 81 "SumNamesModel" "place" "I", .fieldLink RX7 72 "SumNamesModel" "length" "I", .fieldLink RX7 21 "SumNamesModel" "text" "[I", .fieldLink RX7 88 "SumNamesModel" "end" "I", .fieldLink RX7 24 "SumNamesModel" "read" "[I", .fieldLink RX7 113 "SumNamesModel" "readMany" "I", .methodLink RX7 84 yX7_sort, .static yX7_sort, .initialized RX7, .code yX7_sort cX7_sort 1 (some .int), .methodLink RX7 68 yX7_in, .static yX7_in, .code yX7_in cX7_in 6 (some .boolean), .methodLink RX7 116 yX7_token, .instanceMethod yX7_token, .selects RX7 yX7_token yX7_token, .code yX7_token cX7_token 1 none, .fieldLink RX7 78 "SumNamesModel" "at" "I"] ++ wsX70)
def wsX7_codeHere : List Cond := .code yX7_codeHere cX7_codeHere 5 (some .long) :: ([.fieldLink RX7 81 "SumNamesModel" "place" "I", .fieldLink RX7 72 "SumNamesModel" "length" "I", .fieldLink RX7 21 "SumNamesModel" "text" "[I", .fieldLink RX7 88 "SumNamesModel" "end" "I", .constantLong RX7 119 (-1), .constantLong RX7 121 (27), .constantLong RX7 123 (96), .methodLink RX7 84 yX7_sort, .static yX7_sort, .initialized RX7, .code yX7_sort cX7_sort 1 (some .int)] ++ wsX70)
def wsX7_readsLetter : List Cond := .code yX7_readsLetter cX7_readsLetter 3 (some .boolean) :: ([.constantLong RX7 119 (-1), .fieldLink RX7 24 "SumNamesModel" "read" "[I", .fieldLink RX7 113 "SumNamesModel" "readMany" "I", .methodLink RX7 125 yX7_codeHere, .instanceMethod yX7_codeHere, .selects RX7 yX7_codeHere yX7_codeHere, .initialized RX7, .code yX7_codeHere cX7_codeHere 5 (some .long), .fieldLink RX7 81 "SumNamesModel" "place" "I", .fieldLink RX7 72 "SumNamesModel" "length" "I", .fieldLink RX7 21 "SumNamesModel" "text" "[I", .fieldLink RX7 88 "SumNamesModel" "end" "I", .constantLong RX7 121 (27), .constantLong RX7 123 (96), .methodLink RX7 84 yX7_sort, .static yX7_sort, .code yX7_sort cX7_sort 1 (some .int), .methodLink RX7 116 yX7_token, .instanceMethod yX7_token, .selects RX7 yX7_token yX7_token, .code yX7_token cX7_token 1 none, .fieldLink RX7 78 "SumNamesModel" "at" "I"] ++ wsX70)
def wsX7_readsSyl : List Cond := .code yX7_readsSyl cX7_readsSyl 5 (some .boolean) :: ([.constantLong RX7 119 (-1), .fieldLink RX7 129 "SumNamesModel" "readSyls" "I", .fieldLink RX7 39 "SumNamesModel" "readSyl" "[I", .fieldLink RX7 24 "SumNamesModel" "read" "[I", .fieldLink RX7 113 "SumNamesModel" "readMany" "I", .methodLink RX7 125 yX7_codeHere, .instanceMethod yX7_codeHere, .selects RX7 yX7_codeHere yX7_codeHere, .initialized RX7, .code yX7_codeHere cX7_codeHere 5 (some .long), .fieldLink RX7 81 "SumNamesModel" "place" "I", .fieldLink RX7 72 "SumNamesModel" "length" "I", .fieldLink RX7 21 "SumNamesModel" "text" "[I", .fieldLink RX7 88 "SumNamesModel" "end" "I", .constantLong RX7 121 (27), .constantLong RX7 123 (96), .methodLink RX7 84 yX7_sort, .static yX7_sort, .code yX7_sort cX7_sort 1 (some .int), .methodLink RX7 116 yX7_token, .instanceMethod yX7_token, .selects RX7 yX7_token yX7_token, .code yX7_token cX7_token 1 none, .fieldLink RX7 78 "SumNamesModel" "at" "I"] ++ wsX70)
def wsX7_readsWord : List Cond := .code yX7_readsWord cX7_readsWord 4 (some .boolean) :: ([.fieldLink RX7 81 "SumNamesModel" "place" "I", .fieldLink RX7 72 "SumNamesModel" "length" "I", .fieldLink RX7 21 "SumNamesModel" "text" "[I", .constantLong RX7 119 (-1), .fieldLink RX7 27 "SumNamesModel" "readWord" "[J", .fieldLink RX7 113 "SumNamesModel" "readMany" "I", .methodLink RX7 125 yX7_codeHere, .instanceMethod yX7_codeHere, .selects RX7 yX7_codeHere yX7_codeHere, .initialized RX7, .code yX7_codeHere cX7_codeHere 5 (some .long), .fieldLink RX7 88 "SumNamesModel" "end" "I", .constantLong RX7 121 (27), .constantLong RX7 123 (96), .methodLink RX7 84 yX7_sort, .static yX7_sort, .code yX7_sort cX7_sort 1 (some .int), .methodLink RX7 116 yX7_token, .instanceMethod yX7_token, .selects RX7 yX7_token yX7_token, .code yX7_token cX7_token 1 none, .fieldLink RX7 78 "SumNamesModel" "at" "I"] ++ wsX70)
def wsX7_readsRest_r1 : List Cond := [Cond.fieldLink RX7 113 "SumNamesModel" "readMany" "I", Cond.fieldLink RX7 132 "SumNamesModel" "readPersons" "I", Cond.fieldLink RX7 24 "SumNamesModel" "read" "[I", Cond.methodLink RX7 135 yX7_readsLetter, Cond.instanceMethod yX7_readsLetter, Cond.selects RX7 yX7_readsLetter yX7_readsLetter, Cond.initialized RX7, Cond.code yX7_readsLetter cX7_readsLetter 3 (some .boolean), Cond.constantLong RX7 119 (-1), Cond.methodLink RX7 125 yX7_codeHere, Cond.instanceMethod yX7_codeHere, Cond.selects RX7 yX7_codeHere yX7_codeHere, Cond.code yX7_codeHere cX7_codeHere 5 (some .long), Cond.fieldLink RX7 81 "SumNamesModel" "place" "I", Cond.fieldLink RX7 72 "SumNamesModel" "length" "I", Cond.fieldLink RX7 21 "SumNamesModel" "text" "[I", Cond.fieldLink RX7 88 "SumNamesModel" "end" "I", Cond.constantLong RX7 121 (27), Cond.constantLong RX7 123 (96), Cond.methodLink RX7 84 yX7_sort, Cond.static yX7_sort, Cond.code yX7_sort cX7_sort 1 (some .int), Cond.methodLink RX7 116 yX7_token, Cond.instanceMethod yX7_token]
def wsX7_readsRest_r2 : List Cond := [Cond.selects RX7 yX7_token yX7_token, Cond.code yX7_token cX7_token 1 none, Cond.fieldLink RX7 78 "SumNamesModel" "at" "I", Cond.methodLink RX7 139 yX7_reads, Cond.instanceMethod yX7_reads, Cond.selects RX7 yX7_reads yX7_reads, Cond.code yX7_reads cX7_reads 7 (some .boolean), Cond.methodLink RX7 68 yX7_in, Cond.static yX7_in, Cond.code yX7_in cX7_in 6 (some .boolean), Cond.methodLink RX7 143 yX7_readsSyl, Cond.instanceMethod yX7_readsSyl, Cond.selects RX7 yX7_readsSyl yX7_readsSyl, Cond.code yX7_readsSyl cX7_readsSyl 5 (some .boolean), Cond.fieldLink RX7 129 "SumNamesModel" "readSyls" "I", Cond.fieldLink RX7 39 "SumNamesModel" "readSyl" "[I", Cond.methodLink RX7 146 yX7_readsWord, Cond.instanceMethod yX7_readsWord, Cond.selects RX7 yX7_readsWord yX7_readsWord, Cond.code yX7_readsWord cX7_readsWord 4 (some .boolean), Cond.fieldLink RX7 27 "SumNamesModel" "readWord" "[J"]
def wsX7_readsRest : List Cond := .code yX7_readsRest cX7_readsRest 4 (some .boolean) :: ((wsX7_readsRest_r1 ++ wsX7_readsRest_r2) ++ wsX70)
def wsX7_readsLine_r1 : List Cond := [Cond.fieldLink RX7 132 "SumNamesModel" "readPersons" "I", Cond.fieldLink RX7 153 "SumNamesModel" "readHopes" "I", Cond.fieldLink RX7 24 "SumNamesModel" "read" "[I", Cond.fieldLink RX7 113 "SumNamesModel" "readMany" "I", Cond.fieldLink RX7 129 "SumNamesModel" "readSyls" "I", Cond.methodLink RX7 149 yX7_wordOf, Cond.instanceMethod yX7_wordOf, Cond.selects RX7 yX7_wordOf yX7_wordOf, Cond.initialized RX7, Cond.code yX7_wordOf cX7_wordOf 1 (some .int), Cond.constantLong RX7 93 (609898668), Cond.constantLong RX7 99 (13107), Cond.constantLong RX7 101 (21612838), Cond.constantLong RX7 103 (4596995), Cond.constantLong RX7 105 (405539), Cond.constantLong RX7 107 (180712), Cond.constantLong RX7 109 (20574706852), Cond.constantLong RX7 111 (676579814), Cond.methodLink RX7 95 yX7_isWord, Cond.instanceMethod yX7_isWord, Cond.selects RX7 yX7_isWord yX7_isWord, Cond.code yX7_isWord cX7_isWord 6 (some .boolean), Cond.fieldLink RX7 88 "SumNamesModel" "end" "I", Cond.fieldLink RX7 81 "SumNamesModel" "place" "I"]
def wsX7_readsLine_r2 : List Cond := [Cond.fieldLink RX7 21 "SumNamesModel" "text" "[I", Cond.constantLong RX7 91 (31), Cond.methodLink RX7 116 yX7_token, Cond.instanceMethod yX7_token, Cond.selects RX7 yX7_token yX7_token, Cond.code yX7_token cX7_token 1 none, Cond.fieldLink RX7 78 "SumNamesModel" "at" "I", Cond.fieldLink RX7 72 "SumNamesModel" "length" "I", Cond.methodLink RX7 84 yX7_sort, Cond.static yX7_sort, Cond.code yX7_sort cX7_sort 1 (some .int), Cond.methodLink RX7 156 yX7_readsRest, Cond.instanceMethod yX7_readsRest, Cond.selects RX7 yX7_readsRest yX7_readsRest, Cond.code yX7_readsRest cX7_readsRest 4 (some .boolean), Cond.methodLink RX7 135 yX7_readsLetter, Cond.instanceMethod yX7_readsLetter, Cond.selects RX7 yX7_readsLetter yX7_readsLetter, Cond.code yX7_readsLetter cX7_readsLetter 3 (some .boolean), Cond.constantLong RX7 119 (-1), Cond.methodLink RX7 125 yX7_codeHere, Cond.instanceMethod yX7_codeHere, Cond.selects RX7 yX7_codeHere yX7_codeHere, Cond.code yX7_codeHere cX7_codeHere 5 (some .long)]
def wsX7_readsLine_r3 : List Cond := [Cond.constantLong RX7 121 (27), Cond.constantLong RX7 123 (96), Cond.methodLink RX7 139 yX7_reads, Cond.instanceMethod yX7_reads, Cond.selects RX7 yX7_reads yX7_reads, Cond.code yX7_reads cX7_reads 7 (some .boolean), Cond.methodLink RX7 68 yX7_in, Cond.static yX7_in, Cond.code yX7_in cX7_in 6 (some .boolean), Cond.methodLink RX7 143 yX7_readsSyl, Cond.instanceMethod yX7_readsSyl, Cond.selects RX7 yX7_readsSyl yX7_readsSyl, Cond.code yX7_readsSyl cX7_readsSyl 5 (some .boolean), Cond.fieldLink RX7 39 "SumNamesModel" "readSyl" "[I", Cond.methodLink RX7 146 yX7_readsWord, Cond.instanceMethod yX7_readsWord, Cond.selects RX7 yX7_readsWord yX7_readsWord, Cond.code yX7_readsWord cX7_readsWord 4 (some .boolean), Cond.fieldLink RX7 27 "SumNamesModel" "readWord" "[J"]
def wsX7_readsLine : List Cond := .code yX7_readsLine cX7_readsLine 3 (some .boolean) :: ((wsX7_readsLine_r1 ++ (wsX7_readsLine_r2 ++ wsX7_readsLine_r3)) ++ wsX70)
def wsX7_fault_r1 : List Cond := [Cond.fieldLink RX7 78 "SumNamesModel" "at" "I", Cond.fieldLink RX7 113 "SumNamesModel" "readMany" "I", Cond.fieldLink RX7 7 "SumNamesModel" "row" "[I", Cond.fieldLink RX7 132 "SumNamesModel" "readPersons" "I", Cond.fieldLink RX7 153 "SumNamesModel" "readHopes" "I", Cond.fieldLink RX7 129 "SumNamesModel" "readSyls" "I", Cond.fieldLink RX7 39 "SumNamesModel" "readSyl" "[I", Cond.fieldLink RX7 81 "SumNamesModel" "place" "I", Cond.fieldLink RX7 72 "SumNamesModel" "length" "I", Cond.fieldLink RX7 88 "SumNamesModel" "end" "I", Cond.fieldLink RX7 21 "SumNamesModel" "text" "[I", Cond.methodLink RX7 116 yX7_token, Cond.instanceMethod yX7_token, Cond.selects RX7 yX7_token yX7_token, Cond.initialized RX7, Cond.code yX7_token cX7_token 1 none, Cond.methodLink RX7 84 yX7_sort, Cond.static yX7_sort, Cond.code yX7_sort cX7_sort 1 (some .int), Cond.methodLink RX7 160 yX7_readsLine, Cond.instanceMethod yX7_readsLine, Cond.selects RX7 yX7_readsLine yX7_readsLine, Cond.code yX7_readsLine cX7_readsLine 3 (some .boolean), Cond.fieldLink RX7 24 "SumNamesModel" "read" "[I"]
def wsX7_fault_r2 : List Cond := [Cond.methodLink RX7 149 yX7_wordOf, Cond.instanceMethod yX7_wordOf, Cond.selects RX7 yX7_wordOf yX7_wordOf, Cond.code yX7_wordOf cX7_wordOf 1 (some .int), Cond.constantLong RX7 93 (609898668), Cond.constantLong RX7 99 (13107), Cond.constantLong RX7 101 (21612838), Cond.constantLong RX7 103 (4596995), Cond.constantLong RX7 105 (405539), Cond.constantLong RX7 107 (180712), Cond.constantLong RX7 109 (20574706852), Cond.constantLong RX7 111 (676579814), Cond.methodLink RX7 95 yX7_isWord, Cond.instanceMethod yX7_isWord, Cond.selects RX7 yX7_isWord yX7_isWord, Cond.code yX7_isWord cX7_isWord 6 (some .boolean), Cond.constantLong RX7 91 (31), Cond.methodLink RX7 156 yX7_readsRest, Cond.instanceMethod yX7_readsRest, Cond.selects RX7 yX7_readsRest yX7_readsRest, Cond.code yX7_readsRest cX7_readsRest 4 (some .boolean), Cond.methodLink RX7 135 yX7_readsLetter, Cond.instanceMethod yX7_readsLetter, Cond.selects RX7 yX7_readsLetter yX7_readsLetter]
def wsX7_fault_r3 : List Cond := [Cond.code yX7_readsLetter cX7_readsLetter 3 (some .boolean), Cond.constantLong RX7 119 (-1), Cond.methodLink RX7 125 yX7_codeHere, Cond.instanceMethod yX7_codeHere, Cond.selects RX7 yX7_codeHere yX7_codeHere, Cond.code yX7_codeHere cX7_codeHere 5 (some .long), Cond.constantLong RX7 121 (27), Cond.constantLong RX7 123 (96), Cond.methodLink RX7 139 yX7_reads, Cond.instanceMethod yX7_reads, Cond.selects RX7 yX7_reads yX7_reads, Cond.code yX7_reads cX7_reads 7 (some .boolean), Cond.methodLink RX7 68 yX7_in, Cond.static yX7_in, Cond.code yX7_in cX7_in 6 (some .boolean), Cond.methodLink RX7 143 yX7_readsSyl, Cond.instanceMethod yX7_readsSyl, Cond.selects RX7 yX7_readsSyl yX7_readsSyl, Cond.code yX7_readsSyl cX7_readsSyl 5 (some .boolean), Cond.methodLink RX7 146 yX7_readsWord, Cond.instanceMethod yX7_readsWord, Cond.selects RX7 yX7_readsWord yX7_readsWord, Cond.code yX7_readsWord cX7_readsWord 4 (some .boolean), Cond.fieldLink RX7 27 "SumNamesModel" "readWord" "[J"]
def wsX7_fault : List Cond := .code yX7_fault cX7_fault 2 (some .int) :: ((wsX7_fault_r1 ++ (wsX7_fault_r2 ++ wsX7_fault_r3)) ++ wsX70)
def wsX7_bear : List Cond := .code yX7_bear cX7_bear 7 none :: ([.fieldLink RX7 7 "SumNamesModel" "row" "[I", .fieldLink RX7 13 "SumNamesModel" "words" "[J"] ++ wsX70)
def wsX7_hopeFor : List Cond := .code yX7_hopeFor cX7_hopeFor 3 none :: ([.fieldLink RX7 7 "SumNamesModel" "row" "[I"] ++ wsX70)
def wsX7_tell : List Cond := .code yX7_tell cX7_tell 4 none :: ([.fieldLink RX7 24 "SumNamesModel" "read" "[I", .fieldLink RX7 7 "SumNamesModel" "row" "[I", .fieldLink RX7 27 "SumNamesModel" "readWord" "[J", .fieldLink RX7 13 "SumNamesModel" "words" "[J", .methodLink RX7 163 yX7_bear, .instanceMethod yX7_bear, .selects RX7 yX7_bear yX7_bear, .initialized RX7, .code yX7_bear cX7_bear 7 none, .methodLink RX7 167 yX7_hopeFor, .instanceMethod yX7_hopeFor, .selects RX7 yX7_hopeFor yX7_hopeFor, .code yX7_hopeFor cX7_hopeFor 3 none] ++ wsX70)
def wsX7_told_r1 : List Cond := [Cond.fieldLink RX7 113 "SumNamesModel" "readMany" "I", Cond.fieldLink RX7 72 "SumNamesModel" "length" "I", Cond.methodLink RX7 171 yX7_fault, Cond.instanceMethod yX7_fault, Cond.selects RX7 yX7_fault yX7_fault, Cond.initialized RX7, Cond.code yX7_fault cX7_fault 2 (some .int), Cond.fieldLink RX7 78 "SumNamesModel" "at" "I", Cond.fieldLink RX7 7 "SumNamesModel" "row" "[I", Cond.fieldLink RX7 132 "SumNamesModel" "readPersons" "I", Cond.fieldLink RX7 153 "SumNamesModel" "readHopes" "I", Cond.fieldLink RX7 129 "SumNamesModel" "readSyls" "I", Cond.fieldLink RX7 39 "SumNamesModel" "readSyl" "[I", Cond.fieldLink RX7 81 "SumNamesModel" "place" "I", Cond.fieldLink RX7 88 "SumNamesModel" "end" "I", Cond.fieldLink RX7 21 "SumNamesModel" "text" "[I", Cond.methodLink RX7 116 yX7_token, Cond.instanceMethod yX7_token, Cond.selects RX7 yX7_token yX7_token, Cond.code yX7_token cX7_token 1 none, Cond.methodLink RX7 84 yX7_sort, Cond.static yX7_sort, Cond.code yX7_sort cX7_sort 1 (some .int), Cond.methodLink RX7 160 yX7_readsLine]
def wsX7_told_r2 : List Cond := [Cond.instanceMethod yX7_readsLine, Cond.selects RX7 yX7_readsLine yX7_readsLine, Cond.code yX7_readsLine cX7_readsLine 3 (some .boolean), Cond.fieldLink RX7 24 "SumNamesModel" "read" "[I", Cond.methodLink RX7 149 yX7_wordOf, Cond.instanceMethod yX7_wordOf, Cond.selects RX7 yX7_wordOf yX7_wordOf, Cond.code yX7_wordOf cX7_wordOf 1 (some .int), Cond.constantLong RX7 93 (609898668), Cond.constantLong RX7 99 (13107), Cond.constantLong RX7 101 (21612838), Cond.constantLong RX7 103 (4596995), Cond.constantLong RX7 105 (405539), Cond.constantLong RX7 107 (180712), Cond.constantLong RX7 109 (20574706852), Cond.constantLong RX7 111 (676579814), Cond.methodLink RX7 95 yX7_isWord, Cond.instanceMethod yX7_isWord, Cond.selects RX7 yX7_isWord yX7_isWord, Cond.code yX7_isWord cX7_isWord 6 (some .boolean), Cond.constantLong RX7 91 (31), Cond.methodLink RX7 156 yX7_readsRest, Cond.instanceMethod yX7_readsRest, Cond.selects RX7 yX7_readsRest yX7_readsRest]
def wsX7_told_r3 : List Cond := [Cond.code yX7_readsRest cX7_readsRest 4 (some .boolean), Cond.methodLink RX7 135 yX7_readsLetter, Cond.instanceMethod yX7_readsLetter, Cond.selects RX7 yX7_readsLetter yX7_readsLetter, Cond.code yX7_readsLetter cX7_readsLetter 3 (some .boolean), Cond.constantLong RX7 119 (-1), Cond.methodLink RX7 125 yX7_codeHere, Cond.instanceMethod yX7_codeHere, Cond.selects RX7 yX7_codeHere yX7_codeHere, Cond.code yX7_codeHere cX7_codeHere 5 (some .long), Cond.constantLong RX7 121 (27), Cond.constantLong RX7 123 (96), Cond.methodLink RX7 139 yX7_reads, Cond.instanceMethod yX7_reads, Cond.selects RX7 yX7_reads yX7_reads, Cond.code yX7_reads cX7_reads 7 (some .boolean), Cond.methodLink RX7 68 yX7_in, Cond.static yX7_in, Cond.code yX7_in cX7_in 6 (some .boolean), Cond.methodLink RX7 143 yX7_readsSyl, Cond.instanceMethod yX7_readsSyl, Cond.selects RX7 yX7_readsSyl yX7_readsSyl, Cond.code yX7_readsSyl cX7_readsSyl 5 (some .boolean), Cond.methodLink RX7 146 yX7_readsWord]
def wsX7_told_r4 : List Cond := [Cond.instanceMethod yX7_readsWord, Cond.selects RX7 yX7_readsWord yX7_readsWord, Cond.code yX7_readsWord cX7_readsWord 4 (some .boolean), Cond.fieldLink RX7 27 "SumNamesModel" "readWord" "[J", Cond.methodLink RX7 174 yX7_tell, Cond.instanceMethod yX7_tell, Cond.selects RX7 yX7_tell yX7_tell, Cond.code yX7_tell cX7_tell 4 none, Cond.fieldLink RX7 13 "SumNamesModel" "words" "[J", Cond.methodLink RX7 163 yX7_bear, Cond.instanceMethod yX7_bear, Cond.selects RX7 yX7_bear yX7_bear, Cond.code yX7_bear cX7_bear 7 none, Cond.methodLink RX7 167 yX7_hopeFor, Cond.instanceMethod yX7_hopeFor, Cond.selects RX7 yX7_hopeFor yX7_hopeFor, Cond.code yX7_hopeFor cX7_hopeFor 3 none]
def wsX7_told : List Cond := .code yX7_told cX7_told 2 (some .int) :: ((wsX7_told_r1 ++ (wsX7_told_r2 ++ (wsX7_told_r3 ++ wsX7_told_r4))) ++ wsX70)
def wsX7_letter : List Cond := .code yX7_letter cX7_letter 2 (some .int) :: ([.constantLong RX7 178 (25), .fieldLink RX7 7 "SumNamesModel" "row" "[I", .methodLink RX7 68 yX7_in, .static yX7_in, .initialized RX7, .code yX7_in cX7_in 6 (some .boolean)] ++ wsX70)
def wsX7_isPerson : List Cond := .code yX7_isPerson cX7_isPerson 2 (some .boolean) :: ([.fieldLink RX7 7 "SumNamesModel" "row" "[I", .methodLink RX7 68 yX7_in, .static yX7_in, .initialized RX7, .code yX7_in cX7_in 6 (some .boolean)] ++ wsX70)
def wsX7_kindOf : List Cond := .code yX7_kindOf cX7_kindOf 6 (some .int) :: ([.fieldLink RX7 7 "SumNamesModel" "row" "[I"] ++ wsX70)
def wsX7_areNext : List Cond := .code yX7_areNext cX7_areNext 3 (some .boolean) :: ([.fieldLink RX7 7 "SumNamesModel" "row" "[I"] ++ wsX70)
def wsX7_layFar : List Cond := .code yX7_layFar cX7_layFar 6 none :: ([.fieldLink RX7 42 "SumNamesModel" "far" "[I", .fieldLink RX7 7 "SumNamesModel" "row" "[I", .methodLink RX7 180 yX7_areNext, .instanceMethod yX7_areNext, .selects RX7 yX7_areNext yX7_areNext, .initialized RX7, .code yX7_areNext cX7_areNext 3 (some .boolean)] ++ wsX70)
def wsX7_within : List Cond := .code yX7_within cX7_within 5 (some .int) :: ([.fieldLink RX7 7 "SumNamesModel" "row" "[I", .fieldLink RX7 42 "SumNamesModel" "far" "[I", .methodLink RX7 184 yX7_layFar, .instanceMethod yX7_layFar, .selects RX7 yX7_layFar yX7_layFar, .initialized RX7, .code yX7_layFar cX7_layFar 6 none, .methodLink RX7 180 yX7_areNext, .instanceMethod yX7_areNext, .selects RX7 yX7_areNext yX7_areNext, .code yX7_areNext cX7_areNext 3 (some .boolean)] ++ wsX70)
def wsX7_near : List Cond := .code yX7_near cX7_near 2 (some .int) :: ([.fieldLink RX7 7 "SumNamesModel" "row" "[I", .methodLink RX7 187 yX7_within, .instanceMethod yX7_within, .selects RX7 yX7_within yX7_within, .initialized RX7, .code yX7_within cX7_within 5 (some .int), .fieldLink RX7 42 "SumNamesModel" "far" "[I", .methodLink RX7 184 yX7_layFar, .instanceMethod yX7_layFar, .selects RX7 yX7_layFar yX7_layFar, .code yX7_layFar cX7_layFar 6 none, .methodLink RX7 180 yX7_areNext, .instanceMethod yX7_areNext, .selects RX7 yX7_areNext yX7_areNext, .code yX7_areNext cX7_areNext 3 (some .boolean)] ++ wsX70)
def wsX7_bits : List Cond := .code yX7_bits cX7_bits 3 (some .int) :: ([])
def wsX7_person_r1 : List Cond := [Cond.fieldLink RX7 7 "SumNamesModel" "row" "[I", Cond.methodLink RX7 191 yX7_isPerson, Cond.instanceMethod yX7_isPerson, Cond.selects RX7 yX7_isPerson yX7_isPerson, Cond.initialized RX7, Cond.code yX7_isPerson cX7_isPerson 2 (some .boolean), Cond.methodLink RX7 68 yX7_in, Cond.static yX7_in, Cond.code yX7_in cX7_in 6 (some .boolean), Cond.methodLink RX7 194 yX7_kindOf, Cond.instanceMethod yX7_kindOf, Cond.selects RX7 yX7_kindOf yX7_kindOf, Cond.code yX7_kindOf cX7_kindOf 6 (some .int), Cond.methodLink RX7 197 yX7_near, Cond.instanceMethod yX7_near, Cond.selects RX7 yX7_near yX7_near, Cond.code yX7_near cX7_near 2 (some .int), Cond.methodLink RX7 187 yX7_within, Cond.instanceMethod yX7_within, Cond.selects RX7 yX7_within yX7_within, Cond.code yX7_within cX7_within 5 (some .int), Cond.fieldLink RX7 42 "SumNamesModel" "far" "[I", Cond.methodLink RX7 184 yX7_layFar, Cond.instanceMethod yX7_layFar]
def wsX7_person_r2 : List Cond := [Cond.selects RX7 yX7_layFar yX7_layFar, Cond.code yX7_layFar cX7_layFar 6 none, Cond.methodLink RX7 180 yX7_areNext, Cond.instanceMethod yX7_areNext, Cond.selects RX7 yX7_areNext yX7_areNext, Cond.code yX7_areNext cX7_areNext 3 (some .boolean)]
def wsX7_person : List Cond := .code yX7_person cX7_person 3 (some .int) :: ((wsX7_person_r1 ++ wsX7_person_r2) ++ wsX70)
def wsX7_called : List Cond := .code yX7_called cX7_called 2 (some .long) :: ([.fieldLink RX7 13 "SumNamesModel" "words" "[J", .constantLong RX7 200 (-2), .methodLink RX7 191 yX7_isPerson, .instanceMethod yX7_isPerson, .selects RX7 yX7_isPerson yX7_isPerson, .initialized RX7, .code yX7_isPerson cX7_isPerson 2 (some .boolean), .fieldLink RX7 7 "SumNamesModel" "row" "[I", .methodLink RX7 68 yX7_in, .static yX7_in, .code yX7_in cX7_in 6 (some .boolean)] ++ wsX70)
def wsX7_degrees : List Cond := .code yX7_degrees cX7_degrees 3 (some .int) :: ([.fieldLink RX7 42 "SumNamesModel" "far" "[I", .methodLink RX7 191 yX7_isPerson, .instanceMethod yX7_isPerson, .selects RX7 yX7_isPerson yX7_isPerson, .initialized RX7, .code yX7_isPerson cX7_isPerson 2 (some .boolean), .fieldLink RX7 7 "SumNamesModel" "row" "[I", .methodLink RX7 68 yX7_in, .static yX7_in, .code yX7_in cX7_in 6 (some .boolean), .methodLink RX7 184 yX7_layFar, .instanceMethod yX7_layFar, .selects RX7 yX7_layFar yX7_layFar, .code yX7_layFar cX7_layFar 6 none, .methodLink RX7 180 yX7_areNext, .instanceMethod yX7_areNext, .selects RX7 yX7_areNext yX7_areNext, .code yX7_areNext cX7_areNext 3 (some .boolean)] ++ wsX70)
def wsX7_as_r1 : List Cond := [Cond.constantLong RX7 202 (3), Cond.methodLink RX7 191 yX7_isPerson, Cond.instanceMethod yX7_isPerson, Cond.selects RX7 yX7_isPerson yX7_isPerson, Cond.initialized RX7, Cond.code yX7_isPerson cX7_isPerson 2 (some .boolean), Cond.fieldLink RX7 7 "SumNamesModel" "row" "[I", Cond.methodLink RX7 68 yX7_in, Cond.static yX7_in, Cond.code yX7_in cX7_in 6 (some .boolean), Cond.methodLink RX7 194 yX7_kindOf, Cond.instanceMethod yX7_kindOf, Cond.selects RX7 yX7_kindOf yX7_kindOf, Cond.code yX7_kindOf cX7_kindOf 6 (some .int), Cond.methodLink RX7 197 yX7_near, Cond.instanceMethod yX7_near, Cond.selects RX7 yX7_near yX7_near, Cond.code yX7_near cX7_near 2 (some .int), Cond.methodLink RX7 187 yX7_within, Cond.instanceMethod yX7_within, Cond.selects RX7 yX7_within yX7_within, Cond.code yX7_within cX7_within 5 (some .int), Cond.fieldLink RX7 42 "SumNamesModel" "far" "[I", Cond.methodLink RX7 184 yX7_layFar]
def wsX7_as_r2 : List Cond := [Cond.instanceMethod yX7_layFar, Cond.selects RX7 yX7_layFar yX7_layFar, Cond.code yX7_layFar cX7_layFar 6 none, Cond.methodLink RX7 180 yX7_areNext, Cond.instanceMethod yX7_areNext, Cond.selects RX7 yX7_areNext yX7_areNext, Cond.code yX7_areNext cX7_areNext 3 (some .boolean), Cond.methodLink RX7 204 yX7_bits, Cond.static yX7_bits, Cond.code yX7_bits cX7_bits 3 (some .int)]
def wsX7_as : List Cond := .code yX7_as cX7_as 5 (some .int) :: ((wsX7_as_r1 ++ wsX7_as_r2) ++ wsX70)
def wsX7_lettersOf : List Cond := .code yX7_lettersOf cX7_lettersOf 5 (some .int) :: ([.constantLong RX7 121 (27)])
def wsX7_isCode : List Cond := .code yX7_isCode cX7_isCode 5 (some .boolean) :: ([.constantLong RX7 121 (27), .methodLink RX7 207 yX7_lettersOf, .static yX7_lettersOf, .initialized RX7, .code yX7_lettersOf cX7_lettersOf 5 (some .int)])
def wsX7_sumOf : List Cond := .code yX7_sumOf cX7_sumOf 6 (some .int) :: ([.fieldLink RX7 7 "SumNamesModel" "row" "[I", .constantLong RX7 121 (27)] ++ wsX70)
def wsX7_isBare : List Cond := .code yX7_isBare cX7_isBare 6 (some .boolean) :: ([.fieldLink RX7 7 "SumNamesModel" "row" "[I", .constantLong RX7 121 (27)] ++ wsX70)
def wsX7_joined : List Cond := .code yX7_joined cX7_joined 7 (some .long) :: ([.constantLong RX7 121 (27), .methodLink RX7 207 yX7_lettersOf, .static yX7_lettersOf, .initialized RX7, .code yX7_lettersOf cX7_lettersOf 5 (some .int)])
def wsX7_addName : List Cond := .code yX7_addName cX7_addName 5 none :: ([.fieldLink RX7 211 "SumNamesModel" "nameMany" "I", .fieldLink RX7 45 "SumNamesModel" "names" "[J"] ++ wsX70)
def wsX7_layNames : List Cond := .code yX7_layNames cX7_layNames 9 none :: ([.fieldLink RX7 211 "SumNamesModel" "nameMany" "I", .fieldLink RX7 7 "SumNamesModel" "row" "[I", .methodLink RX7 214 yX7_isBare, .instanceMethod yX7_isBare, .selects RX7 yX7_isBare yX7_isBare, .initialized RX7, .code yX7_isBare cX7_isBare 6 (some .boolean), .constantLong RX7 121 (27), .methodLink RX7 218 yX7_addName, .instanceMethod yX7_addName, .selects RX7 yX7_addName yX7_addName, .code yX7_addName cX7_addName 5 none, .fieldLink RX7 45 "SumNamesModel" "names" "[J", .methodLink RX7 222 yX7_joined, .static yX7_joined, .code yX7_joined cX7_joined 7 (some .long), .methodLink RX7 207 yX7_lettersOf, .static yX7_lettersOf, .code yX7_lettersOf cX7_lettersOf 5 (some .int)] ++ wsX70)
def wsX7_isName : List Cond := .code yX7_isName cX7_isName 10 (some .boolean) :: ([.fieldLink RX7 7 "SumNamesModel" "row" "[I", .methodLink RX7 214 yX7_isBare, .instanceMethod yX7_isBare, .selects RX7 yX7_isBare yX7_isBare, .initialized RX7, .code yX7_isBare cX7_isBare 6 (some .boolean), .constantLong RX7 121 (27), .methodLink RX7 222 yX7_joined, .static yX7_joined, .code yX7_joined cX7_joined 7 (some .long), .methodLink RX7 207 yX7_lettersOf, .static yX7_lettersOf, .code yX7_lettersOf cX7_lettersOf 5 (some .int)] ++ wsX70)
def wsX7_sum : List Cond := .code yX7_sum cX7_sum 3 (some .int) :: ([.methodLink RX7 226 yX7_isCode, .static yX7_isCode, .initialized RX7, .code yX7_isCode cX7_isCode 5 (some .boolean), .constantLong RX7 121 (27), .methodLink RX7 207 yX7_lettersOf, .static yX7_lettersOf, .code yX7_lettersOf cX7_lettersOf 5 (some .int), .methodLink RX7 229 yX7_sumOf, .instanceMethod yX7_sumOf, .selects RX7 yX7_sumOf yX7_sumOf, .code yX7_sumOf cX7_sumOf 6 (some .int), .fieldLink RX7 7 "SumNamesModel" "row" "[I"] ++ wsX70)
def wsX7_name : List Cond := .code yX7_name cX7_name 3 (some .int) :: ([.methodLink RX7 226 yX7_isCode, .static yX7_isCode, .initialized RX7, .code yX7_isCode cX7_isCode 5 (some .boolean), .constantLong RX7 121 (27), .methodLink RX7 207 yX7_lettersOf, .static yX7_lettersOf, .code yX7_lettersOf cX7_lettersOf 5 (some .int), .methodLink RX7 232 yX7_isName, .instanceMethod yX7_isName, .selects RX7 yX7_isName yX7_isName, .code yX7_isName cX7_isName 10 (some .boolean), .fieldLink RX7 7 "SumNamesModel" "row" "[I", .methodLink RX7 214 yX7_isBare, .instanceMethod yX7_isBare, .selects RX7 yX7_isBare yX7_isBare, .code yX7_isBare cX7_isBare 6 (some .boolean), .methodLink RX7 222 yX7_joined, .static yX7_joined, .code yX7_joined cX7_joined 7 (some .long)] ++ wsX70)
def wsX7_takerOf : List Cond := .code yX7_takerOf cX7_takerOf 4 (some .int) :: ([.fieldLink RX7 7 "SumNamesModel" "row" "[I", .fieldLink RX7 13 "SumNamesModel" "words" "[J", .methodLink RX7 197 yX7_near, .instanceMethod yX7_near, .selects RX7 yX7_near yX7_near, .initialized RX7, .code yX7_near cX7_near 2 (some .int), .methodLink RX7 187 yX7_within, .instanceMethod yX7_within, .selects RX7 yX7_within yX7_within, .code yX7_within cX7_within 5 (some .int), .fieldLink RX7 42 "SumNamesModel" "far" "[I", .methodLink RX7 184 yX7_layFar, .instanceMethod yX7_layFar, .selects RX7 yX7_layFar yX7_layFar, .code yX7_layFar cX7_layFar 6 none, .methodLink RX7 180 yX7_areNext, .instanceMethod yX7_areNext, .selects RX7 yX7_areNext yX7_areNext, .code yX7_areNext cX7_areNext 3 (some .boolean), .methodLink RX7 235 yX7_has, .static yX7_has, .code yX7_has cX7_has 2 (some .boolean)] ++ wsX70)
def wsX7_judge_r1 : List Cond := [Cond.fieldLink RX7 13 "SumNamesModel" "words" "[J", Cond.fieldLink RX7 7 "SumNamesModel" "row" "[I", Cond.methodLink RX7 191 yX7_isPerson, Cond.instanceMethod yX7_isPerson, Cond.selects RX7 yX7_isPerson yX7_isPerson, Cond.initialized RX7, Cond.code yX7_isPerson cX7_isPerson 2 (some .boolean), Cond.methodLink RX7 68 yX7_in, Cond.static yX7_in, Cond.code yX7_in cX7_in 6 (some .boolean), Cond.methodLink RX7 232 yX7_isName, Cond.instanceMethod yX7_isName, Cond.selects RX7 yX7_isName yX7_isName, Cond.code yX7_isName cX7_isName 10 (some .boolean), Cond.methodLink RX7 214 yX7_isBare, Cond.instanceMethod yX7_isBare, Cond.selects RX7 yX7_isBare yX7_isBare, Cond.code yX7_isBare cX7_isBare 6 (some .boolean), Cond.constantLong RX7 121 (27), Cond.methodLink RX7 222 yX7_joined, Cond.static yX7_joined, Cond.code yX7_joined cX7_joined 7 (some .long), Cond.methodLink RX7 207 yX7_lettersOf, Cond.static yX7_lettersOf]
def wsX7_judge_r2 : List Cond := [Cond.code yX7_lettersOf cX7_lettersOf 5 (some .int), Cond.methodLink RX7 229 yX7_sumOf, Cond.instanceMethod yX7_sumOf, Cond.selects RX7 yX7_sumOf yX7_sumOf, Cond.code yX7_sumOf cX7_sumOf 6 (some .int), Cond.methodLink RX7 238 yX7_takerOf, Cond.instanceMethod yX7_takerOf, Cond.selects RX7 yX7_takerOf yX7_takerOf, Cond.code yX7_takerOf cX7_takerOf 4 (some .int), Cond.methodLink RX7 197 yX7_near, Cond.instanceMethod yX7_near, Cond.selects RX7 yX7_near yX7_near, Cond.code yX7_near cX7_near 2 (some .int), Cond.methodLink RX7 187 yX7_within, Cond.instanceMethod yX7_within, Cond.selects RX7 yX7_within yX7_within, Cond.code yX7_within cX7_within 5 (some .int), Cond.fieldLink RX7 42 "SumNamesModel" "far" "[I", Cond.methodLink RX7 184 yX7_layFar, Cond.instanceMethod yX7_layFar, Cond.selects RX7 yX7_layFar yX7_layFar, Cond.code yX7_layFar cX7_layFar 6 none, Cond.methodLink RX7 180 yX7_areNext, Cond.instanceMethod yX7_areNext]
def wsX7_judge_r3 : List Cond := [Cond.selects RX7 yX7_areNext yX7_areNext, Cond.code yX7_areNext cX7_areNext 3 (some .boolean), Cond.methodLink RX7 235 yX7_has, Cond.static yX7_has, Cond.code yX7_has cX7_has 2 (some .boolean)]
def wsX7_judge : List Cond := .code yX7_judge cX7_judge 2 (some .int) :: ((wsX7_judge_r1 ++ (wsX7_judge_r2 ++ wsX7_judge_r3)) ++ wsX70)
def wsX7_taker_r1 : List Cond := [Cond.methodLink RX7 191 yX7_isPerson, Cond.instanceMethod yX7_isPerson, Cond.selects RX7 yX7_isPerson yX7_isPerson, Cond.initialized RX7, Cond.code yX7_isPerson cX7_isPerson 2 (some .boolean), Cond.fieldLink RX7 7 "SumNamesModel" "row" "[I", Cond.methodLink RX7 68 yX7_in, Cond.static yX7_in, Cond.code yX7_in cX7_in 6 (some .boolean), Cond.methodLink RX7 241 yX7_judge, Cond.instanceMethod yX7_judge, Cond.selects RX7 yX7_judge yX7_judge, Cond.code yX7_judge cX7_judge 2 (some .int), Cond.fieldLink RX7 13 "SumNamesModel" "words" "[J", Cond.methodLink RX7 232 yX7_isName, Cond.instanceMethod yX7_isName, Cond.selects RX7 yX7_isName yX7_isName, Cond.code yX7_isName cX7_isName 10 (some .boolean), Cond.methodLink RX7 214 yX7_isBare, Cond.instanceMethod yX7_isBare, Cond.selects RX7 yX7_isBare yX7_isBare, Cond.code yX7_isBare cX7_isBare 6 (some .boolean), Cond.constantLong RX7 121 (27), Cond.methodLink RX7 222 yX7_joined]
def wsX7_taker_r2 : List Cond := [Cond.static yX7_joined, Cond.code yX7_joined cX7_joined 7 (some .long), Cond.methodLink RX7 207 yX7_lettersOf, Cond.static yX7_lettersOf, Cond.code yX7_lettersOf cX7_lettersOf 5 (some .int), Cond.methodLink RX7 229 yX7_sumOf, Cond.instanceMethod yX7_sumOf, Cond.selects RX7 yX7_sumOf yX7_sumOf, Cond.code yX7_sumOf cX7_sumOf 6 (some .int), Cond.methodLink RX7 238 yX7_takerOf, Cond.instanceMethod yX7_takerOf, Cond.selects RX7 yX7_takerOf yX7_takerOf, Cond.code yX7_takerOf cX7_takerOf 4 (some .int), Cond.methodLink RX7 197 yX7_near, Cond.instanceMethod yX7_near, Cond.selects RX7 yX7_near yX7_near, Cond.code yX7_near cX7_near 2 (some .int), Cond.methodLink RX7 187 yX7_within, Cond.instanceMethod yX7_within, Cond.selects RX7 yX7_within yX7_within, Cond.code yX7_within cX7_within 5 (some .int), Cond.fieldLink RX7 42 "SumNamesModel" "far" "[I", Cond.methodLink RX7 184 yX7_layFar, Cond.instanceMethod yX7_layFar]
def wsX7_taker_r3 : List Cond := [Cond.selects RX7 yX7_layFar yX7_layFar, Cond.code yX7_layFar cX7_layFar 6 none, Cond.methodLink RX7 180 yX7_areNext, Cond.instanceMethod yX7_areNext, Cond.selects RX7 yX7_areNext yX7_areNext, Cond.code yX7_areNext cX7_areNext 3 (some .boolean), Cond.methodLink RX7 235 yX7_has, Cond.static yX7_has, Cond.code yX7_has cX7_has 2 (some .boolean)]
def wsX7_taker : List Cond := .code yX7_taker cX7_taker 2 (some .int) :: ((wsX7_taker_r1 ++ (wsX7_taker_r2 ++ wsX7_taker_r3)) ++ wsX70)
def wsX7_isDay : List Cond := .code yX7_isDay cX7_isDay 1 (some .boolean) :: ([.constantLong RX7 244 (400), .methodLink RX7 68 yX7_in, .static yX7_in, .initialized RX7, .code yX7_in cX7_in 6 (some .boolean)])
def wsX7_names_r1 : List Cond := [Cond.constantLong RX7 249 (9), Cond.fieldLink RX7 211 "SumNamesModel" "nameMany" "I", Cond.fieldLink RX7 45 "SumNamesModel" "names" "[J", Cond.methodLink RX7 246 yX7_isDay, Cond.static yX7_isDay, Cond.initialized RX7, Cond.code yX7_isDay cX7_isDay 1 (some .boolean), Cond.constantLong RX7 244 (400), Cond.methodLink RX7 68 yX7_in, Cond.static yX7_in, Cond.code yX7_in cX7_in 6 (some .boolean), Cond.methodLink RX7 251 yX7_layNames, Cond.instanceMethod yX7_layNames, Cond.selects RX7 yX7_layNames yX7_layNames, Cond.code yX7_layNames cX7_layNames 9 none, Cond.fieldLink RX7 7 "SumNamesModel" "row" "[I", Cond.methodLink RX7 214 yX7_isBare, Cond.instanceMethod yX7_isBare, Cond.selects RX7 yX7_isBare yX7_isBare, Cond.code yX7_isBare cX7_isBare 6 (some .boolean), Cond.constantLong RX7 121 (27), Cond.methodLink RX7 218 yX7_addName, Cond.instanceMethod yX7_addName, Cond.selects RX7 yX7_addName yX7_addName]
def wsX7_names_r2 : List Cond := [Cond.code yX7_addName cX7_addName 5 none, Cond.methodLink RX7 222 yX7_joined, Cond.static yX7_joined, Cond.code yX7_joined cX7_joined 7 (some .long), Cond.methodLink RX7 207 yX7_lettersOf, Cond.static yX7_lettersOf, Cond.code yX7_lettersOf cX7_lettersOf 5 (some .int), Cond.methodLink RX7 229 yX7_sumOf, Cond.instanceMethod yX7_sumOf, Cond.selects RX7 yX7_sumOf yX7_sumOf, Cond.code yX7_sumOf cX7_sumOf 6 (some .int)]
def wsX7_names : List Cond := .code yX7_names cX7_names 5 (some .int) :: ((wsX7_names_r1 ++ wsX7_names_r2) ++ wsX70)
def wsX7_which_r1 : List Cond := [Cond.constantLong RX7 254 (-3), Cond.fieldLink RX7 211 "SumNamesModel" "nameMany" "I", Cond.fieldLink RX7 45 "SumNamesModel" "names" "[J", Cond.constantLong RX7 119 (-1), Cond.methodLink RX7 246 yX7_isDay, Cond.static yX7_isDay, Cond.initialized RX7, Cond.code yX7_isDay cX7_isDay 1 (some .boolean), Cond.constantLong RX7 244 (400), Cond.methodLink RX7 68 yX7_in, Cond.static yX7_in, Cond.code yX7_in cX7_in 6 (some .boolean), Cond.methodLink RX7 251 yX7_layNames, Cond.instanceMethod yX7_layNames, Cond.selects RX7 yX7_layNames yX7_layNames, Cond.code yX7_layNames cX7_layNames 9 none, Cond.fieldLink RX7 7 "SumNamesModel" "row" "[I", Cond.methodLink RX7 214 yX7_isBare, Cond.instanceMethod yX7_isBare, Cond.selects RX7 yX7_isBare yX7_isBare, Cond.code yX7_isBare cX7_isBare 6 (some .boolean), Cond.constantLong RX7 121 (27), Cond.methodLink RX7 218 yX7_addName, Cond.instanceMethod yX7_addName]
def wsX7_which_r2 : List Cond := [Cond.selects RX7 yX7_addName yX7_addName, Cond.code yX7_addName cX7_addName 5 none, Cond.methodLink RX7 222 yX7_joined, Cond.static yX7_joined, Cond.code yX7_joined cX7_joined 7 (some .long), Cond.methodLink RX7 207 yX7_lettersOf, Cond.static yX7_lettersOf, Cond.code yX7_lettersOf cX7_lettersOf 5 (some .int), Cond.methodLink RX7 229 yX7_sumOf, Cond.instanceMethod yX7_sumOf, Cond.selects RX7 yX7_sumOf yX7_sumOf, Cond.code yX7_sumOf cX7_sumOf 6 (some .int)]
def wsX7_which : List Cond := .code yX7_which cX7_which 5 (some .long) :: ((wsX7_which_r1 ++ wsX7_which_r2) ++ wsX70)
def wsX7_isFree : List Cond := .code yX7_isFree cX7_isFree 6 (some .boolean) :: ([.fieldLink RX7 7 "SumNamesModel" "row" "[I", .fieldLink RX7 13 "SumNamesModel" "words" "[J", .methodLink RX7 235 yX7_has, .static yX7_has, .initialized RX7, .code yX7_has cX7_has 2 (some .boolean)] ++ wsX70)
def wsX7_free_r1 : List Cond := [Cond.constantLong RX7 200 (-2), Cond.constantLong RX7 254 (-3), Cond.fieldLink RX7 211 "SumNamesModel" "nameMany" "I", Cond.fieldLink RX7 45 "SumNamesModel" "names" "[J", Cond.fieldLink RX7 7 "SumNamesModel" "row" "[I", Cond.constantLong RX7 119 (-1), Cond.methodLink RX7 191 yX7_isPerson, Cond.instanceMethod yX7_isPerson, Cond.selects RX7 yX7_isPerson yX7_isPerson, Cond.initialized RX7, Cond.code yX7_isPerson cX7_isPerson 2 (some .boolean), Cond.methodLink RX7 68 yX7_in, Cond.static yX7_in, Cond.code yX7_in cX7_in 6 (some .boolean), Cond.methodLink RX7 251 yX7_layNames, Cond.instanceMethod yX7_layNames, Cond.selects RX7 yX7_layNames yX7_layNames, Cond.code yX7_layNames cX7_layNames 9 none, Cond.methodLink RX7 214 yX7_isBare, Cond.instanceMethod yX7_isBare, Cond.selects RX7 yX7_isBare yX7_isBare, Cond.code yX7_isBare cX7_isBare 6 (some .boolean), Cond.constantLong RX7 121 (27), Cond.methodLink RX7 218 yX7_addName]
def wsX7_free_r2 : List Cond := [Cond.instanceMethod yX7_addName, Cond.selects RX7 yX7_addName yX7_addName, Cond.code yX7_addName cX7_addName 5 none, Cond.methodLink RX7 222 yX7_joined, Cond.static yX7_joined, Cond.code yX7_joined cX7_joined 7 (some .long), Cond.methodLink RX7 207 yX7_lettersOf, Cond.static yX7_lettersOf, Cond.code yX7_lettersOf cX7_lettersOf 5 (some .int), Cond.methodLink RX7 197 yX7_near, Cond.instanceMethod yX7_near, Cond.selects RX7 yX7_near yX7_near, Cond.code yX7_near cX7_near 2 (some .int), Cond.methodLink RX7 187 yX7_within, Cond.instanceMethod yX7_within, Cond.selects RX7 yX7_within yX7_within, Cond.code yX7_within cX7_within 5 (some .int), Cond.fieldLink RX7 42 "SumNamesModel" "far" "[I", Cond.methodLink RX7 184 yX7_layFar, Cond.instanceMethod yX7_layFar, Cond.selects RX7 yX7_layFar yX7_layFar, Cond.code yX7_layFar cX7_layFar 6 none, Cond.methodLink RX7 180 yX7_areNext, Cond.instanceMethod yX7_areNext]
def wsX7_free_r3 : List Cond := [Cond.selects RX7 yX7_areNext yX7_areNext, Cond.code yX7_areNext cX7_areNext 3 (some .boolean), Cond.methodLink RX7 229 yX7_sumOf, Cond.instanceMethod yX7_sumOf, Cond.selects RX7 yX7_sumOf yX7_sumOf, Cond.code yX7_sumOf cX7_sumOf 6 (some .int), Cond.methodLink RX7 256 yX7_isFree, Cond.instanceMethod yX7_isFree, Cond.selects RX7 yX7_isFree yX7_isFree, Cond.code yX7_isFree cX7_isFree 6 (some .boolean), Cond.fieldLink RX7 13 "SumNamesModel" "words" "[J", Cond.methodLink RX7 235 yX7_has, Cond.static yX7_has, Cond.code yX7_has cX7_has 2 (some .boolean)]
def wsX7_free : List Cond := .code yX7_free cX7_free 6 (some .long) :: ((wsX7_free_r1 ++ (wsX7_free_r2 ++ wsX7_free_r3)) ++ wsX70)
def wsX7_divisor : List Cond := .code yX7_divisor cX7_divisor 10 (some .long) :: ([])
def wsX7_allNamed : List Cond := .code yX7_allNamed cX7_allNamed 6 (some .boolean) :: ([.fieldLink RX7 7 "SumNamesModel" "row" "[I", .fieldLink RX7 48 "SumNamesModel" "room" "[I", .methodLink RX7 235 yX7_has, .static yX7_has, .initialized RX7, .code yX7_has cX7_has 2 (some .boolean)] ++ wsX70)
def wsX7_hopes_r1 : List Cond := [Cond.constantLong RX7 200 (-2), Cond.constantLong RX7 254 (-3), Cond.fieldLink RX7 7 "SumNamesModel" "row" "[I", Cond.fieldLink RX7 48 "SumNamesModel" "room" "[I", Cond.fieldLink RX7 211 "SumNamesModel" "nameMany" "I", Cond.fieldLink RX7 45 "SumNamesModel" "names" "[J", Cond.constantLong RX7 259 (10), Cond.methodLink RX7 191 yX7_isPerson, Cond.instanceMethod yX7_isPerson, Cond.selects RX7 yX7_isPerson yX7_isPerson, Cond.initialized RX7, Cond.code yX7_isPerson cX7_isPerson 2 (some .boolean), Cond.methodLink RX7 68 yX7_in, Cond.static yX7_in, Cond.code yX7_in cX7_in 6 (some .boolean), Cond.methodLink RX7 187 yX7_within, Cond.instanceMethod yX7_within, Cond.selects RX7 yX7_within yX7_within, Cond.code yX7_within cX7_within 5 (some .int), Cond.fieldLink RX7 42 "SumNamesModel" "far" "[I", Cond.methodLink RX7 184 yX7_layFar, Cond.instanceMethod yX7_layFar, Cond.selects RX7 yX7_layFar yX7_layFar, Cond.code yX7_layFar cX7_layFar 6 none]
def wsX7_hopes_r2 : List Cond := [Cond.methodLink RX7 180 yX7_areNext, Cond.instanceMethod yX7_areNext, Cond.selects RX7 yX7_areNext yX7_areNext, Cond.code yX7_areNext cX7_areNext 3 (some .boolean), Cond.methodLink RX7 251 yX7_layNames, Cond.instanceMethod yX7_layNames, Cond.selects RX7 yX7_layNames yX7_layNames, Cond.code yX7_layNames cX7_layNames 9 none, Cond.methodLink RX7 214 yX7_isBare, Cond.instanceMethod yX7_isBare, Cond.selects RX7 yX7_isBare yX7_isBare, Cond.code yX7_isBare cX7_isBare 6 (some .boolean), Cond.constantLong RX7 121 (27), Cond.methodLink RX7 218 yX7_addName, Cond.instanceMethod yX7_addName, Cond.selects RX7 yX7_addName yX7_addName, Cond.code yX7_addName cX7_addName 5 none, Cond.methodLink RX7 222 yX7_joined, Cond.static yX7_joined, Cond.code yX7_joined cX7_joined 7 (some .long), Cond.methodLink RX7 207 yX7_lettersOf, Cond.static yX7_lettersOf, Cond.code yX7_lettersOf cX7_lettersOf 5 (some .int), Cond.methodLink RX7 229 yX7_sumOf]
def wsX7_hopes_r3 : List Cond := [Cond.instanceMethod yX7_sumOf, Cond.selects RX7 yX7_sumOf yX7_sumOf, Cond.code yX7_sumOf cX7_sumOf 6 (some .int), Cond.methodLink RX7 256 yX7_isFree, Cond.instanceMethod yX7_isFree, Cond.selects RX7 yX7_isFree yX7_isFree, Cond.code yX7_isFree cX7_isFree 6 (some .boolean), Cond.fieldLink RX7 13 "SumNamesModel" "words" "[J", Cond.methodLink RX7 235 yX7_has, Cond.static yX7_has, Cond.code yX7_has cX7_has 2 (some .boolean), Cond.methodLink RX7 261 yX7_allNamed, Cond.instanceMethod yX7_allNamed, Cond.selects RX7 yX7_allNamed yX7_allNamed, Cond.code yX7_allNamed cX7_allNamed 6 (some .boolean), Cond.methodLink RX7 264 yX7_divisor, Cond.static yX7_divisor, Cond.code yX7_divisor cX7_divisor 10 (some .long)]
def wsX7_hopes : List Cond := .code yX7_hopes cX7_hopes 13 (some .long) :: ((wsX7_hopes_r1 ++ (wsX7_hopes_r2 ++ wsX7_hopes_r3)) ++ wsX70)
def wsX7_mark : List Cond := .code yX7_mark cX7_mark 2 none :: ([.fieldLink RX7 54 "SumNamesModel" "named" "[Z"] ++ wsX70)
def wsX7_layNamed : List Cond := .code yX7_layNamed cX7_layNamed 4 none :: ([.fieldLink RX7 54 "SumNamesModel" "named" "[Z", .fieldLink RX7 267 "SumNamesModel" "sumMany" "I", .fieldLink RX7 51 "SumNamesModel" "sums" "[I", .methodLink RX7 270 yX7_mark, .instanceMethod yX7_mark, .selects RX7 yX7_mark yX7_mark, .initialized RX7, .code yX7_mark cX7_mark 2 none] ++ wsX70)
def wsX7_laySums : List Cond := .code yX7_laySums cX7_laySums 2 none :: ([.fieldLink RX7 267 "SumNamesModel" "sumMany" "I", .fieldLink RX7 7 "SumNamesModel" "row" "[I", .fieldLink RX7 51 "SumNamesModel" "sums" "[I", .methodLink RX7 214 yX7_isBare, .instanceMethod yX7_isBare, .selects RX7 yX7_isBare yX7_isBare, .initialized RX7, .code yX7_isBare cX7_isBare 6 (some .boolean), .constantLong RX7 121 (27), .methodLink RX7 229 yX7_sumOf, .instanceMethod yX7_sumOf, .selects RX7 yX7_sumOf yX7_sumOf, .code yX7_sumOf cX7_sumOf 6 (some .int), .methodLink RX7 273 yX7_layNamed, .instanceMethod yX7_layNamed, .selects RX7 yX7_layNamed yX7_layNamed, .code yX7_layNamed cX7_layNamed 4 none, .fieldLink RX7 54 "SumNamesModel" "named" "[Z", .methodLink RX7 270 yX7_mark, .instanceMethod yX7_mark, .selects RX7 yX7_mark yX7_mark, .code yX7_mark cX7_mark 2 none] ++ wsX70)
def wsX7_bare : List Cond := .code yX7_bare cX7_bare 6 (some .int) :: ([.fieldLink RX7 54 "SumNamesModel" "named" "[Z"] ++ wsX70)
def wsX7_areDays : List Cond := .code yX7_areDays cX7_areDays 2 (some .boolean) :: ([.methodLink RX7 246 yX7_isDay, .static yX7_isDay, .initialized RX7, .code yX7_isDay cX7_isDay 1 (some .boolean), .constantLong RX7 244 (400), .methodLink RX7 68 yX7_in, .static yX7_in, .code yX7_in cX7_in 6 (some .boolean)])
def wsX7_without_r1 : List Cond := [Cond.methodLink RX7 276 yX7_areDays, Cond.static yX7_areDays, Cond.initialized RX7, Cond.code yX7_areDays cX7_areDays 2 (some .boolean), Cond.methodLink RX7 246 yX7_isDay, Cond.static yX7_isDay, Cond.code yX7_isDay cX7_isDay 1 (some .boolean), Cond.constantLong RX7 244 (400), Cond.methodLink RX7 68 yX7_in, Cond.static yX7_in, Cond.code yX7_in cX7_in 6 (some .boolean), Cond.methodLink RX7 279 yX7_laySums, Cond.instanceMethod yX7_laySums, Cond.selects RX7 yX7_laySums yX7_laySums, Cond.code yX7_laySums cX7_laySums 2 none, Cond.fieldLink RX7 267 "SumNamesModel" "sumMany" "I", Cond.fieldLink RX7 7 "SumNamesModel" "row" "[I", Cond.fieldLink RX7 51 "SumNamesModel" "sums" "[I", Cond.methodLink RX7 214 yX7_isBare, Cond.instanceMethod yX7_isBare, Cond.selects RX7 yX7_isBare yX7_isBare, Cond.code yX7_isBare cX7_isBare 6 (some .boolean), Cond.constantLong RX7 121 (27), Cond.methodLink RX7 229 yX7_sumOf]
def wsX7_without_r2 : List Cond := [Cond.instanceMethod yX7_sumOf, Cond.selects RX7 yX7_sumOf yX7_sumOf, Cond.code yX7_sumOf cX7_sumOf 6 (some .int), Cond.methodLink RX7 273 yX7_layNamed, Cond.instanceMethod yX7_layNamed, Cond.selects RX7 yX7_layNamed yX7_layNamed, Cond.code yX7_layNamed cX7_layNamed 4 none, Cond.fieldLink RX7 54 "SumNamesModel" "named" "[Z", Cond.methodLink RX7 270 yX7_mark, Cond.instanceMethod yX7_mark, Cond.selects RX7 yX7_mark yX7_mark, Cond.code yX7_mark cX7_mark 2 none, Cond.methodLink RX7 282 yX7_bare, Cond.instanceMethod yX7_bare, Cond.selects RX7 yX7_bare yX7_bare, Cond.code yX7_bare cX7_bare 6 (some .int)]
def wsX7_without : List Cond := .code yX7_without cX7_without 4 (some .int) :: ((wsX7_without_r1 ++ wsX7_without_r2) ++ wsX70)
def wsX7_isSyl : List Cond := .code yX7_isSyl cX7_isSyl 5 (some .boolean) :: ([.fieldLink RX7 7 "SumNamesModel" "row" "[I"] ++ wsX70)
def wsX7_mend_r1 : List Cond := [Cond.constantLong RX7 254 (-3), Cond.fieldLink RX7 7 "SumNamesModel" "row" "[I", Cond.constantLong RX7 286 (-4), Cond.fieldLink RX7 267 "SumNamesModel" "sumMany" "I", Cond.constantLong RX7 288 (729), Cond.fieldLink RX7 51 "SumNamesModel" "sums" "[I", Cond.constantLong RX7 119 (-1), Cond.methodLink RX7 276 yX7_areDays, Cond.static yX7_areDays, Cond.initialized RX7, Cond.code yX7_areDays cX7_areDays 2 (some .boolean), Cond.methodLink RX7 246 yX7_isDay, Cond.static yX7_isDay, Cond.code yX7_isDay cX7_isDay 1 (some .boolean), Cond.constantLong RX7 244 (400), Cond.methodLink RX7 68 yX7_in, Cond.static yX7_in, Cond.code yX7_in cX7_in 6 (some .boolean), Cond.methodLink RX7 279 yX7_laySums, Cond.instanceMethod yX7_laySums, Cond.selects RX7 yX7_laySums yX7_laySums, Cond.code yX7_laySums cX7_laySums 2 none, Cond.methodLink RX7 214 yX7_isBare, Cond.instanceMethod yX7_isBare]
def wsX7_mend_r2 : List Cond := [Cond.selects RX7 yX7_isBare yX7_isBare, Cond.code yX7_isBare cX7_isBare 6 (some .boolean), Cond.constantLong RX7 121 (27), Cond.methodLink RX7 229 yX7_sumOf, Cond.instanceMethod yX7_sumOf, Cond.selects RX7 yX7_sumOf yX7_sumOf, Cond.code yX7_sumOf cX7_sumOf 6 (some .int), Cond.methodLink RX7 273 yX7_layNamed, Cond.instanceMethod yX7_layNamed, Cond.selects RX7 yX7_layNamed yX7_layNamed, Cond.code yX7_layNamed cX7_layNamed 4 none, Cond.fieldLink RX7 54 "SumNamesModel" "named" "[Z", Cond.methodLink RX7 270 yX7_mark, Cond.instanceMethod yX7_mark, Cond.selects RX7 yX7_mark yX7_mark, Cond.code yX7_mark cX7_mark 2 none, Cond.methodLink RX7 282 yX7_bare, Cond.instanceMethod yX7_bare, Cond.selects RX7 yX7_bare yX7_bare, Cond.code yX7_bare cX7_bare 6 (some .int), Cond.methodLink RX7 226 yX7_isCode, Cond.static yX7_isCode, Cond.code yX7_isCode cX7_isCode 5 (some .boolean), Cond.methodLink RX7 207 yX7_lettersOf]
def wsX7_mend_r3 : List Cond := [Cond.static yX7_lettersOf, Cond.code yX7_lettersOf cX7_lettersOf 5 (some .int), Cond.methodLink RX7 290 yX7_isSyl, Cond.instanceMethod yX7_isSyl, Cond.selects RX7 yX7_isSyl yX7_isSyl, Cond.code yX7_isSyl cX7_isSyl 5 (some .boolean)]
def wsX7_mend : List Cond := .code yX7_mend cX7_mend 6 (some .long) :: ((wsX7_mend_r1 ++ (wsX7_mend_r2 ++ wsX7_mend_r3)) ++ wsX70)
def wsX7_layUsed : List Cond := .code yX7_layUsed cX7_layUsed 5 (some .boolean) :: ([.fieldLink RX7 7 "SumNamesModel" "row" "[I", .fieldLink RX7 13 "SumNamesModel" "words" "[J", .constantLong RX7 121 (27), .fieldLink RX7 293 "SumNamesModel" "usedMany" "I", .fieldLink RX7 57 "SumNamesModel" "used" "[I", .methodLink RX7 235 yX7_has, .static yX7_has, .initialized RX7, .code yX7_has cX7_has 2 (some .boolean)] ++ wsX70)
def wsX7_allAdd : List Cond := .code yX7_allAdd cX7_allAdd 6 (some .boolean) :: ([.fieldLink RX7 7 "SumNamesModel" "row" "[I", .fieldLink RX7 13 "SumNamesModel" "words" "[J", .fieldLink RX7 60 "SumNamesModel" "trial" "[I", .constantLong RX7 121 (27)] ++ wsX70)
def wsX7_figure : List Cond := .code yX7_figure cX7_figure 6 (some .int) :: ([.fieldLink RX7 293 "SumNamesModel" "usedMany" "I"] ++ wsX70)
def wsX7_old_r1 : List Cond := [Cond.constantLong RX7 178 (25), Cond.constantLong RX7 249 (9), Cond.fieldLink RX7 293 "SumNamesModel" "usedMany" "I", Cond.fieldLink RX7 57 "SumNamesModel" "used" "[I", Cond.fieldLink RX7 60 "SumNamesModel" "trial" "[I", Cond.methodLink RX7 68 yX7_in, Cond.static yX7_in, Cond.initialized RX7, Cond.code yX7_in cX7_in 6 (some .boolean), Cond.methodLink RX7 296 yX7_layUsed, Cond.instanceMethod yX7_layUsed, Cond.selects RX7 yX7_layUsed yX7_layUsed, Cond.code yX7_layUsed cX7_layUsed 5 (some .boolean), Cond.fieldLink RX7 7 "SumNamesModel" "row" "[I", Cond.fieldLink RX7 13 "SumNamesModel" "words" "[J", Cond.constantLong RX7 121 (27), Cond.methodLink RX7 235 yX7_has, Cond.static yX7_has, Cond.code yX7_has cX7_has 2 (some .boolean), Cond.methodLink RX7 299 yX7_figure, Cond.instanceMethod yX7_figure, Cond.selects RX7 yX7_figure yX7_figure, Cond.code yX7_figure cX7_figure 6 (some .int), Cond.methodLink RX7 303 yX7_allAdd]
def wsX7_old_r2 : List Cond := [Cond.instanceMethod yX7_allAdd, Cond.selects RX7 yX7_allAdd yX7_allAdd, Cond.code yX7_allAdd cX7_allAdd 6 (some .boolean)]
def wsX7_old : List Cond := .code yX7_old cX7_old 9 (some .int) :: ((wsX7_old_r1 ++ wsX7_old_r2) ++ wsX70)
def wsX7_timesIn : List Cond := .code yX7_timesIn cX7_timesIn 6 (some .int) :: ([.constantLong RX7 121 (27)])
def wsX7_anew : List Cond := .code yX7_anew cX7_anew 7 (some .int) :: ([.fieldLink RX7 7 "SumNamesModel" "row" "[I", .fieldLink RX7 13 "SumNamesModel" "words" "[J", .methodLink RX7 229 yX7_sumOf, .instanceMethod yX7_sumOf, .selects RX7 yX7_sumOf yX7_sumOf, .initialized RX7, .code yX7_sumOf cX7_sumOf 6 (some .int), .constantLong RX7 121 (27), .methodLink RX7 306 yX7_timesIn, .static yX7_timesIn, .code yX7_timesIn cX7_timesIn 6 (some .int)] ++ wsX70)
def wsX7_reform : List Cond := .code yX7_reform cX7_reform 10 (some .int) :: ([.constantLong RX7 310 (2), .fieldLink RX7 13 "SumNamesModel" "words" "[J", .fieldLink RX7 7 "SumNamesModel" "row" "[I", .methodLink RX7 191 yX7_isPerson, .instanceMethod yX7_isPerson, .selects RX7 yX7_isPerson yX7_isPerson, .initialized RX7, .code yX7_isPerson cX7_isPerson 2 (some .boolean), .methodLink RX7 68 yX7_in, .static yX7_in, .code yX7_in cX7_in 6 (some .boolean), .methodLink RX7 229 yX7_sumOf, .instanceMethod yX7_sumOf, .selects RX7 yX7_sumOf yX7_sumOf, .code yX7_sumOf cX7_sumOf 6 (some .int), .constantLong RX7 121 (27), .methodLink RX7 306 yX7_timesIn, .static yX7_timesIn, .code yX7_timesIn cX7_timesIn 6 (some .int), .methodLink RX7 312 yX7_anew, .instanceMethod yX7_anew, .selects RX7 yX7_anew yX7_anew, .code yX7_anew cX7_anew 7 (some .int)] ++ wsX70)
def wsX7_nicknames_r1 : List Cond := [Cond.constantLong RX7 200 (-2), Cond.constantLong RX7 254 (-3), Cond.fieldLink RX7 13 "SumNamesModel" "words" "[J", Cond.constantLong RX7 286 (-4), Cond.constantLong RX7 119 (-1), Cond.constantLong RX7 121 (27), Cond.fieldLink RX7 63 "SumNamesModel" "found" "[J", Cond.fieldLink RX7 7 "SumNamesModel" "row" "[I", Cond.methodLink RX7 191 yX7_isPerson, Cond.instanceMethod yX7_isPerson, Cond.selects RX7 yX7_isPerson yX7_isPerson, Cond.initialized RX7, Cond.code yX7_isPerson cX7_isPerson 2 (some .boolean), Cond.methodLink RX7 68 yX7_in, Cond.static yX7_in, Cond.code yX7_in cX7_in 6 (some .boolean), Cond.methodLink RX7 207 yX7_lettersOf, Cond.static yX7_lettersOf, Cond.code yX7_lettersOf cX7_lettersOf 5 (some .int), Cond.methodLink RX7 235 yX7_has, Cond.static yX7_has, Cond.code yX7_has cX7_has 2 (some .boolean), Cond.methodLink RX7 232 yX7_isName, Cond.instanceMethod yX7_isName]
def wsX7_nicknames_r2 : List Cond := [Cond.selects RX7 yX7_isName yX7_isName, Cond.code yX7_isName cX7_isName 10 (some .boolean), Cond.methodLink RX7 214 yX7_isBare, Cond.instanceMethod yX7_isBare, Cond.selects RX7 yX7_isBare yX7_isBare, Cond.code yX7_isBare cX7_isBare 6 (some .boolean), Cond.methodLink RX7 222 yX7_joined, Cond.static yX7_joined, Cond.code yX7_joined cX7_joined 7 (some .long), Cond.methodLink RX7 229 yX7_sumOf, Cond.instanceMethod yX7_sumOf, Cond.selects RX7 yX7_sumOf yX7_sumOf, Cond.code yX7_sumOf cX7_sumOf 6 (some .int)]
def wsX7_nicknames : List Cond := .code yX7_nicknames cX7_nicknames 16 (some .long) :: ((wsX7_nicknames_r1 ++ wsX7_nicknames_r2) ++ wsX70)
def wsX7_page : List Cond := .code yX7_page cX7_page 13 (some .int) :: ([.fieldLink RX7 7 "SumNamesModel" "row" "[I", .constantLong RX7 315 (9999), .fieldLink RX7 13 "SumNamesModel" "words" "[J", .constantLong RX7 121 (27), .methodLink RX7 68 yX7_in, .static yX7_in, .initialized RX7, .code yX7_in cX7_in 6 (some .boolean), .methodLink RX7 235 yX7_has, .static yX7_has, .code yX7_has cX7_has 2 (some .boolean), .methodLink RX7 229 yX7_sumOf, .instanceMethod yX7_sumOf, .selects RX7 yX7_sumOf yX7_sumOf, .code yX7_sumOf cX7_sumOf 6 (some .int)] ++ wsX70)
def wsX7_isSheet : List Cond := .code yX7_isSheet cX7_isSheet 1 (some .boolean) :: ([.constantLong RX7 310 (2), .methodLink RX7 68 yX7_in, .static yX7_in, .initialized RX7, .code yX7_in cX7_in 6 (some .boolean)])
def wsX7_sheet : List Cond := .code yX7_sheet cX7_sheet 5 (some .int) :: ([.constantLong RX7 310 (2), .fieldLink RX7 30 "SumNamesModel" "lanes" "[I", .fieldLink RX7 33 "SumNamesModel" "sizes" "[I", .fieldLink RX7 36 "SumNamesModel" "items" "[I", .methodLink RX7 317 yX7_isSheet, .static yX7_isSheet, .initialized RX7, .code yX7_isSheet cX7_isSheet 1 (some .boolean), .methodLink RX7 68 yX7_in, .static yX7_in, .code yX7_in cX7_in 6 (some .boolean)] ++ wsX70)
def wsX7_tear : List Cond := .code yX7_tear cX7_tear 2 (some .int) :: ([.fieldLink RX7 30 "SumNamesModel" "lanes" "[I", .methodLink RX7 317 yX7_isSheet, .static yX7_isSheet, .initialized RX7, .code yX7_isSheet cX7_isSheet 1 (some .boolean), .constantLong RX7 310 (2), .methodLink RX7 68 yX7_in, .static yX7_in, .code yX7_in cX7_in 6 (some .boolean)] ++ wsX70)
def wsX7_lay : List Cond := .code yX7_lay cX7_lay 4 (some .int) :: ([.fieldLink RX7 30 "SumNamesModel" "lanes" "[I", .fieldLink RX7 33 "SumNamesModel" "sizes" "[I", .fieldLink RX7 36 "SumNamesModel" "items" "[I", .methodLink RX7 317 yX7_isSheet, .static yX7_isSheet, .initialized RX7, .code yX7_isSheet cX7_isSheet 1 (some .boolean), .constantLong RX7 310 (2), .methodLink RX7 68 yX7_in, .static yX7_in, .code yX7_in cX7_in 6 (some .boolean)] ++ wsX70)
def wsX7_copy : List Cond := .code yX7_copy cX7_copy 8 (some .int) :: ([.fieldLink RX7 30 "SumNamesModel" "lanes" "[I", .fieldLink RX7 33 "SumNamesModel" "sizes" "[I", .fieldLink RX7 36 "SumNamesModel" "items" "[I", .methodLink RX7 317 yX7_isSheet, .static yX7_isSheet, .initialized RX7, .code yX7_isSheet cX7_isSheet 1 (some .boolean), .constantLong RX7 310 (2), .methodLink RX7 68 yX7_in, .static yX7_in, .code yX7_in cX7_in 6 (some .boolean)] ++ wsX70)
def wsX7_hope : List Cond := .code yX7_hope cX7_hope 8 (some .int) :: ([.constantLong RX7 310 (2), .constantLong RX7 320 (6), .constantLong RX7 259 (10), .fieldLink RX7 30 "SumNamesModel" "lanes" "[I", .fieldLink RX7 33 "SumNamesModel" "sizes" "[I", .fieldLink RX7 36 "SumNamesModel" "items" "[I", .fieldLink RX7 7 "SumNamesModel" "row" "[I", .methodLink RX7 317 yX7_isSheet, .static yX7_isSheet, .initialized RX7, .code yX7_isSheet cX7_isSheet 1 (some .boolean), .methodLink RX7 68 yX7_in, .static yX7_in, .code yX7_in cX7_in 6 (some .boolean), .methodLink RX7 246 yX7_isDay, .static yX7_isDay, .code yX7_isDay cX7_isDay 1 (some .boolean), .constantLong RX7 244 (400), .methodLink RX7 167 yX7_hopeFor, .instanceMethod yX7_hopeFor, .selects RX7 yX7_hopeFor yX7_hopeFor, .code yX7_hopeFor cX7_hopeFor 3 none] ++ wsX70)
def wsX7_move : List Cond := .code yX7_move cX7_move 4 none :: ([.fieldLink RX7 7 "SumNamesModel" "row" "[I", .fieldLink RX7 13 "SumNamesModel" "words" "[J"] ++ wsX70)
def wsX7_keep : List Cond := .code yX7_keep cX7_keep 2 (some .int) :: ([.fieldLink RX7 17 "SumNamesModel" "isKept" "[Z", .fieldLink RX7 7 "SumNamesModel" "row" "[I", .methodLink RX7 68 yX7_in, .static yX7_in, .initialized RX7, .code yX7_in cX7_in 6 (some .boolean), .methodLink RX7 322 yX7_move, .instanceMethod yX7_move, .selects RX7 yX7_move yX7_move, .code yX7_move cX7_move 4 none, .fieldLink RX7 13 "SumNamesModel" "words" "[J"] ++ wsX70)
def wsX7_back : List Cond := .code yX7_back cX7_back 2 (some .int) :: ([.fieldLink RX7 17 "SumNamesModel" "isKept" "[Z", .fieldLink RX7 7 "SumNamesModel" "row" "[I", .methodLink RX7 68 yX7_in, .static yX7_in, .initialized RX7, .code yX7_in cX7_in 6 (some .boolean), .methodLink RX7 322 yX7_move, .instanceMethod yX7_move, .selects RX7 yX7_move yX7_move, .code yX7_move cX7_move 4 none, .fieldLink RX7 13 "SumNamesModel" "words" "[J"] ++ wsX70)
def wsX7_count : List Cond := .code yX7_count cX7_count 2 (some .int) :: ([.fieldLink RX7 7 "SumNamesModel" "row" "[I", .fieldLink RX7 72 "SumNamesModel" "length" "I", .fieldLink RX7 30 "SumNamesModel" "lanes" "[I", .fieldLink RX7 33 "SumNamesModel" "sizes" "[I"] ++ wsX70)
def wsJ9_max_7cf53 : List Cond := .code yJ9_max_7cf53 cJ9_max_7cf53 2 (some .int) :: ([])
def wsJ9_max_f86c9 : List Cond := .code yJ9_max_f86c9 cJ9_max_f86c9 4 (some .long) :: ([])
def wsJ9_min_7cf53 : List Cond := .code yJ9_min_7cf53 cJ9_min_7cf53 2 (some .int) :: ([])
def wsL_law_r1 : List Cond := [Cond.classLink RL 7 RX6, Cond.instantiable RX6 8, Cond.initialized RX6, Cond.classLink RL 10 RX7, Cond.instantiable RX7 29, Cond.initialized RX7, Cond.constantLong RL 13 (4294967295), Cond.methodLink RL 9 yX6_init, Cond.instanceMethod yX6_init, Cond.code yX6_init cX6_init 2 none, Cond.methodLink RX6 1 objectInit, Cond.instanceMethod objectInit, Cond.code objectInit ⟨#[0xb1]⟩ 1 none, Cond.classLink RX6 7 RX5, Cond.instantiable RX5 13, Cond.initialized RX5, Cond.fieldLink RX6 10 "SumNames" "now" "LSumNames$World;", Cond.fieldLink RX6 16 "SumNames" "images" "[LSumNames$World;", Cond.classLink RX6 20 RX3, Cond.instantiable RX3 11, Cond.initialized RX3, Cond.fieldLink RX6 23 "SumNames" "reader" "LSumNames$Reader;", Cond.classLink RX6 27 RX0, Cond.instantiable RX0 8]
def wsL_law_r2 : List Cond := [Cond.initialized RX0, Cond.fieldLink RX6 30 "SumNames" "row" "LSumNames$NameRow;", Cond.classLink RX6 34 RX2, Cond.instantiable RX2 2, Cond.initialized RX2, Cond.fieldLink RX6 37 "SumNames" "reach" "LSumNames$Reach;", Cond.classLink RX6 41 RX1, Cond.instantiable RX1 10, Cond.initialized RX1, Cond.fieldLink RX6 44 "SumNames" "oldNames" "LSumNames$OldNames;", Cond.classLink RX6 48 RX4, Cond.fieldLink RX6 50 "SumNames" "sheets" "[LSumNames$Sheet;", Cond.arrayClass .int, Cond.fieldLink RX6 54 "SumNames" "rooms" "[I", Cond.instantiable RX4 3, Cond.initialized RX4, Cond.methodLink RX6 9 yX5_init, Cond.instanceMethod yX5_init, Cond.code yX5_init cX5_init 2 none, Cond.methodLink RX5 3 objectInit, Cond.fieldLink RX5 9 "SumNames$World" "numbers" "[I", Cond.arrayClass .long, Cond.fieldLink RX5 15 "SumNames$World" "syllables" "[J", Cond.fieldLink RX5 19 "SumNames$World" "syllableCount" "I"]
def wsL_law_r3 : List Cond := [Cond.fieldLink RX5 23 "SumNames$World" "days" "[I", Cond.fieldLink RX5 26 "SumNames$World" "words" "[J", Cond.fieldLink RX5 29 "SumNames$World" "parents" "[I", Cond.fieldLink RX5 32 "SumNames$World" "otherParents" "[I", Cond.fieldLink RX5 35 "SumNames$World" "kinds" "[I", Cond.fieldLink RX5 38 "SumNames$World" "personCount" "I", Cond.fieldLink RX5 41 "SumNames$World" "hopeDays" "[I", Cond.fieldLink RX5 44 "SumNames$World" "hopeTenths" "[I", Cond.fieldLink RX5 47 "SumNames$World" "hopeCount" "I", Cond.fieldLink RX5 50 "SumNames$World" "degreesTold" "I", Cond.instanceMethod yX3_init, Cond.code yX3_init cX3_init 1 none, Cond.methodLink RX3 3 objectInit, Cond.fieldLink RX3 9 "SumNames$Reader" "text" "[I", Cond.fieldLink RX3 15 "SumNames$Reader" "length" "I", Cond.classLink RX3 19 RX5, Cond.fieldLink RX3 22 "SumNames$Reader" "draft" "LSumNames$World;", Cond.fieldLink RX3 26 "SumNames$Reader" "lines" "I", Cond.fieldLink RX3 29 "SumNames$Reader" "place" "I", Cond.fieldLink RX3 32 "SumNames$Reader" "token" "I", Cond.fieldLink RX3 35 "SumNames$Reader" "begin" "I", Cond.fieldLink RX3 38 "SumNames$Reader" "bytes" "I", Cond.fieldLink RX3 41 "SumNames$Reader" "value" "J", Cond.fieldLink RX3 45 "SumNames$Reader" "parent" "I"]
def wsL_law_r4 : List Cond := [Cond.fieldLink RX3 48 "SumNames$Reader" "otherParent" "I", Cond.methodLink RX3 21 yX5_init, Cond.instanceMethod yX0_init, Cond.code yX0_init cX0_init 1 none, Cond.methodLink RX0 3 objectInit, Cond.fieldLink RX0 9 "SumNames$NameRow" "codes" "[J", Cond.fieldLink RX0 15 "SumNames$NameRow" "size" "I", Cond.fieldLink RX0 19 "SumNames$NameRow" "partCodes" "[J", Cond.fieldLink RX0 22 "SumNames$NameRow" "partShifts" "[J", Cond.fieldLink RX0 25 "SumNames$NameRow" "partSums" "[I", Cond.fieldLink RX0 29 "SumNames$NameRow" "partCount" "I", Cond.fieldLink RX0 32 "SumNames$NameRow" "wantedDay" "I", Cond.fieldLink RX0 35 "SumNames$NameRow" "divisorsWanted" "Z", Cond.instanceMethod yX2_init, Cond.code yX2_init cX2_init 1 none, Cond.methodLink RX2 3 objectInit, Cond.fieldLink RX2 9 "SumNames$Reach" "fewest" "[I", Cond.arrayClass .boolean, Cond.fieldLink RX2 15 "SumNames$Reach" "tried" "[Z", Cond.instanceMethod yX1_init, Cond.code yX1_init cX1_init 1 none, Cond.methodLink RX1 3 objectInit, Cond.fieldLink RX1 9 "SumNames$OldNames" "ways" "I", Cond.fieldLink RX1 15 "SumNames$OldNames" "letters" "[I"]
def wsL_law_r5 : List Cond := [Cond.fieldLink RX1 19 "SumNames$OldNames" "letterCount" "I", Cond.classLink RX1 22 "[[I", Cond.fieldLink RX1 24 "SumNames$OldNames" "times" "[[I", Cond.fieldLink RX1 27 "SumNames$OldNames" "behind" "[[I", Cond.fieldLink RX1 30 "SumNames$OldNames" "left" "[I", Cond.fieldLink RX1 33 "SumNames$OldNames" "wordCount" "I", Cond.fieldLink RX1 36 "SumNames$OldNames" "given" "[I", Cond.fieldLink RX1 39 "SumNames$OldNames" "first" "[I", Cond.fieldLink RX1 42 "SumNames$OldNames" "most" "I", Cond.instanceMethod yX4_init, Cond.code yX4_init cX4_init 1 none, Cond.methodLink RX4 3 objectInit, Cond.fieldLink RX4 9 "SumNames$Sheet" "items" "[I", Cond.fieldLink RX4 15 "SumNames$Sheet" "lane" "I", Cond.fieldLink RX4 19 "SumNames$Sheet" "size" "I", Cond.methodLink RL 12 yX7_init, Cond.instanceMethod yX7_init, Cond.code yX7_init cX7_init 2 none, Cond.methodLink RX7 1 objectInit, Cond.fieldLink RX7 7 "SumNamesModel" "row" "[I", Cond.fieldLink RX7 13 "SumNamesModel" "words" "[J", Cond.fieldLink RX7 17 "SumNamesModel" "isKept" "[Z", Cond.fieldLink RX7 21 "SumNamesModel" "text" "[I", Cond.fieldLink RX7 24 "SumNamesModel" "read" "[I"]
def wsL_law_r6 : List Cond := [Cond.fieldLink RX7 27 "SumNamesModel" "readWord" "[J", Cond.fieldLink RX7 30 "SumNamesModel" "lanes" "[I", Cond.fieldLink RX7 33 "SumNamesModel" "sizes" "[I", Cond.fieldLink RX7 36 "SumNamesModel" "items" "[I", Cond.fieldLink RX7 39 "SumNamesModel" "readSyl" "[I", Cond.fieldLink RX7 42 "SumNamesModel" "far" "[I", Cond.fieldLink RX7 45 "SumNamesModel" "names" "[J", Cond.fieldLink RX7 48 "SumNamesModel" "room" "[I", Cond.fieldLink RX7 51 "SumNamesModel" "sums" "[I", Cond.fieldLink RX7 54 "SumNamesModel" "named" "[Z", Cond.fieldLink RX7 57 "SumNamesModel" "used" "[I", Cond.fieldLink RX7 60 "SumNamesModel" "trial" "[I", Cond.fieldLink RX7 63 "SumNamesModel" "found" "[J", Cond.methodLink RL 15 yX6_write, Cond.instanceMethod yX6_write, Cond.selects RX6 yX6_write yX6_write, Cond.code yX6_write cX6_write 4 (some .int), Cond.fieldLink RX6 63 "SumNames$Reader" "length" "I", Cond.methodLink RX6 59 yX3_append, Cond.instanceMethod yX3_append, Cond.selects RX3 yX3_append yX3_append, Cond.code yX3_append cX3_append 5 (some .boolean), Cond.constantLong RX3 51 (255), Cond.methodLink RL 19 yX7_write]
def wsL_law_r7 : List Cond := [Cond.instanceMethod yX7_write, Cond.selects RX7 yX7_write yX7_write, Cond.code yX7_write cX7_write 5 (some .int), Cond.constantLong RX7 66 (8), Cond.fieldLink RX7 72 "SumNamesModel" "length" "I", Cond.constantLong RX7 76 (255), Cond.methodLink RX7 68 yX7_in, Cond.static yX7_in, Cond.code yX7_in cX7_in 6 (some .boolean), Cond.methodLink RL 20 yX6_erase, Cond.instanceMethod yX6_erase, Cond.selects RX6 yX6_erase yX6_erase, Cond.code yX6_erase cX6_erase 2 (some .int), Cond.methodLink RL 24 yX7_erase, Cond.instanceMethod yX7_erase, Cond.selects RX7 yX7_erase yX7_erase, Cond.code yX7_erase cX7_erase 2 (some .int), Cond.methodLink RL 25 yX6_fault, Cond.instanceMethod yX6_fault, Cond.selects RX6 yX6_fault yX6_fault, Cond.code yX6_fault cX6_fault 1 (some .int), Cond.methodLink RX6 67 yX3_read, Cond.instanceMethod yX3_read, Cond.selects RX3 yX3_read yX3_read]
def wsL_law_r8 : List Cond := [Cond.code yX3_read cX3_read 3 (some .int), Cond.constantLong RX3 64 (59), Cond.methodLink RX3 53 yX5_takeFrom, Cond.instanceMethod yX5_takeFrom, Cond.selects RX5 yX5_takeFrom yX5_takeFrom, Cond.code yX5_takeFrom cX5_takeFrom 2 none, Cond.methodLink RX5 53 arraycopyName, Cond.native arraycopyName, Cond.static arraycopyName, Cond.initialized "java/lang/System", Cond.methodLink RX3 57 yX3_readLine, Cond.instanceMethod yX3_readLine, Cond.selects RX3 yX3_readLine yX3_readLine, Cond.code yX3_readLine cX3_readLine 1 (some .boolean), Cond.fieldLink RX3 87 "SumNames$World" "personCount" "I", Cond.methodLink RX3 61 yX3_readToken, Cond.instanceMethod yX3_readToken, Cond.selects RX3 yX3_readToken yX3_readToken, Cond.code yX3_readToken cX3_readToken 2 none, Cond.methodLink RX3 173 yX3_kindAt, Cond.instanceMethod yX3_kindAt, Cond.selects RX3 yX3_kindAt yX3_kindAt, Cond.code yX3_kindAt cX3_kindAt 2 (some .int), Cond.methodLink RX3 177 yX3_valueWith]
def wsL_law_r9 : List Cond := [Cond.instanceMethod yX3_valueWith, Cond.selects RX3 yX3_valueWith yX3_valueWith, Cond.code yX3_valueWith cX3_valueWith 2 (some .long), Cond.constantLong RX3 181 (27), Cond.constantLong RX3 183 (97), Cond.constantLong RX3 185 (10), Cond.constantLong RX3 187 (48), Cond.methodLink RX3 68 yX3_says, Cond.instanceMethod yX3_says, Cond.selects RX3 yX3_says yX3_says, Cond.code yX3_says cX3_says 3 (some .boolean), Cond.methodLink RX3 164 yJ0_length_8abf5, Cond.instanceMethod yJ0_length_8abf5, Cond.selects RJ0 yJ0_length_8abf5 yJ0_length_8abf5, Cond.initialized RJ0, Cond.code yJ0_length_8abf5 cJ0_length_8abf5 1 (some .int), Cond.fieldLink RJ0 9 "java/lang/String" "value" "[B", Cond.methodLink RJ0 335 yJ0_coder_7d493, Cond.instanceMethod yJ0_coder_7d493, Cond.selects RJ0 yJ0_coder_7d493 yJ0_coder_7d493, Cond.code yJ0_coder_7d493 cJ0_coder_7d493 1 (some .byte), Cond.fieldLink RJ0 38 "java/lang/String" "COMPACT_STRINGS" "Z", Cond.fieldLink RJ0 15 "java/lang/String" "coder" "B", Cond.methodLink RX3 169 yJ0_charAt_5068e]
def wsL_law_r10 : List Cond := [Cond.instanceMethod yJ0_charAt_5068e, Cond.selects RJ0 yJ0_charAt_5068e yJ0_charAt_5068e, Cond.code yJ0_charAt_5068e cJ0_charAt_5068e 2 (some .char), Cond.methodLink RJ0 492 yJ0_isLatin1_aae02, Cond.instanceMethod yJ0_isLatin1_aae02, Cond.selects RJ0 yJ0_isLatin1_aae02 yJ0_isLatin1_aae02, Cond.code yJ0_isLatin1_aae02 cJ0_isLatin1_aae02 1 (some .boolean), Cond.methodLink RJ0 495 yJ1_charAt_3b067, Cond.static yJ1_charAt_3b067, Cond.initialized RJ1, Cond.code yJ1_charAt_3b067 cJ1_charAt_3b067 2 (some .char), Cond.methodLink RJ1 9 yJ0_checkIndex_df160, Cond.static yJ0_checkIndex_df160, Cond.code yJ0_checkIndex_df160 cJ0_checkIndex_df160 2 none, Cond.fieldLink RJ0 1053 "jdk/internal/util/Preconditions" "SIOOBE_FORMATTER" "Ljava/util/function/BiFunction;", Cond.methodLink RJ0 1059 yJ3_checkIndex_8e157, Cond.static yJ3_checkIndex_8e157, Cond.initialized RJ3, Cond.code yJ3_checkIndex_8e157 cJ3_checkIndex_8e157 3 (some .int), Cond.methodLink RJ0 498 yJ2_charAt_3b067, Cond.static yJ2_charAt_3b067, Cond.initialized RJ2, Cond.code yJ2_charAt_3b067 cJ2_charAt_3b067 2 (some .char), Cond.methodLink RJ2 67 yJ2_checkIndex_2214a]
def wsL_law_r11 : List Cond := [Cond.static yJ2_checkIndex_2214a, Cond.code yJ2_checkIndex_2214a cJ2_checkIndex_2214a 2 none, Cond.methodLink RJ2 48 yJ2_length_9d52b, Cond.static yJ2_length_9d52b, Cond.code yJ2_length_9d52b cJ2_length_9d52b 1 (some .int), Cond.methodLink RJ2 414 yJ0_checkIndex_df160, Cond.methodLink RJ2 71 yJ2_getChar_3b067, Cond.static yJ2_getChar_3b067, Cond.code yJ2_getChar_3b067 cJ2_getChar_3b067 2 (some .char), Cond.fieldLink RJ2 44 "java/lang/StringUTF16" "$assertionsDisabled" "Z", Cond.fieldLink RJ2 59 "java/lang/StringUTF16" "HI_BYTE_SHIFT" "I", Cond.fieldLink RJ2 63 "java/lang/StringUTF16" "LO_BYTE_SHIFT" "I", Cond.methodLink RX3 72 yX3_readLetter, Cond.instanceMethod yX3_readLetter, Cond.selects RX3 yX3_readLetter yX3_readLetter, Cond.code yX3_readLetter cX3_readLetter 2 (some .boolean), Cond.fieldLink RX3 132 "SumNames$World" "numbers" "[I", Cond.methodLink RX3 77 yX3_readWord, Cond.instanceMethod yX3_readWord, Cond.selects RX3 yX3_readWord yX3_readWord, Cond.code yX3_readWord cX3_readWord 2 (some .boolean), Cond.static yX6_lastLetter, Cond.code yX6_lastLetter cX6_lastLetter 2 (some .int), Cond.constantLong RX6 310 (27)]
def wsL_law_r12 : List Cond := [Cond.static yX6_isLetter, Cond.code yX6_isLetter cX6_isLetter 1 (some .boolean), Cond.methodLink RX3 128 yX3_readNumber, Cond.instanceMethod yX3_readNumber, Cond.selects RX3 yX3_readNumber yX3_readNumber, Cond.code yX3_readNumber cX3_readNumber 3 (some .boolean), Cond.methodLink RX3 81 yX5_addSyllable, Cond.instanceMethod yX5_addSyllable, Cond.selects RX5 yX5_addSyllable yX5_addSyllable, Cond.code yX5_addSyllable cX5_addSyllable 3 (some .boolean), Cond.methodLink RX5 59 yX5_isSyllable, Cond.instanceMethod yX5_isSyllable, Cond.selects RX5 yX5_isSyllable yX5_isSyllable, Cond.code yX5_isSyllable cX5_isSyllable 4 (some .boolean), Cond.methodLink RX3 90 yX3_readNoParents, Cond.instanceMethod yX3_readNoParents, Cond.selects RX3 yX3_readNoParents yX3_readNoParents, Cond.code yX3_readNoParents cX3_readNoParents 1 (some .boolean), Cond.methodLink RX3 93 yX3_readBirth, Cond.instanceMethod yX3_readBirth, Cond.selects RX3 yX3_readBirth yX3_readBirth, Cond.code yX3_readBirth cX3_readBirth 2 (some .boolean), Cond.methodLink RX3 138 yX3_readWordOrNothing, Cond.instanceMethod yX3_readWordOrNothing]
def wsL_law_r13 : List Cond := [Cond.selects RX3 yX3_readWordOrNothing yX3_readWordOrNothing, Cond.code yX3_readWordOrNothing cX3_readWordOrNothing 1 (some .boolean), Cond.constantLong RX3 162 (45), Cond.methodLink RX3 141 yX5_addPerson, Cond.instanceMethod yX5_addPerson, Cond.selects RX5 yX5_addPerson yX5_addPerson, Cond.code yX5_addPerson cX5_addPerson 6 none, Cond.methodLink RX5 63 yX5_kindOf, Cond.instanceMethod yX5_kindOf, Cond.selects RX5 yX5_kindOf yX5_kindOf, Cond.code yX5_kindOf cX5_kindOf 7 (some .int), Cond.methodLink RX3 98 yX3_readParents, Cond.instanceMethod yX3_readParents, Cond.selects RX3 yX3_readParents yX3_readParents, Cond.code yX3_readParents cX3_readParents 1 (some .boolean), Cond.methodLink RX3 135 yX3_readPerson, Cond.instanceMethod yX3_readPerson, Cond.selects RX3 yX3_readPerson yX3_readPerson, Cond.code yX3_readPerson cX3_readPerson 1 (some .boolean), Cond.methodLink RX3 103 yX3_readCall, Cond.instanceMethod yX3_readCall, Cond.selects RX3 yX3_readCall yX3_readCall, Cond.code yX3_readCall cX3_readCall 2 (some .boolean), Cond.fieldLink RX3 145 "SumNames$World" "words" "[J"]
def wsL_law_r14 : List Cond := [Cond.methodLink RX3 108 yX3_readHope, Cond.instanceMethod yX3_readHope, Cond.selects RX3 yX3_readHope yX3_readHope, Cond.code yX3_readHope cX3_readHope 2 (some .boolean), Cond.fieldLink RX3 149 "SumNames$World" "hopeCount" "I", Cond.methodLink RX3 152 yX5_addHope, Cond.instanceMethod yX5_addHope, Cond.selects RX5 yX5_addHope yX5_addHope, Cond.code yX5_addHope cX5_addHope 3 none, Cond.methodLink RX3 113 yX3_readDegrees, Cond.instanceMethod yX3_readDegrees, Cond.selects RX3 yX3_readDegrees yX3_readDegrees, Cond.code yX3_readDegrees cX3_readDegrees 1 (some .boolean), Cond.fieldLink RX3 156 "SumNames$World" "degreesTold" "I", Cond.methodLink RX3 118 yX3_readForget, Cond.instanceMethod yX3_readForget, Cond.selects RX3 yX3_readForget yX3_readForget, Cond.code yX3_readForget cX3_readForget 1 (some .boolean), Cond.methodLink RX3 159 yX5_forgetAll, Cond.instanceMethod yX5_forgetAll, Cond.selects RX5 yX5_forgetAll yX5_forgetAll, Cond.code yX5_forgetAll cX5_forgetAll 1 none, Cond.methodLink RL 28 yX7_fault, Cond.instanceMethod yX7_fault]
def wsL_law_r15 : List Cond := [Cond.selects RX7 yX7_fault yX7_fault, Cond.code yX7_fault cX7_fault 2 (some .int), Cond.fieldLink RX7 78 "SumNamesModel" "at" "I", Cond.fieldLink RX7 113 "SumNamesModel" "readMany" "I", Cond.fieldLink RX7 132 "SumNamesModel" "readPersons" "I", Cond.fieldLink RX7 153 "SumNamesModel" "readHopes" "I", Cond.fieldLink RX7 129 "SumNamesModel" "readSyls" "I", Cond.fieldLink RX7 81 "SumNamesModel" "place" "I", Cond.fieldLink RX7 88 "SumNamesModel" "end" "I", Cond.methodLink RX7 116 yX7_token, Cond.instanceMethod yX7_token, Cond.selects RX7 yX7_token yX7_token, Cond.code yX7_token cX7_token 1 none, Cond.methodLink RX7 84 yX7_sort, Cond.static yX7_sort, Cond.code yX7_sort cX7_sort 1 (some .int), Cond.methodLink RX7 160 yX7_readsLine, Cond.instanceMethod yX7_readsLine, Cond.selects RX7 yX7_readsLine yX7_readsLine, Cond.code yX7_readsLine cX7_readsLine 3 (some .boolean), Cond.methodLink RX7 149 yX7_wordOf, Cond.instanceMethod yX7_wordOf, Cond.selects RX7 yX7_wordOf yX7_wordOf, Cond.code yX7_wordOf cX7_wordOf 1 (some .int)]
def wsL_law_r16 : List Cond := [Cond.constantLong RX7 93 (609898668), Cond.constantLong RX7 99 (13107), Cond.constantLong RX7 101 (21612838), Cond.constantLong RX7 103 (4596995), Cond.constantLong RX7 105 (405539), Cond.constantLong RX7 107 (180712), Cond.constantLong RX7 109 (20574706852), Cond.constantLong RX7 111 (676579814), Cond.methodLink RX7 95 yX7_isWord, Cond.instanceMethod yX7_isWord, Cond.selects RX7 yX7_isWord yX7_isWord, Cond.code yX7_isWord cX7_isWord 6 (some .boolean), Cond.constantLong RX7 91 (31), Cond.methodLink RX7 156 yX7_readsRest, Cond.instanceMethod yX7_readsRest, Cond.selects RX7 yX7_readsRest yX7_readsRest, Cond.code yX7_readsRest cX7_readsRest 4 (some .boolean), Cond.methodLink RX7 135 yX7_readsLetter, Cond.instanceMethod yX7_readsLetter, Cond.selects RX7 yX7_readsLetter yX7_readsLetter, Cond.code yX7_readsLetter cX7_readsLetter 3 (some .boolean), Cond.constantLong RX7 119 (-1), Cond.methodLink RX7 125 yX7_codeHere, Cond.instanceMethod yX7_codeHere]
def wsL_law_r17 : List Cond := [Cond.selects RX7 yX7_codeHere yX7_codeHere, Cond.code yX7_codeHere cX7_codeHere 5 (some .long), Cond.constantLong RX7 121 (27), Cond.constantLong RX7 123 (96), Cond.methodLink RX7 139 yX7_reads, Cond.instanceMethod yX7_reads, Cond.selects RX7 yX7_reads yX7_reads, Cond.code yX7_reads cX7_reads 7 (some .boolean), Cond.methodLink RX7 143 yX7_readsSyl, Cond.instanceMethod yX7_readsSyl, Cond.selects RX7 yX7_readsSyl yX7_readsSyl, Cond.code yX7_readsSyl cX7_readsSyl 5 (some .boolean), Cond.methodLink RX7 146 yX7_readsWord, Cond.instanceMethod yX7_readsWord, Cond.selects RX7 yX7_readsWord yX7_readsWord, Cond.code yX7_readsWord cX7_readsWord 4 (some .boolean), Cond.methodLink RL 29 yX6_told, Cond.instanceMethod yX6_told, Cond.selects RX6 yX6_told yX6_told, Cond.code yX6_told cX6_told 1 (some .int), Cond.fieldLink RX6 71 "SumNames$Reader" "draft" "LSumNames$World;", Cond.fieldLink RX6 78 "SumNames$Reader" "lines" "I", Cond.methodLink RX6 74 yX5_takeFrom, Cond.methodLink RL 32 yX7_told]
def wsL_law_r18 : List Cond := [Cond.instanceMethod yX7_told, Cond.selects RX7 yX7_told yX7_told, Cond.code yX7_told cX7_told 2 (some .int), Cond.methodLink RX7 171 yX7_fault, Cond.methodLink RX7 174 yX7_tell, Cond.instanceMethod yX7_tell, Cond.selects RX7 yX7_tell yX7_tell, Cond.code yX7_tell cX7_tell 4 none, Cond.methodLink RX7 163 yX7_bear, Cond.instanceMethod yX7_bear, Cond.selects RX7 yX7_bear yX7_bear, Cond.code yX7_bear cX7_bear 7 none, Cond.methodLink RX7 167 yX7_hopeFor, Cond.instanceMethod yX7_hopeFor, Cond.selects RX7 yX7_hopeFor yX7_hopeFor, Cond.code yX7_hopeFor cX7_hopeFor 3 none, Cond.methodLink RL 33 yX6_letter, Cond.instanceMethod yX6_letter, Cond.selects RX6 yX6_letter yX6_letter, Cond.code yX6_letter cX6_letter 2 (some .int), Cond.fieldLink RX6 85 "SumNames$World" "numbers" "[I", Cond.methodLink RX6 81 yX6_isLetter, Cond.methodLink RL 37 yX7_letter, Cond.instanceMethod yX7_letter]
def wsL_law_r19 : List Cond := [Cond.selects RX7 yX7_letter yX7_letter, Cond.code yX7_letter cX7_letter 2 (some .int), Cond.constantLong RX7 178 (25), Cond.methodLink RL 38 yX6_person, Cond.instanceMethod yX6_person, Cond.selects RX6 yX6_person yX6_person, Cond.code yX6_person cX6_person 3 (some .int), Cond.fieldLink RX6 91 "SumNames$World" "days" "[I", Cond.fieldLink RX6 94 "SumNames$World" "parents" "[I", Cond.fieldLink RX6 97 "SumNames$World" "otherParents" "[I", Cond.fieldLink RX6 100 "SumNames$World" "kinds" "[I", Cond.methodLink RX6 88 yX5_isPerson, Cond.instanceMethod yX5_isPerson, Cond.selects RX5 yX5_isPerson yX5_isPerson, Cond.code yX5_isPerson cX5_isPerson 2 (some .boolean), Cond.methodLink RX6 103 yX5_nearOf, Cond.instanceMethod yX5_nearOf, Cond.selects RX5 yX5_nearOf yX5_nearOf, Cond.code yX5_nearOf cX5_nearOf 2 (some .int), Cond.methodLink RX5 101 yX5_within, Cond.instanceMethod yX5_within, Cond.selects RX5 yX5_within yX5_within, Cond.code yX5_within cX5_within 5 (some .int), Cond.methodLink RX5 105 yX5_oneStepMore]
def wsL_law_r20 : List Cond := [Cond.instanceMethod yX5_oneStepMore, Cond.selects RX5 yX5_oneStepMore yX5_oneStepMore, Cond.code yX5_oneStepMore cX5_oneStepMore 5 (some .int), Cond.methodLink RL 42 yX7_person, Cond.instanceMethod yX7_person, Cond.selects RX7 yX7_person yX7_person, Cond.code yX7_person cX7_person 3 (some .int), Cond.methodLink RX7 191 yX7_isPerson, Cond.instanceMethod yX7_isPerson, Cond.selects RX7 yX7_isPerson yX7_isPerson, Cond.code yX7_isPerson cX7_isPerson 2 (some .boolean), Cond.methodLink RX7 194 yX7_kindOf, Cond.instanceMethod yX7_kindOf, Cond.selects RX7 yX7_kindOf yX7_kindOf, Cond.code yX7_kindOf cX7_kindOf 6 (some .int), Cond.methodLink RX7 197 yX7_near, Cond.instanceMethod yX7_near, Cond.selects RX7 yX7_near yX7_near, Cond.code yX7_near cX7_near 2 (some .int), Cond.methodLink RX7 187 yX7_within, Cond.instanceMethod yX7_within, Cond.selects RX7 yX7_within yX7_within, Cond.code yX7_within cX7_within 5 (some .int), Cond.methodLink RX7 184 yX7_layFar]
def wsL_law_r21 : List Cond := [Cond.instanceMethod yX7_layFar, Cond.selects RX7 yX7_layFar yX7_layFar, Cond.code yX7_layFar cX7_layFar 6 none, Cond.methodLink RX7 180 yX7_areNext, Cond.instanceMethod yX7_areNext, Cond.selects RX7 yX7_areNext yX7_areNext, Cond.code yX7_areNext cX7_areNext 3 (some .boolean), Cond.methodLink RL 43 yX6_called, Cond.instanceMethod yX6_called, Cond.selects RX6 yX6_called yX6_called, Cond.code yX6_called cX6_called 2 (some .long), Cond.fieldLink RX6 107 "SumNames$World" "words" "[J", Cond.constantLong RX6 111 (-2), Cond.methodLink RL 47 yX7_called, Cond.instanceMethod yX7_called, Cond.selects RX7 yX7_called yX7_called, Cond.code yX7_called cX7_called 2 (some .long), Cond.constantLong RX7 200 (-2), Cond.methodLink RL 48 yX6_degrees, Cond.instanceMethod yX6_degrees, Cond.selects RX6 yX6_degrees yX6_degrees, Cond.code yX6_degrees cX6_degrees 3 (some .int), Cond.methodLink RX6 113 yX5_stepsBetween, Cond.instanceMethod yX5_stepsBetween]
def wsL_law_r22 : List Cond := [Cond.selects RX5 yX5_stepsBetween yX5_stepsBetween, Cond.code yX5_stepsBetween cX5_stepsBetween 5 (some .int), Cond.methodLink RL 51 yX7_degrees, Cond.instanceMethod yX7_degrees, Cond.selects RX7 yX7_degrees yX7_degrees, Cond.code yX7_degrees cX7_degrees 3 (some .int), Cond.methodLink RL 52 yX6_as, Cond.instanceMethod yX6_as, Cond.selects RX6 yX6_as yX6_as, Cond.code yX6_as cX6_as 3 (some .int), Cond.methodLink RX6 117 yX6_isOfKind, Cond.static yX6_isOfKind, Cond.code yX6_isOfKind cX6_isOfKind 2 (some .boolean), Cond.methodLink RX6 121 yJ6_bitCount_0f7a4, Cond.static yJ6_bitCount_0f7a4, Cond.initialized RJ6, Cond.code yJ6_bitCount_0f7a4 cJ6_bitCount_0f7a4 1 (some .int), Cond.constant RJ6 265 (1431655765), Cond.constant RJ6 266 (858993459), Cond.constant RJ6 267 (252645135), Cond.methodLink RL 55 yX7_as, Cond.instanceMethod yX7_as, Cond.selects RX7 yX7_as yX7_as, Cond.code yX7_as cX7_as 5 (some .int)]
def wsL_law_r23 : List Cond := [Cond.constantLong RX7 202 (3), Cond.methodLink RX7 204 yX7_bits, Cond.static yX7_bits, Cond.code yX7_bits cX7_bits 3 (some .int), Cond.methodLink RL 56 yX6_sum, Cond.instanceMethod yX6_sum, Cond.selects RX6 yX6_sum yX6_sum, Cond.code yX6_sum cX6_sum 3 (some .int), Cond.methodLink RX6 126 yX6_lettersOf, Cond.static yX6_lettersOf, Cond.code yX6_lettersOf cX6_lettersOf 5 (some .int), Cond.constantLong RX6 308 (7625597484986), Cond.methodLink RX6 130 yX5_sumOf, Cond.instanceMethod yX5_sumOf, Cond.selects RX5 yX5_sumOf yX5_sumOf, Cond.code yX5_sumOf cX5_sumOf 8 (some .int), Cond.constantLong RX5 75 (27), Cond.methodLink RL 60 yX7_sum, Cond.instanceMethod yX7_sum, Cond.selects RX7 yX7_sum yX7_sum, Cond.code yX7_sum cX7_sum 3 (some .int), Cond.methodLink RX7 226 yX7_isCode, Cond.static yX7_isCode, Cond.code yX7_isCode cX7_isCode 5 (some .boolean)]
def wsL_law_r24 : List Cond := [Cond.methodLink RX7 207 yX7_lettersOf, Cond.static yX7_lettersOf, Cond.code yX7_lettersOf cX7_lettersOf 5 (some .int), Cond.methodLink RX7 229 yX7_sumOf, Cond.instanceMethod yX7_sumOf, Cond.selects RX7 yX7_sumOf yX7_sumOf, Cond.code yX7_sumOf cX7_sumOf 6 (some .int), Cond.methodLink RL 61 yX6_name, Cond.instanceMethod yX6_name, Cond.selects RX6 yX6_name yX6_name, Cond.code yX6_name cX6_name 3 (some .int), Cond.methodLink RX6 133 yX5_isName, Cond.instanceMethod yX5_isName, Cond.selects RX5 yX5_isName yX5_isName, Cond.code yX5_isName cX5_isName 3 (some .boolean), Cond.methodLink RX5 80 yX5_sumInNames, Cond.instanceMethod yX5_sumInNames, Cond.selects RX5 yX5_sumInNames yX5_sumInNames, Cond.code yX5_sumInNames cX5_sumInNames 7 (some .int), Cond.methodLink RX5 77 yX5_sumOf, Cond.methodLink RX5 83 yX5_isParted, Cond.instanceMethod yX5_isParted, Cond.selects RX5 yX5_isParted yX5_isParted, Cond.code yX5_isParted cX5_isParted 7 (some .boolean)]
def wsL_law_r25 : List Cond := [Cond.methodLink RL 64 yX7_name, Cond.instanceMethod yX7_name, Cond.selects RX7 yX7_name yX7_name, Cond.code yX7_name cX7_name 3 (some .int), Cond.methodLink RX7 232 yX7_isName, Cond.instanceMethod yX7_isName, Cond.selects RX7 yX7_isName yX7_isName, Cond.code yX7_isName cX7_isName 10 (some .boolean), Cond.methodLink RX7 214 yX7_isBare, Cond.instanceMethod yX7_isBare, Cond.selects RX7 yX7_isBare yX7_isBare, Cond.code yX7_isBare cX7_isBare 6 (some .boolean), Cond.methodLink RX7 222 yX7_joined, Cond.static yX7_joined, Cond.code yX7_joined cX7_joined 7 (some .long), Cond.methodLink RL 65 yX6_judge, Cond.instanceMethod yX6_judge, Cond.selects RX6 yX6_judge yX6_judge, Cond.code yX6_judge cX6_judge 2 (some .int), Cond.methodLink RX6 137 yX5_faultOfName, Cond.instanceMethod yX5_faultOfName, Cond.selects RX5 yX5_faultOfName yX5_faultOfName, Cond.code yX5_faultOfName cX5_faultOfName 4 (some .int), Cond.methodLink RX5 87 yX5_isName]
def wsL_law_r26 : List Cond := [Cond.methodLink RX5 90 yX5_addsUp, Cond.instanceMethod yX5_addsUp, Cond.selects RX5 yX5_addsUp yX5_addsUp, Cond.code yX5_addsUp cX5_addsUp 2 (some .boolean), Cond.methodLink RX5 93 yX5_nearOf, Cond.methodLink RX5 97 yX5_leastCalled, Cond.instanceMethod yX5_leastCalled, Cond.selects RX5 yX5_leastCalled yX5_leastCalled, Cond.code yX5_leastCalled cX5_leastCalled 5 (some .int), Cond.methodLink RL 68 yX7_judge, Cond.instanceMethod yX7_judge, Cond.selects RX7 yX7_judge yX7_judge, Cond.code yX7_judge cX7_judge 2 (some .int), Cond.methodLink RX7 238 yX7_takerOf, Cond.instanceMethod yX7_takerOf, Cond.selects RX7 yX7_takerOf yX7_takerOf, Cond.code yX7_takerOf cX7_takerOf 4 (some .int), Cond.methodLink RX7 235 yX7_has, Cond.static yX7_has, Cond.code yX7_has cX7_has 2 (some .boolean), Cond.methodLink RL 69 yX6_taker, Cond.instanceMethod yX6_taker, Cond.selects RX6 yX6_taker yX6_taker, Cond.code yX6_taker cX6_taker 2 (some .int)]
def wsL_law_r27 : List Cond := [Cond.methodLink RX6 140 yX5_leastCalled, Cond.methodLink RL 72 yX7_taker, Cond.instanceMethod yX7_taker, Cond.selects RX7 yX7_taker yX7_taker, Cond.code yX7_taker cX7_taker 2 (some .int), Cond.methodLink RX7 241 yX7_judge, Cond.methodLink RL 73 yX6_names, Cond.instanceMethod yX6_names, Cond.selects RX6 yX6_names yX6_names, Cond.code yX6_names cX6_names 5 (some .int), Cond.fieldLink RX6 151 "SumNames$NameRow" "size" "I", Cond.fieldLink RX6 154 "SumNames$NameRow" "codes" "[J", Cond.methodLink RX6 144 yX6_isDay, Cond.static yX6_isDay, Cond.code yX6_isDay cX6_isDay 1 (some .boolean), Cond.methodLink RX6 147 yX0_gather, Cond.instanceMethod yX0_gather, Cond.selects RX0 yX0_gather yX0_gather, Cond.code yX0_gather cX0_gather 4 none, Cond.methodLink RX0 39 yX0_findParts, Cond.instanceMethod yX0_findParts, Cond.selects RX0 yX0_findParts yX0_findParts, Cond.code yX0_findParts cX0_findParts 6 none, Cond.fieldLink RX0 53 "SumNames$World" "syllableCount" "I"]
def wsL_law_r28 : List Cond := [Cond.fieldLink RX0 58 "SumNames$World" "syllables" "[J", Cond.methodLink RX0 61 yX5_sumInNames, Cond.methodLink RX0 65 yX0_shiftOf, Cond.static yX0_shiftOf, Cond.code yX0_shiftOf cX0_shiftOf 5 (some .long), Cond.constantLong RX0 69 (27), Cond.methodLink RX0 43 yX0_join, Cond.instanceMethod yX0_join, Cond.selects RX0 yX0_join yX0_join, Cond.code yX0_join cX0_join 9 none, Cond.methodLink RX0 71 yX0_addIfWanted, Cond.instanceMethod yX0_addIfWanted, Cond.selects RX0 yX0_addIfWanted yX0_addIfWanted, Cond.code yX0_addIfWanted cX0_addIfWanted 5 none, Cond.methodLink RX0 47 yX0_sort, Cond.instanceMethod yX0_sort, Cond.selects RX0 yX0_sort yX0_sort, Cond.code yX0_sort cX0_sort 9 none, Cond.fieldLink RX0 75 "SumNames$NameRow" "GAPS" "[I", Cond.methodLink RX0 50 yX0_dropLike, Cond.instanceMethod yX0_dropLike, Cond.selects RX0 yX0_dropLike yX0_dropLike, Cond.code yX0_dropLike cX0_dropLike 3 none, Cond.methodLink RL 76 yX7_names]
def wsL_law_r29 : List Cond := [Cond.instanceMethod yX7_names, Cond.selects RX7 yX7_names yX7_names, Cond.code yX7_names cX7_names 5 (some .int), Cond.constantLong RX7 249 (9), Cond.fieldLink RX7 211 "SumNamesModel" "nameMany" "I", Cond.methodLink RX7 246 yX7_isDay, Cond.static yX7_isDay, Cond.code yX7_isDay cX7_isDay 1 (some .boolean), Cond.constantLong RX7 244 (400), Cond.methodLink RX7 251 yX7_layNames, Cond.instanceMethod yX7_layNames, Cond.selects RX7 yX7_layNames yX7_layNames, Cond.code yX7_layNames cX7_layNames 9 none, Cond.methodLink RX7 218 yX7_addName, Cond.instanceMethod yX7_addName, Cond.selects RX7 yX7_addName yX7_addName, Cond.code yX7_addName cX7_addName 5 none, Cond.methodLink RL 77 yX6_which, Cond.instanceMethod yX6_which, Cond.selects RX6 yX6_which yX6_which, Cond.code yX6_which cX6_which 3 (some .long), Cond.constantLong RX6 157 (-3), Cond.constantLong RX6 159 (-1), Cond.methodLink RL 81 yX7_which]
def wsL_law_r30 : List Cond := [Cond.instanceMethod yX7_which, Cond.selects RX7 yX7_which yX7_which, Cond.code yX7_which cX7_which 5 (some .long), Cond.constantLong RX7 254 (-3), Cond.methodLink RL 82 yX6_free, Cond.instanceMethod yX6_free, Cond.selects RX6 yX6_free yX6_free, Cond.code yX6_free cX6_free 3 (some .long), Cond.methodLink RX6 161 yX0_dropCalled, Cond.instanceMethod yX0_dropCalled, Cond.selects RX0 yX0_dropCalled yX0_dropCalled, Cond.code yX0_dropCalled cX0_dropCalled 5 none, Cond.methodLink RX0 78 yX5_leastCalled, Cond.methodLink RL 85 yX7_free, Cond.instanceMethod yX7_free, Cond.selects RX7 yX7_free yX7_free, Cond.code yX7_free cX7_free 6 (some .long), Cond.methodLink RX7 256 yX7_isFree, Cond.instanceMethod yX7_isFree, Cond.selects RX7 yX7_isFree yX7_isFree, Cond.code yX7_isFree cX7_isFree 6 (some .boolean), Cond.methodLink RL 86 yX6_hopes, Cond.instanceMethod yX6_hopes, Cond.selects RX6 yX6_hopes yX6_hopes]
def wsL_law_r31 : List Cond := [Cond.code yX6_hopes cX6_hopes 10 (some .long), Cond.fieldLink RX6 179 "SumNames$World" "hopeCount" "I", Cond.constantLong RX6 182 (10), Cond.methodLink RX6 165 yX6_isZeroOrOne, Cond.static yX6_isZeroOrOne, Cond.code yX6_isZeroOrOne cX6_isZeroOrOne 1 (some .boolean), Cond.methodLink RX6 168 yX5_nearChildOf, Cond.instanceMethod yX5_nearChildOf, Cond.selects RX5 yX5_nearChildOf yX5_nearChildOf, Cond.code yX5_nearChildOf cX5_nearChildOf 3 (some .int), Cond.methodLink RX6 171 yX6_findRooms, Cond.instanceMethod yX6_findRooms, Cond.selects RX6 yX6_findRooms yX6_findRooms, Cond.code yX6_findRooms cX6_findRooms 3 none, Cond.fieldLink RX6 188 "SumNames$World" "hopeDays" "[I", Cond.methodLink RX6 175 yX6_waysWithNames, Cond.instanceMethod yX6_waysWithNames, Cond.selects RX6 yX6_waysWithNames yX6_waysWithNames, Cond.code yX6_waysWithNames cX6_waysWithNames 4 (some .long), Cond.methodLink RX6 191 yX6_allHaveNames, Cond.instanceMethod yX6_allHaveNames, Cond.selects RX6 yX6_allHaveNames yX6_allHaveNames, Cond.code yX6_allHaveNames cX6_allHaveNames 3 (some .boolean), Cond.methodLink RX6 198 yX6_comingWith]
def wsL_law_r32 : List Cond := [Cond.instanceMethod yX6_comingWith, Cond.selects RX6 yX6_comingWith yX6_comingWith, Cond.code yX6_comingWith cX6_comingWith 5 (some .int), Cond.methodLink RX6 194 yX6_waysOfComing, Cond.instanceMethod yX6_waysOfComing, Cond.selects RX6 yX6_waysOfComing yX6_waysOfComing, Cond.code yX6_waysOfComing cX6_waysOfComing 6 (some .long), Cond.fieldLink RX6 201 "SumNames$World" "hopeTenths" "[I", Cond.methodLink RX6 184 yX6_commonDivisor, Cond.static yX6_commonDivisor, Cond.code yX6_commonDivisor cX6_commonDivisor 11 (some .long), Cond.methodLink RX6 315 Lib.MathLoose.max_long.x, Cond.static Lib.MathLoose.max_long.x, Cond.initialized "java/lang/Math", Cond.code Lib.MathLoose.max_long.x Lib.MathLoose.max_long.code 4 (some .long), Cond.methodLink RL 90 yX7_hopes, Cond.instanceMethod yX7_hopes, Cond.selects RX7 yX7_hopes yX7_hopes, Cond.code yX7_hopes cX7_hopes 13 (some .long), Cond.constantLong RX7 259 (10), Cond.methodLink RX7 261 yX7_allNamed, Cond.instanceMethod yX7_allNamed, Cond.selects RX7 yX7_allNamed yX7_allNamed, Cond.code yX7_allNamed cX7_allNamed 6 (some .boolean)]
def wsL_law_r33 : List Cond := [Cond.methodLink RX7 264 yX7_divisor, Cond.static yX7_divisor, Cond.code yX7_divisor cX7_divisor 10 (some .long), Cond.methodLink RL 91 yX6_without, Cond.instanceMethod yX6_without, Cond.selects RX6 yX6_without yX6_without, Cond.code yX6_without cX6_without 4 (some .int), Cond.methodLink RX6 204 yX6_areDays, Cond.static yX6_areDays, Cond.code yX6_areDays cX6_areDays 2 (some .boolean), Cond.methodLink RX6 207 yX2_measure, Cond.instanceMethod yX2_measure, Cond.selects RX2 yX2_measure yX2_measure, Cond.code yX2_measure cX2_measure 4 none, Cond.fieldLink RX2 19 "SumNames$World" "syllableCount" "I", Cond.fieldLink RX2 25 "SumNames$World" "syllables" "[J", Cond.methodLink RX2 29 yX5_sumInNames, Cond.methodLink RX2 33 yX2_addPart, Cond.instanceMethod yX2_addPart, Cond.selects RX2 yX2_addPart yX2_addPart, Cond.code yX2_addPart cX2_addPart 3 none, Cond.methodLink RX2 37 Lib.Math.min.name, Cond.static Lib.Math.min.name, Cond.code Lib.Math.min.name Lib.Math.min.code 2 (some .int)]
def wsL_law_r34 : List Cond := [Cond.methodLink RX6 210 yX2_daysWithout, Cond.instanceMethod yX2_daysWithout, Cond.selects RX2 yX2_daysWithout yX2_daysWithout, Cond.code yX2_daysWithout cX2_daysWithout 5 (some .int), Cond.methodLink RX6 213 yX2_firstWithout, Cond.instanceMethod yX2_firstWithout, Cond.selects RX2 yX2_firstWithout yX2_firstWithout, Cond.code yX2_firstWithout cX2_firstWithout 4 (some .int), Cond.methodLink RL 95 yX7_without, Cond.instanceMethod yX7_without, Cond.selects RX7 yX7_without yX7_without, Cond.code yX7_without cX7_without 4 (some .int), Cond.methodLink RX7 276 yX7_areDays, Cond.static yX7_areDays, Cond.code yX7_areDays cX7_areDays 2 (some .boolean), Cond.methodLink RX7 279 yX7_laySums, Cond.instanceMethod yX7_laySums, Cond.selects RX7 yX7_laySums yX7_laySums, Cond.code yX7_laySums cX7_laySums 2 none, Cond.fieldLink RX7 267 "SumNamesModel" "sumMany" "I", Cond.methodLink RX7 273 yX7_layNamed, Cond.instanceMethod yX7_layNamed, Cond.selects RX7 yX7_layNamed yX7_layNamed, Cond.code yX7_layNamed cX7_layNamed 4 none]
def wsL_law_r35 : List Cond := [Cond.methodLink RX7 270 yX7_mark, Cond.instanceMethod yX7_mark, Cond.selects RX7 yX7_mark yX7_mark, Cond.code yX7_mark cX7_mark 2 none, Cond.methodLink RX7 282 yX7_bare, Cond.instanceMethod yX7_bare, Cond.selects RX7 yX7_bare yX7_bare, Cond.code yX7_bare cX7_bare 6 (some .int), Cond.methodLink RL 96 yX6_mend, Cond.instanceMethod yX6_mend, Cond.selects RX6 yX6_mend yX6_mend, Cond.code yX6_mend cX6_mend 3 (some .long), Cond.fieldLink RX6 216 "SumNames$World" "syllableCount" "I", Cond.constantLong RX6 219 (-4), Cond.methodLink RX6 221 yX2_mendingSyllable, Cond.instanceMethod yX2_mendingSyllable, Cond.selects RX2 yX2_mendingSyllable yX2_mendingSyllable, Cond.code yX2_mendingSyllable cX2_mendingSyllable 7 (some .long), Cond.constantLong RX2 43 (728), Cond.constantLong RX2 49 (-1), Cond.methodLink RX2 45 yX2_mendsAll, Cond.instanceMethod yX2_mendsAll, Cond.selects RX2 yX2_mendsAll yX2_mendsAll, Cond.code yX2_mendsAll cX2_mendsAll 5 (some .boolean)]
def wsL_law_r36 : List Cond := [Cond.methodLink RX2 51 yX2_hasNameWith, Cond.instanceMethod yX2_hasNameWith, Cond.selects RX2 yX2_hasNameWith yX2_hasNameWith, Cond.code yX2_hasNameWith cX2_hasNameWith 5 (some .boolean), Cond.methodLink RL 99 yX7_mend, Cond.instanceMethod yX7_mend, Cond.selects RX7 yX7_mend yX7_mend, Cond.code yX7_mend cX7_mend 6 (some .long), Cond.constantLong RX7 286 (-4), Cond.constantLong RX7 288 (729), Cond.methodLink RX7 290 yX7_isSyl, Cond.instanceMethod yX7_isSyl, Cond.selects RX7 yX7_isSyl yX7_isSyl, Cond.code yX7_isSyl cX7_isSyl 5 (some .boolean), Cond.methodLink RL 100 yX6_old, Cond.instanceMethod yX6_old, Cond.selects RX6 yX6_old yX6_old, Cond.code yX6_old cX6_old 3 (some .int), Cond.fieldLink RX6 229 "SumNames$OldNames" "ways" "I", Cond.methodLink RX6 225 yX1_solve, Cond.instanceMethod yX1_solve, Cond.selects RX1 yX1_solve yX1_solve, Cond.code yX1_solve cX1_solve 4 (some .boolean), Cond.fieldLink RX1 49 "SumNames$World" "personCount" "I"]
def wsL_law_r37 : List Cond := [Cond.fieldLink RX1 54 "SumNames$World" "words" "[J", Cond.fieldLink RX1 58 "SumNames$World" "days" "[I", Cond.methodLink RX1 45 yX1_findLetters, Cond.instanceMethod yX1_findLetters, Cond.selects RX1 yX1_findLetters yX1_findLetters, Cond.code yX1_findLetters cX1_findLetters 3 (some .boolean), Cond.methodLink RX1 69 yX1_isInAny, Cond.static yX1_isInAny, Cond.code yX1_isInAny cX1_isInAny 3 (some .boolean), Cond.static yX6_timesIn, Cond.code yX6_timesIn cX6_timesIn 7 (some .int), Cond.methodLink RX6 312 yX6_lastLetter, Cond.methodLink RX1 61 yX1_addWord, Cond.instanceMethod yX1_addWord, Cond.selects RX1 yX1_addWord yX1_addWord, Cond.code yX1_addWord cX1_addWord 6 none, Cond.methodLink RX1 65 yX1_give, Cond.instanceMethod yX1_give, Cond.selects RX1 yX1_give yX1_give, Cond.code yX1_give cX1_give 4 none, Cond.methodLink RX1 77 yX1_addWay, Cond.instanceMethod yX1_addWay, Cond.selects RX1 yX1_addWay yX1_addWay, Cond.code yX1_addWay cX1_addWay 1 none]
def wsL_law_r38 : List Cond := [Cond.methodLink RX1 91 arraycopyName, Cond.methodLink RX1 80 yX1_greatestFor, Cond.instanceMethod yX1_greatestFor, Cond.selects RX1 yX1_greatestFor yX1_greatestFor, Cond.code yX1_greatestFor cX1_greatestFor 4 (some .int), Cond.methodLink RX1 106 Lib.Math.min.name, Cond.methodLink RX1 97 yJ9_floorDiv_7cf53, Cond.static yJ9_floorDiv_7cf53, Cond.initialized RJ9, Cond.code yJ9_floorDiv_7cf53 cJ9_floorDiv_7cf53 3 (some .int), Cond.methodLink RX1 84 yX1_leastFor, Cond.instanceMethod yX1_leastFor, Cond.selects RX1 yX1_leastFor yX1_leastFor, Cond.code yX1_leastFor cX1_leastFor 5 (some .int), Cond.methodLink RX1 103 Lib.Math.max.name, Cond.static Lib.Math.max.name, Cond.code Lib.Math.max.name Lib.Math.max.code 2 (some .int), Cond.methodLink RX1 87 yX1_take, Cond.instanceMethod yX1_take, Cond.selects RX1 yX1_take yX1_take, Cond.code yX1_take cX1_take 4 none, Cond.methodLink RX6 232 yX1_firstNumberOf, Cond.instanceMethod yX1_firstNumberOf, Cond.selects RX1 yX1_firstNumberOf yX1_firstNumberOf]
def wsL_law_r39 : List Cond := [Cond.code yX1_firstNumberOf cX1_firstNumberOf 3 (some .int), Cond.methodLink RL 103 yX7_old, Cond.instanceMethod yX7_old, Cond.selects RX7 yX7_old yX7_old, Cond.code yX7_old cX7_old 9 (some .int), Cond.fieldLink RX7 293 "SumNamesModel" "usedMany" "I", Cond.methodLink RX7 296 yX7_layUsed, Cond.instanceMethod yX7_layUsed, Cond.selects RX7 yX7_layUsed yX7_layUsed, Cond.code yX7_layUsed cX7_layUsed 5 (some .boolean), Cond.methodLink RX7 299 yX7_figure, Cond.instanceMethod yX7_figure, Cond.selects RX7 yX7_figure yX7_figure, Cond.code yX7_figure cX7_figure 6 (some .int), Cond.methodLink RX7 303 yX7_allAdd, Cond.instanceMethod yX7_allAdd, Cond.selects RX7 yX7_allAdd yX7_allAdd, Cond.code yX7_allAdd cX7_allAdd 6 (some .boolean), Cond.methodLink RL 104 yX6_reform, Cond.instanceMethod yX6_reform, Cond.selects RX6 yX6_reform yX6_reform, Cond.code yX6_reform cX6_reform 4 (some .int), Cond.methodLink RX6 235 yX6_bestReformedLetter, Cond.instanceMethod yX6_bestReformedLetter]
def wsL_law_r40 : List Cond := [Cond.selects RX6 yX6_bestReformedLetter yX6_bestReformedLetter, Cond.code yX6_bestReformedLetter cX6_bestReformedLetter 5 (some .int), Cond.methodLink RX6 238 yX6_reformedNumber, Cond.instanceMethod yX6_reformedNumber, Cond.selects RX6 yX6_reformedNumber yX6_reformedNumber, Cond.code yX6_reformedNumber cX6_reformedNumber 7 (some .int), Cond.methodLink RX6 244 yX6_timesIn, Cond.methodLink RX6 241 yX6_calledAnew, Cond.instanceMethod yX6_calledAnew, Cond.selects RX6 yX6_calledAnew yX6_calledAnew, Cond.code yX6_calledAnew cX6_calledAnew 5 (some .int), Cond.fieldLink RX6 247 "SumNames$World" "personCount" "I", Cond.methodLink RX6 250 yX5_addsUp, Cond.methodLink RL 107 yX7_reform, Cond.instanceMethod yX7_reform, Cond.selects RX7 yX7_reform yX7_reform, Cond.code yX7_reform cX7_reform 10 (some .int), Cond.constantLong RX7 310 (2), Cond.methodLink RX7 306 yX7_timesIn, Cond.static yX7_timesIn, Cond.code yX7_timesIn cX7_timesIn 6 (some .int), Cond.methodLink RX7 312 yX7_anew, Cond.instanceMethod yX7_anew, Cond.selects RX7 yX7_anew yX7_anew]
def wsL_law_r41 : List Cond := [Cond.code yX7_anew cX7_anew 7 (some .int), Cond.methodLink RL 108 yX6_nicknames, Cond.instanceMethod yX6_nicknames, Cond.selects RX6 yX6_nicknames yX6_nicknames, Cond.code yX6_nicknames cX6_nicknames 3 (some .long), Cond.methodLink RX6 253 yX0_dropNoNicknames, Cond.instanceMethod yX0_dropNoNicknames, Cond.selects RX0 yX0_dropNoNicknames yX0_dropNoNicknames, Cond.code yX0_dropNoNicknames cX0_dropNoNicknames 5 none, Cond.static yX6_isLeftOf, Cond.code yX6_isLeftOf cX6_isLeftOf 9 (some .boolean), Cond.methodLink RL 111 yX7_nicknames, Cond.instanceMethod yX7_nicknames, Cond.selects RX7 yX7_nicknames yX7_nicknames, Cond.code yX7_nicknames cX7_nicknames 16 (some .long), Cond.methodLink RL 112 yX6_page, Cond.instanceMethod yX6_page, Cond.selects RX6 yX6_page yX6_page, Cond.code yX6_page cX6_page 8 (some .int), Cond.methodLink RX6 257 yX5_sumOfAll, Cond.instanceMethod yX5_sumOfAll, Cond.selects RX5 yX5_sumOfAll yX5_sumOfAll, Cond.code yX5_sumOfAll cX5_sumOfAll 4 (some .int), Cond.methodLink RX6 260 yX5_changesBy]
def wsL_law_r42 : List Cond := [Cond.instanceMethod yX5_changesBy, Cond.selects RX5 yX5_changesBy yX5_changesBy, Cond.code yX5_changesBy cX5_changesBy 9 (some .int), Cond.methodLink RX5 108 yX5_othersOfNumber, Cond.instanceMethod yX5_othersOfNumber, Cond.selects RX5 yX5_othersOfNumber yX5_othersOfNumber, Cond.code yX5_othersOfNumber cX5_othersOfNumber 5 (some .int), Cond.methodLink RL 115 yX7_page, Cond.instanceMethod yX7_page, Cond.selects RX7 yX7_page yX7_page, Cond.code yX7_page cX7_page 13 (some .int), Cond.constantLong RX7 315 (9999), Cond.methodLink RL 116 yX6_sheet, Cond.instanceMethod yX6_sheet, Cond.selects RX6 yX6_sheet yX6_sheet, Cond.code yX6_sheet cX6_sheet 4 (some .int), Cond.methodLink RX6 263 yX6_isSheet, Cond.static yX6_isSheet, Cond.code yX6_isSheet cX6_isSheet 1 (some .boolean), Cond.methodLink RX6 266 yX6_isLane, Cond.static yX6_isLane, Cond.code yX6_isLane cX6_isLane 1 (some .boolean), Cond.methodLink RX6 269 yX4_begin, Cond.instanceMethod yX4_begin]
def wsL_law_r43 : List Cond := [Cond.selects RX4 yX4_begin yX4_begin, Cond.code yX4_begin cX4_begin 4 none, Cond.methodLink RL 119 yX7_sheet, Cond.instanceMethod yX7_sheet, Cond.selects RX7 yX7_sheet yX7_sheet, Cond.code yX7_sheet cX7_sheet 5 (some .int), Cond.methodLink RX7 317 yX7_isSheet, Cond.static yX7_isSheet, Cond.code yX7_isSheet cX7_isSheet 1 (some .boolean), Cond.methodLink RL 120 yX6_tear, Cond.instanceMethod yX6_tear, Cond.selects RX6 yX6_tear yX6_tear, Cond.code yX6_tear cX6_tear 2 (some .int), Cond.fieldLink RX6 273 "SumNames$Sheet" "size" "I", Cond.methodLink RL 123 yX7_tear, Cond.instanceMethod yX7_tear, Cond.selects RX7 yX7_tear yX7_tear, Cond.code yX7_tear cX7_tear 2 (some .int), Cond.methodLink RL 124 yX6_lay, Cond.instanceMethod yX6_lay, Cond.selects RX6 yX6_lay yX6_lay, Cond.code yX6_lay cX6_lay 4 (some .int), Cond.methodLink RX6 274 yX4_isMissing, Cond.instanceMethod yX4_isMissing]
def wsL_law_r44 : List Cond := [Cond.selects RX4 yX4_isMissing yX4_isMissing, Cond.code yX4_isMissing cX4_isMissing 1 (some .boolean), Cond.methodLink RX6 278 yX4_hasPlaces, Cond.instanceMethod yX4_hasPlaces, Cond.selects RX4 yX4_hasPlaces yX4_hasPlaces, Cond.code yX4_hasPlaces cX4_hasPlaces 3 (some .boolean), Cond.methodLink RX6 281 yX4_put, Cond.instanceMethod yX4_put, Cond.selects RX4 yX4_put yX4_put, Cond.code yX4_put cX4_put 3 none, Cond.methodLink RL 127 yX7_lay, Cond.instanceMethod yX7_lay, Cond.selects RX7 yX7_lay yX7_lay, Cond.code yX7_lay cX7_lay 4 (some .int), Cond.methodLink RL 128 yX6_copy, Cond.instanceMethod yX6_copy, Cond.selects RX6 yX6_copy yX6_copy, Cond.code yX6_copy cX6_copy 8 (some .int), Cond.fieldLink RX6 284 "SumNames$Sheet" "lane" "I", Cond.fieldLink RX6 287 "SumNames$Sheet" "items" "[I", Cond.methodLink RX6 290 arraycopyName, Cond.methodLink RL 132 yX7_copy, Cond.instanceMethod yX7_copy, Cond.selects RX7 yX7_copy yX7_copy]
def wsL_law_r45 : List Cond := [Cond.code yX7_copy cX7_copy 8 (some .int), Cond.methodLink RL 133 yX6_hope, Cond.instanceMethod yX6_hope, Cond.selects RX6 yX6_hope yX6_hope, Cond.code yX6_hope cX6_hope 8 (some .int), Cond.methodLink RX6 296 yX4_hasOnlyDays, Cond.instanceMethod yX4_hasOnlyDays, Cond.selects RX4 yX4_hasOnlyDays yX4_hasOnlyDays, Cond.code yX4_hasOnlyDays cX4_hasOnlyDays 4 (some .boolean), Cond.methodLink RX6 299 yX5_addHope, Cond.methodLink RL 136 yX7_hope, Cond.instanceMethod yX7_hope, Cond.selects RX7 yX7_hope yX7_hope, Cond.code yX7_hope cX7_hope 8 (some .int), Cond.constantLong RX7 320 (6), Cond.methodLink RL 137 yX6_keep, Cond.instanceMethod yX6_keep, Cond.selects RX6 yX6_keep yX6_keep, Cond.code yX6_keep cX6_keep 2 (some .int), Cond.methodLink RX6 302 yX6_isImage, Cond.static yX6_isImage, Cond.code yX6_isImage cX6_isImage 1 (some .boolean), Cond.methodLink RL 140 yX7_keep, Cond.instanceMethod yX7_keep]
def wsL_law_r46 : List Cond := [Cond.selects RX7 yX7_keep yX7_keep, Cond.code yX7_keep cX7_keep 2 (some .int), Cond.methodLink RX7 322 yX7_move, Cond.instanceMethod yX7_move, Cond.selects RX7 yX7_move yX7_move, Cond.code yX7_move cX7_move 4 none, Cond.methodLink RL 141 yX6_back, Cond.instanceMethod yX6_back, Cond.selects RX6 yX6_back yX6_back, Cond.code yX6_back cX6_back 2 (some .int), Cond.methodLink RL 144 yX7_back, Cond.instanceMethod yX7_back, Cond.selects RX7 yX7_back yX7_back, Cond.code yX7_back cX7_back 2 (some .int), Cond.methodLink RL 145 yX6_count, Cond.instanceMethod yX6_count, Cond.selects RX6 yX6_count yX6_count, Cond.code yX6_count cX6_count 2 (some .int), Cond.fieldLink RX6 305 "SumNames$World" "degreesTold" "I", Cond.methodLink RL 148 yX7_count, Cond.instanceMethod yX7_count, Cond.selects RX7 yX7_count yX7_count, Cond.code yX7_count cX7_count 2 (some .int)]
def wsL_law : List Cond := (wsL_law_r1 ++ (wsL_law_r2 ++ (wsL_law_r3 ++ (wsL_law_r4 ++ (wsL_law_r5 ++ (wsL_law_r6 ++ (wsL_law_r7 ++ (wsL_law_r8 ++ (wsL_law_r9 ++ (wsL_law_r10 ++ (wsL_law_r11 ++ (wsL_law_r12 ++ (wsL_law_r13 ++ (wsL_law_r14 ++ (wsL_law_r15 ++ (wsL_law_r16 ++ (wsL_law_r17 ++ (wsL_law_r18 ++ (wsL_law_r19 ++ (wsL_law_r20 ++ (wsL_law_r21 ++ (wsL_law_r22 ++ (wsL_law_r23 ++ (wsL_law_r24 ++ (wsL_law_r25 ++ (wsL_law_r26 ++ (wsL_law_r27 ++ (wsL_law_r28 ++ (wsL_law_r29 ++ (wsL_law_r30 ++ (wsL_law_r31 ++ (wsL_law_r32 ++ (wsL_law_r33 ++ (wsL_law_r34 ++ (wsL_law_r35 ++ (wsL_law_r36 ++ (wsL_law_r37 ++ (wsL_law_r38 ++ (wsL_law_r39 ++ (wsL_law_r40 ++ (wsL_law_r41 ++ (wsL_law_r42 ++ (wsL_law_r43 ++ (wsL_law_r44 ++ (wsL_law_r45 ++ wsL_law_r46))))))))))))))))))))))))))))))))))))))))))))) ++ wsX60 ++ wsX70 ++ wsX50 ++ wsX30 ++ wsX00 ++ wsX20 ++ wsX10 ++ wsX40 ++ ([] : List Cond)
set_option maxRecDepth 20000 in
theorem wsL_law_in : ∀ w ∈ wsL_law, w ∈ lw_tbl := fun w h => (goodIn_p wsL_law [102, 105, 110, 183, 228, 261, 275, 316, 962, 359, 363, 1055, 1059, 368, 1064, 372, 376, 380, 387, 391, 395, 399, 408, 412, 416, 422, 426, 429, 432, 437, 440, 443, 446, 450, 460, 464, 467, 471, 475, 480, 484, 489, 493, 497, 502, 506, 511, 515, 520, 525, 529, 534, 539, 543, 1068, 1072, 1075, 1079, 1083, 1088, 1100, 1104, 1108, 1115, 1119, 1123, 549, 1127, 1132, 1136, 1140, 554, 1144, 559, 563, 567, 571, 575, 1149, 1153, 1157, 1161, 1165, 1169, 1173, 579, 1177, 584, 588, 1182, 592, 595, 598, 1186, 1190, 605, 608, 613, 1194, 1197, 1200, 1204, 620, 624, 628, 633, 1208, 1212, 1216, 1219, 637, 641, 646, 651, 1223, 1227, 1230, 655, 1234, 660, 663, 667, 671, 675, 680, 684, 688, 694, 1239, 1242, 1248, 1252, 698, 1256, 704, 708, 1261, 1265, 713, 716, 720, 724, 728, 732, 736, 740, 744, 747, 1269, 1274, 1277, 751, 754, 758, 763, 766, 770, 774, 1281, 1284, 1288, 1292, 1296, 1300, 778, 783, 788, 792, 1304, 1310, 797, 801, 805, 808, 811, 816, 820, 824, 829, 832, 837, 840, 844, 848, 1314, 1318, 1322, 1326, 852, 856, 860, 865, 1330, 1334, 1338, 870, 874, 877, 1342, 881, 885, 889, 893, 1346, 897, 900, 903, 907, 1351, 1354, 911, 1358, 915, 919, 923, 927, 1362, 931, 1366, 936, 940, 1370, 946, 949, 1375, 1379, 953, 1383, 957, 1387] (by decide +kernel) (by decide +kernel) w h).1
theorem inlX0 : ∀ w ∈ wsX00, w ∈ wsL_law := fun _ h => List.mem_append_left _ (List.mem_append_left _ (List.mem_append_left _ (List.mem_append_left _ (List.mem_append_right _ h))))
theorem inX0 : ∀ w ∈ wsX00, w ∈ lw_tbl := fun w h => wsL_law_in w (inlX0 w h)
theorem inlX1 : ∀ w ∈ wsX10, w ∈ wsL_law := fun _ h => List.mem_append_left _ (List.mem_append_left _ (List.mem_append_right _ h))
theorem inX1 : ∀ w ∈ wsX10, w ∈ lw_tbl := fun w h => wsL_law_in w (inlX1 w h)
theorem inlX2 : ∀ w ∈ wsX20, w ∈ wsL_law := fun _ h => List.mem_append_left _ (List.mem_append_left _ (List.mem_append_left _ (List.mem_append_right _ h)))
theorem inX2 : ∀ w ∈ wsX20, w ∈ lw_tbl := fun w h => wsL_law_in w (inlX2 w h)
theorem inlX3 : ∀ w ∈ wsX30, w ∈ wsL_law := fun _ h => List.mem_append_left _ (List.mem_append_left _ (List.mem_append_left _ (List.mem_append_left _ (List.mem_append_left _ (List.mem_append_right _ h)))))
theorem inX3 : ∀ w ∈ wsX30, w ∈ lw_tbl := fun w h => wsL_law_in w (inlX3 w h)
theorem inlX4 : ∀ w ∈ wsX40, w ∈ wsL_law := fun _ h => List.mem_append_left _ (List.mem_append_right _ h)
theorem inX4 : ∀ w ∈ wsX40, w ∈ lw_tbl := fun w h => wsL_law_in w (inlX4 w h)
theorem inlX5 : ∀ w ∈ wsX50, w ∈ wsL_law := fun _ h => List.mem_append_left _ (List.mem_append_left _ (List.mem_append_left _ (List.mem_append_left _ (List.mem_append_left _ (List.mem_append_left _ (List.mem_append_right _ h))))))
theorem inX5 : ∀ w ∈ wsX50, w ∈ lw_tbl := fun w h => wsL_law_in w (inlX5 w h)
theorem inlX6 : ∀ w ∈ wsX60, w ∈ wsL_law := fun _ h => List.mem_append_left _ (List.mem_append_left _ (List.mem_append_left _ (List.mem_append_left _ (List.mem_append_left _ (List.mem_append_left _ (List.mem_append_left _ (List.mem_append_left _ (List.mem_append_right _ h))))))))
theorem inX6 : ∀ w ∈ wsX60, w ∈ lw_tbl := fun w h => wsL_law_in w (inlX6 w h)
theorem inlX7 : ∀ w ∈ wsX70, w ∈ wsL_law := fun _ h => List.mem_append_left _ (List.mem_append_left _ (List.mem_append_left _ (List.mem_append_left _ (List.mem_append_left _ (List.mem_append_left _ (List.mem_append_left _ (List.mem_append_right _ h)))))))
theorem inX7 : ∀ w ∈ wsX70, w ∈ lw_tbl := fun w h => wsL_law_in w (inlX7 w h)
theorem inJ6 : ∀ w ∈ wsJ60, w ∈ lw_tbl := by decide +kernel
theorem inJ9 : ∀ w ∈ wsJ90, w ∈ lw_tbl := by decide +kernel
theorem inJ0 : ∀ w ∈ wsJ00, w ∈ lw_tbl := by decide +kernel
theorem inJ1 : ∀ w ∈ wsJ10, w ∈ lw_tbl := by decide +kernel
theorem inJ2 : ∀ w ∈ wsJ20, w ∈ lw_tbl := by decide +kernel
theorem inJ10 : ∀ w ∈ wsJ100, w ∈ lw_tbl := by decide +kernel
theorem inJ3 : ∀ w ∈ wsJ30, w ∈ lw_tbl := by decide +kernel
set_option maxRecDepth 20000 in
theorem ggX0_gather_X0_findParts : GoodIn wsX0_gather wsX0_findParts := goodIn_r _ [8, 9, 10, 11, 12, 13, 14, 15, 16, 17, 18, 19, 20, 21, 22, 23, 24, 25, 26, 27, 28, 29, 30, 31, 32, 33, 7, 34, 35, 54, 55, 56, 57, 58, 59, 60, 61, 62, 63, 64, 65, 66, 67, 68, 69, 70, 71, 72, 73, 74] (by decide +kernel) (by decide +kernel)
set_option maxRecDepth 20000 in
theorem gX0_gather_X0_findParts : GoodIn wsX0_gather (wsV RX0 39 RX0 yX0_findParts wsX0_findParts) := goodIn_app (goodIn_of _ (by decide +kernel)) ggX0_gather_X0_findParts
set_option maxRecDepth 20000 in
theorem ggX0_gather_X0_join : GoodIn wsX0_gather wsX0_join := goodIn_r _ [39, 9, 14, 1, 13, 12, 40, 41, 42, 7, 43, 2, 3, 44, 36, 37, 38, 54, 55, 56, 57, 58, 59, 60, 61] (by decide +kernel) (by decide +kernel)
set_option maxRecDepth 20000 in
theorem gX0_gather_X0_join : GoodIn wsX0_gather (wsV RX0 43 RX0 yX0_join wsX0_join) := goodIn_app (goodIn_of _ (by decide +kernel)) ggX0_gather_X0_join
set_option maxRecDepth 20000 in
theorem ggX0_gather_X0_sort : GoodIn wsX0_gather wsX0_sort := goodIn_r _ [48, 49, 3, 44, 54, 55, 56, 57, 58, 59, 60, 61] (by decide +kernel) (by decide +kernel)
set_option maxRecDepth 20000 in
theorem gX0_gather_X0_sort : GoodIn wsX0_gather (wsV RX0 47 RX0 yX0_sort wsX0_sort) := goodIn_app (goodIn_of _ (by decide +kernel)) ggX0_gather_X0_sort
set_option maxRecDepth 20000 in
theorem ggX0_gather_X0_dropLike : GoodIn wsX0_gather wsX0_dropLike := goodIn_r _ [53, 3, 44, 54, 55, 56, 57, 58, 59, 60, 61] (by decide +kernel) (by decide +kernel)
set_option maxRecDepth 20000 in
theorem gX0_gather_X0_dropLike : GoodIn wsX0_gather (wsV RX0 50 RX0 yX0_dropLike wsX0_dropLike) := goodIn_app (goodIn_of _ (by decide +kernel)) ggX0_gather_X0_dropLike
set_option maxRecDepth 20000 in
theorem ggX0_findParts_X5_sumInNames : GoodIn wsX0_findParts wsX5_sumInNames := goodIn_r _ [11, 12, 13, 14, 15, 16, 17, 18, 19, 20, 21, 22, 10, 23, 37, 38, 39, 40, 41, 42, 43, 44, 45, 46, 47, 48, 49] (by decide +kernel) (by decide +kernel)
set_option maxRecDepth 20000 in
theorem gX0_findParts_X5_sumInNames : GoodIn wsX0_findParts (wsV RX0 61 RX5 yX5_sumInNames wsX5_sumInNames) := goodIn_app (goodIn_of _ (by decide +kernel)) ggX0_findParts_X5_sumInNames
set_option maxRecDepth 20000 in
theorem ggX0_findParts_X0_shiftOf : GoodIn wsX0_findParts wsX0_shiftOf := goodIn_r _ [27, 28] (by decide +kernel) (by decide +kernel)
set_option maxRecDepth 20000 in
theorem gX0_findParts_X0_shiftOf : GoodIn wsX0_findParts (va_wsS RX0 65 yX0_shiftOf wsX0_shiftOf) := goodIn_app (goodIn_of _ (by decide +kernel)) ggX0_findParts_X0_shiftOf
set_option maxRecDepth 20000 in
theorem ggX0_join_X0_addIfWanted : GoodIn wsX0_join wsX0_addIfWanted := goodIn_r _ [10, 3, 11, 12, 13, 17, 18, 19, 20, 21, 22, 23, 24] (by decide +kernel) (by decide +kernel)
set_option maxRecDepth 20000 in
theorem gX0_join_X0_addIfWanted : GoodIn wsX0_join (wsV RX0 71 RX0 yX0_addIfWanted wsX0_addIfWanted) := goodIn_app (goodIn_of _ (by decide +kernel)) ggX0_join_X0_addIfWanted
set_option maxRecDepth 20000 in
theorem ggX0_join_X0_join : GoodIn wsX0_join wsX0_join := goodIn_r _ [0, 1, 2, 3, 4, 5, 6, 7, 8, 9, 10, 11, 12, 13, 14, 15, 16, 17, 18, 19, 20, 21, 22, 23, 24] (by decide +kernel) (by decide +kernel)
set_option maxRecDepth 20000 in
theorem gX0_join_X0_join : GoodIn wsX0_join (wsV RX0 43 RX0 yX0_join wsX0_join) := goodIn_app (goodIn_of _ (by decide +kernel)) ggX0_join_X0_join
set_option maxRecDepth 20000 in
theorem ggX0_dropCalled_X5_leastCalled : GoodIn wsX0_dropCalled wsX5_leastCalled := goodIn_r _ [7, 8, 9, 18, 19, 20, 21, 22, 23, 24, 25, 26, 27, 28, 29, 30] (by decide +kernel) (by decide +kernel)
set_option maxRecDepth 20000 in
theorem gX0_dropCalled_X5_leastCalled : GoodIn wsX0_dropCalled (wsV RX0 78 RX5 yX5_leastCalled wsX5_leastCalled) := goodIn_app (goodIn_of _ (by decide +kernel)) ggX0_dropCalled_X5_leastCalled
set_option maxRecDepth 20000 in
theorem ggX0_dropNoNicknames_X6_isLeftOf : GoodIn wsX0_dropNoNicknames wsX6_isLeftOf := goodIn_r _ [5, 6, 7, 8, 4, 9] (by decide +kernel) (by decide +kernel)
set_option maxRecDepth 20000 in
theorem gX0_dropNoNicknames_X6_isLeftOf_n82 : GoodIn wsX0_dropNoNicknames (wsX6_isLeftOf) := ggX0_dropNoNicknames_X6_isLeftOf
set_option maxRecDepth 20000 in
theorem ggX1_solve_X1_findLetters : GoodIn wsX1_solve wsX1_findLetters := goodIn_r _ [11, 12, 13, 14, 15, 10, 16, 4, 5, 17, 18, 19, 20, 21, 22, 23, 68, 69, 70, 71, 72, 73, 74, 75, 76, 77, 78, 79, 80, 81, 82, 83, 84, 85, 86, 87, 88, 89, 90] (by decide +kernel) (by decide +kernel)
set_option maxRecDepth 20000 in
theorem gX1_solve_X1_findLetters : GoodIn wsX1_solve (wsV RX1 45 RX1 yX1_findLetters wsX1_findLetters) := goodIn_app (goodIn_of _ (by decide +kernel)) ggX1_solve_X1_findLetters
set_option maxRecDepth 20000 in
theorem ggX1_solve_X1_addWord : GoodIn wsX1_solve wsX1_addWord := goodIn_r _ [27, 12, 28, 3, 29, 13, 30, 17, 18, 19, 20, 21, 22, 23, 68, 69, 70, 71, 72, 73, 74, 75, 76, 77] (by decide +kernel) (by decide +kernel)
set_option maxRecDepth 20000 in
theorem gX1_solve_X1_addWord : GoodIn wsX1_solve (wsV RX1 61 RX1 yX1_addWord wsX1_addWord) := goodIn_app (goodIn_of _ (by decide +kernel)) ggX1_solve_X1_addWord
set_option maxRecDepth 20000 in
theorem ggX1_solve_X1_give : GoodIn wsX1_solve wsX1_give := goodIn_r _ [34, 12, 35, 36, 37, 38, 10, 39, 1, 40, 41, 42, 43, 44, 45, 46, 47, 48, 2, 3, 29, 30, 28, 49, 50, 51, 52, 53, 54, 55, 56, 57, 58, 59, 60, 61, 62, 63, 64, 65, 66, 67, 31, 32, 33, 68, 69, 70, 71, 72, 73, 74, 75, 76, 77] (by decide +kernel) (by decide +kernel)
set_option maxRecDepth 20000 in
theorem gX1_solve_X1_give : GoodIn wsX1_solve (wsV RX1 65 RX1 yX1_give wsX1_give) := goodIn_app (goodIn_of _ (by decide +kernel)) ggX1_solve_X1_give
set_option maxRecDepth 20000 in
theorem ggX1_findLetters_X1_isInAny : GoodIn wsX1_findLetters wsX1_isInAny := goodIn_r _ [6, 7, 8, 9, 10, 11, 12, 13, 14, 15, 26, 27, 28, 29, 30, 31, 32, 33, 34, 35, 36, 37, 38] (by decide +kernel) (by decide +kernel)
set_option maxRecDepth 20000 in
theorem gX1_findLetters_X1_isInAny : GoodIn wsX1_findLetters (va_wsS RX1 69 yX1_isInAny wsX1_isInAny) := goodIn_app (goodIn_of _ (by decide +kernel)) ggX1_findLetters_X1_isInAny
set_option maxRecDepth 20000 in
theorem ggX1_isInAny_X6_timesIn : GoodIn wsX1_isInAny wsX6_timesIn := goodIn_r _ [5, 6, 7, 8, 4, 9] (by decide +kernel) (by decide +kernel)
set_option maxRecDepth 20000 in
theorem gX1_isInAny_X6_timesIn_n73 : GoodIn wsX1_isInAny (wsX6_timesIn) := ggX1_isInAny_X6_timesIn
set_option maxRecDepth 20000 in
theorem ggX1_addWord_X6_timesIn : GoodIn wsX1_addWord wsX6_timesIn := goodIn_r _ [9, 10, 11, 12, 8, 13] (by decide +kernel) (by decide +kernel)
set_option maxRecDepth 20000 in
theorem gX1_addWord_X6_timesIn_n73 : GoodIn wsX1_addWord (wsX6_timesIn) := ggX1_addWord_X6_timesIn
set_option maxRecDepth 20000 in
theorem ggX1_give_X1_addWay : GoodIn wsX1_give wsX1_addWay := goodIn_r _ [7, 8, 2, 9, 1, 10, 11, 12, 13, 45, 46, 47, 48, 49, 50, 51, 52, 53, 54] (by decide +kernel) (by decide +kernel)
set_option maxRecDepth 20000 in
theorem gX1_give_X1_addWay : GoodIn wsX1_give (wsV RX1 77 RX1 yX1_addWay wsX1_addWay) := goodIn_app (goodIn_of _ (by decide +kernel)) ggX1_give_X1_addWay
set_option maxRecDepth 20000 in
theorem ggX1_give_X1_greatestFor : GoodIn wsX1_give wsX1_greatestFor := goodIn_r _ [17, 18, 19, 20, 21, 22, 23, 24, 25, 26, 27, 28, 29, 30, 45, 46, 47, 48, 49, 50, 51, 52, 53, 54] (by decide +kernel) (by decide +kernel)
set_option maxRecDepth 20000 in
theorem gX1_give_X1_greatestFor : GoodIn wsX1_give (wsV RX1 80 RX1 yX1_greatestFor wsX1_greatestFor) := goodIn_app (goodIn_of _ (by decide +kernel)) ggX1_give_X1_greatestFor
set_option maxRecDepth 20000 in
theorem ggX1_give_X1_leastFor : GoodIn wsX1_give wsX1_leastFor := goodIn_r _ [34, 19, 20, 21, 22, 18, 35, 36, 25, 37, 27, 28, 29, 30, 45, 46, 47, 48, 49, 50, 51, 52, 53, 54] (by decide +kernel) (by decide +kernel)
set_option maxRecDepth 20000 in
theorem gX1_give_X1_leastFor : GoodIn wsX1_give (wsV RX1 84 RX1 yX1_leastFor wsX1_leastFor) := goodIn_app (goodIn_of _ (by decide +kernel)) ggX1_give_X1_leastFor
set_option maxRecDepth 20000 in
theorem ggX1_give_X1_take : GoodIn wsX1_give wsX1_take := goodIn_r _ [41, 19, 21, 20, 45, 46, 47, 48, 49, 50, 51, 52, 53, 54] (by decide +kernel) (by decide +kernel)
set_option maxRecDepth 20000 in
theorem gX1_give_X1_take : GoodIn wsX1_give (wsV RX1 87 RX1 yX1_take wsX1_take) := goodIn_app (goodIn_of _ (by decide +kernel)) ggX1_give_X1_take
set_option maxRecDepth 20000 in
theorem ggX1_give_X1_give : GoodIn wsX1_give wsX1_give := goodIn_r _ [0, 1, 2, 3, 4, 5, 6, 7, 8, 9, 10, 11, 12, 13, 14, 15, 16, 17, 18, 19, 20, 21, 22, 23, 24, 25, 26, 27, 28, 29, 30, 31, 32, 33, 34, 35, 36, 37, 38, 39, 40, 41, 42, 43, 44, 45, 46, 47, 48, 49, 50, 51, 52, 53, 54] (by decide +kernel) (by decide +kernel)
set_option maxRecDepth 20000 in
theorem gX1_give_X1_give : GoodIn wsX1_give (wsV RX1 65 RX1 yX1_give wsX1_give) := goodIn_app (goodIn_of _ (by decide +kernel)) ggX1_give_X1_give
set_option maxRecDepth 20000 in
theorem ggX1_leastFor_J9_floorDiv_7cf53 : GoodIn wsX1_leastFor wsJ9_floorDiv_7cf53 := goodIn_r _ [13] (by decide +kernel) (by decide +kernel)
set_option maxRecDepth 20000 in
theorem gX1_leastFor_J9_floorDiv_7cf53 : GoodIn wsX1_leastFor (va_wsS RX1 97 yJ9_floorDiv_7cf53 wsJ9_floorDiv_7cf53) := goodIn_app (goodIn_of _ (by decide +kernel)) ggX1_leastFor_J9_floorDiv_7cf53
set_option maxRecDepth 20000 in
theorem ggX1_greatestFor_J9_floorDiv_7cf53 : GoodIn wsX1_greatestFor wsJ9_floorDiv_7cf53 := goodIn_r _ [13] (by decide +kernel) (by decide +kernel)
set_option maxRecDepth 20000 in
theorem gX1_greatestFor_J9_floorDiv_7cf53 : GoodIn wsX1_greatestFor (va_wsS RX1 97 yJ9_floorDiv_7cf53 wsJ9_floorDiv_7cf53) := goodIn_app (goodIn_of _ (by decide +kernel)) ggX1_greatestFor_J9_floorDiv_7cf53
set_option maxRecDepth 20000 in
theorem ggX2_measure_X5_sumInNames : GoodIn wsX2_measure wsX5_sumInNames := goodIn_r _ [8, 9, 10, 11, 12, 13, 14, 15, 16, 17, 18, 19, 7, 20, 32, 33, 34, 35, 36, 37, 38, 39, 40, 41, 42, 43, 44] (by decide +kernel) (by decide +kernel)
set_option maxRecDepth 20000 in
theorem gX2_measure_X5_sumInNames : GoodIn wsX2_measure (wsV RX2 29 RX5 yX5_sumInNames wsX5_sumInNames) := goodIn_app (goodIn_of _ (by decide +kernel)) ggX2_measure_X5_sumInNames
set_option maxRecDepth 20000 in
theorem ggX2_measure_X2_addPart : GoodIn wsX2_measure wsX2_addPart := goodIn_r _ [25, 1, 26, 27, 28, 29, 30, 31] (by decide +kernel) (by decide +kernel)
set_option maxRecDepth 20000 in
theorem gX2_measure_X2_addPart : GoodIn wsX2_measure (wsV RX2 33 RX2 yX2_addPart wsX2_addPart) := goodIn_app (goodIn_of _ (by decide +kernel)) ggX2_measure_X2_addPart
set_option maxRecDepth 20000 in
theorem ggX2_mendingSyllable_X5_sumInNames : GoodIn wsX2_mendingSyllable wsX5_sumInNames := goodIn_r _ [8, 9, 10, 11, 12, 13, 14, 15, 16, 17, 18, 19, 7, 20, 33, 34, 35, 36, 37, 38, 39, 40, 41, 42, 43, 44, 45] (by decide +kernel) (by decide +kernel)
set_option maxRecDepth 20000 in
theorem gX2_mendingSyllable_X5_sumInNames : GoodIn wsX2_mendingSyllable (wsV RX2 29 RX5 yX5_sumInNames wsX5_sumInNames) := goodIn_app (goodIn_of _ (by decide +kernel)) ggX2_mendingSyllable_X5_sumInNames
set_option maxRecDepth 20000 in
theorem ggX2_mendingSyllable_X2_mendsAll : GoodIn wsX2_mendingSyllable wsX2_mendsAll := goodIn_r _ [25, 26, 27, 28, 24, 29, 30, 31, 32] (by decide +kernel) (by decide +kernel)
set_option maxRecDepth 20000 in
theorem gX2_mendingSyllable_X2_mendsAll : GoodIn wsX2_mendingSyllable (wsV RX2 45 RX2 yX2_mendsAll wsX2_mendsAll) := goodIn_app (goodIn_of _ (by decide +kernel)) ggX2_mendingSyllable_X2_mendsAll
set_option maxRecDepth 20000 in
theorem ggX2_mendsAll_X2_hasNameWith : GoodIn wsX2_mendsAll wsX2_hasNameWith := goodIn_r _ [5, 6, 7, 8] (by decide +kernel) (by decide +kernel)
set_option maxRecDepth 20000 in
theorem gX2_mendsAll_X2_hasNameWith : GoodIn wsX2_mendsAll (wsV RX2 51 RX2 yX2_hasNameWith wsX2_hasNameWith) := goodIn_app (goodIn_of _ (by decide +kernel)) ggX2_mendsAll_X2_hasNameWith
set_option maxRecDepth 20000 in
theorem ggX3_init_X5_init : GoodIn wsX3_init wsX5_init := goodIn_r _ [21, 22, 2, 3, 4, 23, 24, 25, 26, 27, 28, 29, 30, 31, 32, 33, 34, 35, 36, 48, 49, 50, 51, 52, 53, 54, 55, 56, 57, 58, 59, 60] (by decide +kernel) (by decide +kernel)
set_option maxRecDepth 20000 in
theorem gX3_init_X5_init : GoodIn wsX3_init (wsX5_init) := ggX3_init_X5_init
set_option maxRecDepth 20000 in
theorem ggX3_read_X5_takeFrom : GoodIn wsX3_read wsX5_takeFrom := goodIn_r _ [12, 13, 14, 15, 16, 17, 18, 19, 20, 21, 22, 23, 24, 25, 26, 27, 28, 29, 204, 205, 206, 207, 208, 209, 210, 211, 212, 213, 214, 215, 216] (by decide +kernel) (by decide +kernel)
set_option maxRecDepth 20000 in
theorem gX3_read_X5_takeFrom : GoodIn wsX3_read (wsV RX3 53 RX5 yX5_takeFrom wsX5_takeFrom) := goodIn_app (goodIn_of _ (by decide +kernel)) ggX3_read_X5_takeFrom
set_option maxRecDepth 20000 in
theorem ggX3_read_X3_readLine : GoodIn wsX3_read wsX3_readLine := goodIn_r _ [34, 5, 1, 6, 35, 36, 37, 38, 33, 39, 2, 40, 41, 3, 42, 43, 44, 45, 46, 47, 48, 49, 50, 51, 52, 53, 54, 55, 56, 57, 58, 59, 60, 61, 62, 63, 64, 65, 66, 67, 68, 69, 70, 71, 72, 73, 74, 75, 76, 77, 78, 79, 80, 81, 82, 83, 84, 85, 86, 87, 88, 89, 90, 91, 92, 93, 94, 95, 96, 97, 98, 99, 100, 101, 102, 103, 104, 105, 106, 107, 108, 109, 110, 111, 112, 113, 114, 115, 116, 117, 118, 119, 120, 121, 122, 123, 124, 125, 126, 127, 128, 129, 11, 130, 19, 18, 131, 132, 133, 134, 135, 136, 137, 138, 139, 140, 141, 142, 143, 144, 145, 146, 147, 148, 149, 150, 151, 152, 153, 25, 24, 22, 23, 20, 21, 154, 155, 156, 157, 158, 159, 160, 161, 162, 163, 164, 165, 166, 167, 168, 169, 170, 171, 172, 173, 174, 175, 176, 177, 178, 179, 28, 26, 27, 180, 181, 182, 183, 184, 185, 186, 187, 188, 189, 190, 191, 192, 193, 194, 195, 196, 197, 198, 199, 200, 201, 202, 203, 204, 205, 206, 207, 208, 209, 210, 211, 212, 213, 214, 215, 216] (by decide +kernel) (by decide +kernel)
set_option maxRecDepth 20000 in
theorem gX3_read_X3_readLine : GoodIn wsX3_read (wsV RX3 57 RX3 yX3_readLine wsX3_readLine) := goodIn_app (goodIn_of _ (by decide +kernel)) ggX3_read_X3_readLine
set_option maxRecDepth 20000 in
theorem ggX3_read_X3_readToken : GoodIn wsX3_read wsX3_readToken := goodIn_r _ [39, 2, 40, 41, 3, 6, 5, 42, 43, 44, 45, 33, 46, 47, 48, 49, 50, 51, 52, 53, 54, 193, 194, 195, 196, 197, 198, 199, 200, 201, 202, 203] (by decide +kernel) (by decide +kernel)
set_option maxRecDepth 20000 in
theorem gX3_read_X3_readToken : GoodIn wsX3_read (wsV RX3 61 RX3 yX3_readToken wsX3_readToken) := goodIn_app (goodIn_of _ (by decide +kernel)) ggX3_read_X3_readToken
set_option maxRecDepth 20000 in
theorem ggX3_readLine_X3_readToken : GoodIn wsX3_readLine wsX3_readToken := goodIn_r _ [9, 10, 11, 12, 13, 3, 1, 14, 15, 16, 17, 8, 18, 19, 20, 21, 22, 23, 24, 25, 26, 177, 178, 179, 180, 181, 182, 183, 184, 185, 186, 187] (by decide +kernel) (by decide +kernel)
set_option maxRecDepth 20000 in
theorem gX3_readLine_X3_readToken : GoodIn wsX3_readLine (wsV RX3 61 RX3 yX3_readToken wsX3_readToken) := goodIn_app (goodIn_of _ (by decide +kernel)) ggX3_readLine_X3_readToken
set_option maxRecDepth 20000 in
theorem ggX3_readLine_X3_says : GoodIn wsX3_readLine wsX3_says := goodIn_r _ [30, 14, 12, 13, 31, 32, 33, 34, 35, 36, 37, 38, 39, 40, 41, 42, 43, 44, 45, 46, 47, 48, 49, 50, 51, 52, 53, 54, 55, 56, 57, 58, 59, 60, 61, 62, 63, 64, 65, 66, 67, 68, 69, 70, 71, 72, 73, 74, 75, 76, 77, 78, 79, 177, 178, 179, 180, 181, 182, 183, 184, 185, 186, 187] (by decide +kernel) (by decide +kernel)
set_option maxRecDepth 20000 in
theorem gX3_readLine_X3_says : GoodIn wsX3_readLine (wsV RX3 68 RX3 yX3_says wsX3_says) := goodIn_app (goodIn_of _ (by decide +kernel)) ggX3_readLine_X3_says
set_option maxRecDepth 20000 in
theorem ggX3_readLine_X3_readLetter : GoodIn wsX3_readLine wsX3_readLetter := goodIn_r _ [83, 3, 2, 84, 85, 86, 87, 8, 88, 1, 14, 5, 6, 7, 9, 10, 11, 12, 13, 15, 16, 17, 18, 19, 20, 21, 22, 23, 24, 25, 26, 89, 90, 91, 92, 93, 94, 95, 96, 97, 98, 177, 178, 179, 180, 181, 182, 183, 184, 185, 186, 187, 188, 189, 190, 191, 192, 193, 194, 195, 196, 197, 198, 199, 200] (by decide +kernel) (by decide +kernel)
set_option maxRecDepth 20000 in
theorem gX3_readLine_X3_readLetter : GoodIn wsX3_readLine (wsV RX3 72 RX3 yX3_readLetter wsX3_readLetter) := goodIn_app (goodIn_of _ (by decide +kernel)) ggX3_readLine_X3_readLetter
set_option maxRecDepth 20000 in
theorem ggX3_readLine_X3_readWord : GoodIn wsX3_readLine wsX3_readWord := goodIn_r _ [88, 1, 14, 5, 6, 7, 8, 9, 10, 11, 12, 13, 3, 15, 16, 17, 18, 19, 20, 21, 22, 23, 24, 25, 26, 177, 178, 179, 180, 181, 182, 183, 184, 185, 186, 187] (by decide +kernel) (by decide +kernel)
set_option maxRecDepth 20000 in
theorem gX3_readLine_X3_readWord : GoodIn wsX3_readLine (wsV RX3 77 RX3 yX3_readWord wsX3_readWord) := goodIn_app (goodIn_of _ (by decide +kernel)) ggX3_readLine_X3_readWord
set_option maxRecDepth 20000 in
theorem ggX3_readLine_X5_addSyllable : GoodIn wsX3_readLine wsX5_addSyllable := goodIn_r _ [103, 104, 105, 106, 107, 108, 102, 109, 188, 189, 190, 191, 192, 193, 194, 195, 196, 197, 198, 199, 200] (by decide +kernel) (by decide +kernel)
set_option maxRecDepth 20000 in
theorem gX3_readLine_X5_addSyllable : GoodIn wsX3_readLine (wsV RX3 81 RX5 yX5_addSyllable wsX5_addSyllable) := goodIn_app (goodIn_of _ (by decide +kernel)) ggX3_readLine_X5_addSyllable
set_option maxRecDepth 20000 in
theorem ggX3_readLine_X3_readNoParents : GoodIn wsX3_readLine wsX3_readNoParents := goodIn_r _ [113, 114, 115, 177, 178, 179, 180, 181, 182, 183, 184, 185, 186, 187] (by decide +kernel) (by decide +kernel)
set_option maxRecDepth 20000 in
theorem gX3_readLine_X3_readNoParents : GoodIn wsX3_readLine (wsV RX3 90 RX3 yX3_readNoParents wsX3_readNoParents) := goodIn_app (goodIn_of _ (by decide +kernel)) ggX3_readLine_X3_readNoParents
set_option maxRecDepth 20000 in
theorem ggX3_readLine_X3_readBirth : GoodIn wsX3_readLine wsX3_readBirth := goodIn_r _ [119, 3, 2, 114, 115, 95, 96, 97, 8, 98, 1, 14, 5, 6, 7, 9, 10, 11, 12, 13, 15, 16, 17, 18, 19, 20, 21, 22, 23, 24, 25, 26, 120, 121, 122, 123, 124, 125, 126, 127, 102, 128, 129, 130, 131, 132, 133, 134, 135, 136, 137, 138, 177, 178, 179, 180, 181, 182, 183, 184, 185, 186, 187, 188, 189, 190, 191, 192, 193, 194, 195, 196, 197, 198, 199, 200] (by decide +kernel) (by decide +kernel)
set_option maxRecDepth 20000 in
theorem gX3_readLine_X3_readBirth : GoodIn wsX3_readLine (wsV RX3 93 RX3 yX3_readBirth wsX3_readBirth) := goodIn_app (goodIn_of _ (by decide +kernel)) ggX3_readLine_X3_readBirth
set_option maxRecDepth 20000 in
theorem ggX3_readLine_X3_readParents : GoodIn wsX3_readLine wsX3_readParents := goodIn_r _ [142, 3, 114, 115, 143, 144, 145, 8, 146, 2, 4, 95, 96, 97, 98, 1, 14, 5, 6, 7, 9, 10, 11, 12, 13, 15, 16, 17, 18, 19, 20, 21, 22, 23, 24, 25, 26, 177, 178, 179, 180, 181, 182, 183, 184, 185, 186, 187, 188, 189, 190, 191, 192, 193, 194, 195, 196, 197, 198, 199, 200] (by decide +kernel) (by decide +kernel)
set_option maxRecDepth 20000 in
theorem gX3_readLine_X3_readParents : GoodIn wsX3_readLine (wsV RX3 98 RX3 yX3_readParents wsX3_readParents) := goodIn_app (goodIn_of _ (by decide +kernel)) ggX3_readLine_X3_readParents
set_option maxRecDepth 20000 in
theorem ggX3_readLine_X3_readCall : GoodIn wsX3_readLine wsX3_readCall := goodIn_r _ [150, 3, 2, 151, 143, 144, 145, 8, 146, 4, 95, 96, 97, 98, 1, 14, 5, 6, 7, 9, 10, 11, 12, 13, 15, 16, 17, 18, 19, 20, 21, 22, 23, 24, 25, 26, 120, 121, 122, 123, 124, 177, 178, 179, 180, 181, 182, 183, 184, 185, 186, 187, 188, 189, 190, 191, 192, 193, 194, 195, 196, 197, 198, 199, 200] (by decide +kernel) (by decide +kernel)
set_option maxRecDepth 20000 in
theorem gX3_readLine_X3_readCall : GoodIn wsX3_readLine (wsV RX3 103 RX3 yX3_readCall wsX3_readCall) := goodIn_app (goodIn_of _ (by decide +kernel)) ggX3_readLine_X3_readCall
set_option maxRecDepth 20000 in
theorem ggX3_readLine_X3_readHope : GoodIn wsX3_readLine wsX3_readHope := goodIn_r _ [155, 2, 156, 3, 95, 96, 97, 8, 98, 1, 14, 5, 6, 7, 9, 10, 11, 12, 13, 15, 16, 17, 18, 19, 20, 21, 22, 23, 24, 25, 26, 157, 158, 159, 102, 160, 161, 162, 163, 177, 178, 179, 180, 181, 182, 183, 184, 185, 186, 187, 188, 189, 190, 191, 192, 193, 194, 195, 196, 197, 198, 199, 200] (by decide +kernel) (by decide +kernel)
set_option maxRecDepth 20000 in
theorem gX3_readLine_X3_readHope : GoodIn wsX3_readLine (wsV RX3 108 RX3 yX3_readHope wsX3_readHope) := goodIn_app (goodIn_of _ (by decide +kernel)) ggX3_readLine_X3_readHope
set_option maxRecDepth 20000 in
theorem ggX3_readLine_X3_readDegrees : GoodIn wsX3_readLine wsX3_readDegrees := goodIn_r _ [167, 2, 3, 168, 95, 96, 97, 8, 98, 1, 14, 5, 6, 7, 9, 10, 11, 12, 13, 15, 16, 17, 18, 19, 20, 21, 22, 23, 24, 25, 26, 177, 178, 179, 180, 181, 182, 183, 184, 185, 186, 187, 188, 189, 190, 191, 192, 193, 194, 195, 196, 197, 198, 199, 200] (by decide +kernel) (by decide +kernel)
set_option maxRecDepth 20000 in
theorem gX3_readLine_X3_readDegrees : GoodIn wsX3_readLine (wsV RX3 113 RX3 yX3_readDegrees wsX3_readDegrees) := goodIn_app (goodIn_of _ (by decide +kernel)) ggX3_readLine_X3_readDegrees
set_option maxRecDepth 20000 in
theorem ggX3_readLine_X3_readForget : GoodIn wsX3_readLine wsX3_readForget := goodIn_r _ [172, 2, 173, 174, 175, 102, 176, 104, 129, 161, 177, 178, 179, 180, 181, 182, 183, 184, 185, 186, 187, 188, 189, 190, 191, 192, 193, 194, 195, 196, 197, 198, 199, 200] (by decide +kernel) (by decide +kernel)
set_option maxRecDepth 20000 in
theorem gX3_readLine_X3_readForget : GoodIn wsX3_readLine (wsV RX3 118 RX3 yX3_readForget wsX3_readForget) := goodIn_app (goodIn_of _ (by decide +kernel)) ggX3_readLine_X3_readForget
set_option maxRecDepth 20000 in
theorem ggX3_readLetter_X3_readWord : GoodIn wsX3_readLetter wsX3_readWord := goodIn_r _ [8, 9, 10, 11, 12, 13, 7, 14, 15, 16, 17, 18, 1, 19, 20, 21, 22, 23, 24, 25, 26, 27, 28, 29, 30, 41, 42, 43, 44, 45, 46, 47, 48, 49, 50, 51] (by decide +kernel) (by decide +kernel)
set_option maxRecDepth 20000 in
theorem gX3_readLetter_X3_readWord : GoodIn wsX3_readLetter (wsV RX3 77 RX3 yX3_readWord wsX3_readWord) := goodIn_app (goodIn_of _ (by decide +kernel)) ggX3_readLetter_X3_readWord
set_option maxRecDepth 20000 in
theorem ggX3_readLetter_X6_lastLetter : GoodIn wsX3_readLetter wsX6_lastLetter := goodIn_r _ [33, 34] (by decide +kernel) (by decide +kernel)
set_option maxRecDepth 20000 in
theorem gX3_readLetter_X6_lastLetter_n121 : GoodIn wsX3_readLetter (wsX6_lastLetter) := ggX3_readLetter_X6_lastLetter
set_option maxRecDepth 20000 in
theorem ggX3_readLetter_X6_isLetter : GoodIn wsX3_readLetter wsX6_isLetter := goodIn_r _ [36] (by decide +kernel) (by decide +kernel)
set_option maxRecDepth 20000 in
theorem gX3_readLetter_X6_isLetter_n125 : GoodIn wsX3_readLetter (wsX6_isLetter) := ggX3_readLetter_X6_isLetter
set_option maxRecDepth 20000 in
theorem ggX3_readLetter_X3_readNumber : GoodIn wsX3_readLetter wsX3_readNumber := goodIn_r _ [40, 9, 10, 1, 11, 12, 13, 7, 14, 15, 16, 17, 18, 19, 20, 21, 22, 23, 24, 25, 26, 27, 28, 29, 30, 41, 42, 43, 44, 45, 46, 47, 48, 49, 50, 51] (by decide +kernel) (by decide +kernel)
set_option maxRecDepth 20000 in
theorem gX3_readLetter_X3_readNumber : GoodIn wsX3_readLetter (wsV RX3 128 RX3 yX3_readNumber wsX3_readNumber) := goodIn_app (goodIn_of _ (by decide +kernel)) ggX3_readLetter_X3_readNumber
set_option maxRecDepth 20000 in
theorem ggX3_readParents_X3_readPerson : GoodIn wsX3_readParents wsX3_readPerson := goodIn_r _ [8, 9, 10, 11, 12, 13, 7, 14, 15, 16, 1, 17, 18, 19, 20, 21, 22, 23, 24, 25, 26, 27, 28, 29, 30, 31, 32, 33, 34, 35, 36, 37, 38, 39, 40, 41, 42, 43, 44, 45, 46, 47, 48, 49, 50, 51, 52, 53, 54, 55, 56, 57, 58, 59, 60] (by decide +kernel) (by decide +kernel)
set_option maxRecDepth 20000 in
theorem gX3_readParents_X3_readPerson : GoodIn wsX3_readParents (wsV RX3 135 RX3 yX3_readPerson wsX3_readPerson) := goodIn_app (goodIn_of _ (by decide +kernel)) ggX3_readParents_X3_readPerson
set_option maxRecDepth 20000 in
theorem ggX3_readBirth_X3_readNumber : GoodIn wsX3_readBirth wsX3_readNumber := goodIn_r _ [9, 10, 11, 1, 12, 13, 14, 8, 15, 16, 17, 18, 19, 20, 21, 22, 23, 24, 25, 26, 27, 28, 29, 30, 31, 52, 53, 54, 55, 56, 57, 58, 59, 60, 61, 62] (by decide +kernel) (by decide +kernel)
set_option maxRecDepth 20000 in
theorem gX3_readBirth_X3_readNumber : GoodIn wsX3_readBirth (wsV RX3 128 RX3 yX3_readNumber wsX3_readNumber) := goodIn_app (goodIn_of _ (by decide +kernel)) ggX3_readBirth_X3_readNumber
set_option maxRecDepth 20000 in
theorem ggX3_readBirth_X3_readWordOrNothing : GoodIn wsX3_readBirth wsX3_readWordOrNothing := goodIn_r _ [35, 10, 1, 36, 11, 12, 13, 14, 8, 15, 16, 17, 18, 19, 20, 21, 22, 23, 24, 25, 26, 27, 28, 29, 30, 31, 52, 53, 54, 55, 56, 57, 58, 59, 60, 61, 62] (by decide +kernel) (by decide +kernel)
set_option maxRecDepth 20000 in
theorem gX3_readBirth_X3_readWordOrNothing : GoodIn wsX3_readBirth (wsV RX3 138 RX3 yX3_readWordOrNothing wsX3_readWordOrNothing) := goodIn_app (goodIn_of _ (by decide +kernel)) ggX3_readBirth_X3_readWordOrNothing
set_option maxRecDepth 20000 in
theorem ggX3_readBirth_X5_addPerson : GoodIn wsX3_readBirth wsX5_addPerson := goodIn_r _ [41, 42, 43, 44, 45, 46, 47, 48, 49, 50, 40, 51, 63, 64, 65, 66, 67, 68, 69, 70, 71, 72, 73, 74, 75] (by decide +kernel) (by decide +kernel)
set_option maxRecDepth 20000 in
theorem gX3_readBirth_X5_addPerson : GoodIn wsX3_readBirth (wsV RX3 141 RX5 yX5_addPerson wsX5_addPerson) := goodIn_app (goodIn_of _ (by decide +kernel)) ggX3_readBirth_X5_addPerson
set_option maxRecDepth 20000 in
theorem ggX3_readCall_X3_readPerson : GoodIn wsX3_readCall wsX3_readPerson := goodIn_r _ [8, 2, 9, 10, 11, 12, 7, 13, 14, 15, 1, 16, 17, 18, 19, 20, 21, 22, 23, 24, 25, 26, 27, 28, 29, 30, 31, 32, 33, 34, 35, 41, 42, 43, 44, 45, 46, 47, 48, 49, 50, 51, 52, 53, 54, 55, 56, 57, 58, 59, 60, 61, 62, 63, 64] (by decide +kernel) (by decide +kernel)
set_option maxRecDepth 20000 in
theorem gX3_readCall_X3_readPerson : GoodIn wsX3_readCall (wsV RX3 135 RX3 yX3_readPerson wsX3_readPerson) := goodIn_app (goodIn_of _ (by decide +kernel)) ggX3_readCall_X3_readPerson
set_option maxRecDepth 20000 in
theorem ggX3_readCall_X3_readWordOrNothing : GoodIn wsX3_readCall wsX3_readWordOrNothing := goodIn_r _ [39, 14, 1, 40, 15, 16, 17, 18, 7, 19, 20, 21, 22, 23, 24, 25, 26, 27, 28, 29, 30, 31, 32, 33, 34, 35, 41, 42, 43, 44, 45, 46, 47, 48, 49, 50, 51] (by decide +kernel) (by decide +kernel)
set_option maxRecDepth 20000 in
theorem gX3_readCall_X3_readWordOrNothing : GoodIn wsX3_readCall (wsV RX3 138 RX3 yX3_readWordOrNothing wsX3_readWordOrNothing) := goodIn_app (goodIn_of _ (by decide +kernel)) ggX3_readCall_X3_readWordOrNothing
set_option maxRecDepth 20000 in
theorem ggX3_readHope_X3_readNumber : GoodIn wsX3_readHope wsX3_readNumber := goodIn_r _ [8, 9, 10, 3, 11, 12, 13, 7, 14, 15, 16, 17, 18, 19, 20, 21, 22, 23, 24, 25, 26, 27, 28, 29, 30, 39, 40, 41, 42, 43, 44, 45, 46, 47, 48, 49] (by decide +kernel) (by decide +kernel)
set_option maxRecDepth 20000 in
theorem gX3_readHope_X3_readNumber : GoodIn wsX3_readHope (wsV RX3 128 RX3 yX3_readNumber wsX3_readNumber) := goodIn_app (goodIn_of _ (by decide +kernel)) ggX3_readHope_X3_readNumber
set_option maxRecDepth 20000 in
theorem ggX3_readHope_X5_addHope : GoodIn wsX3_readHope wsX5_addHope := goodIn_r _ [35, 36, 37, 38, 50, 51, 52, 53, 54, 55, 56, 57, 58, 59, 60, 61, 62] (by decide +kernel) (by decide +kernel)
set_option maxRecDepth 20000 in
theorem gX3_readHope_X5_addHope : GoodIn wsX3_readHope (wsV RX3 152 RX5 yX5_addHope wsX5_addHope) := goodIn_app (goodIn_of _ (by decide +kernel)) ggX3_readHope_X5_addHope
set_option maxRecDepth 20000 in
theorem ggX3_readDegrees_X3_readNumber : GoodIn wsX3_readDegrees wsX3_readNumber := goodIn_r _ [8, 9, 10, 2, 11, 12, 13, 7, 14, 15, 16, 17, 18, 19, 20, 21, 22, 23, 24, 25, 26, 27, 28, 29, 30, 31, 32, 33, 34, 35, 36, 37, 38, 39, 40, 41] (by decide +kernel) (by decide +kernel)
set_option maxRecDepth 20000 in
theorem gX3_readDegrees_X3_readNumber : GoodIn wsX3_readDegrees (wsV RX3 128 RX3 yX3_readNumber wsX3_readNumber) := goodIn_app (goodIn_of _ (by decide +kernel)) ggX3_readDegrees_X3_readNumber
set_option maxRecDepth 20000 in
theorem ggX3_readForget_X5_forgetAll : GoodIn wsX3_readForget wsX5_forgetAll := goodIn_r _ [6, 7, 8, 9, 21, 22, 23, 24, 25, 26, 27, 28, 29, 30, 31, 32, 33] (by decide +kernel) (by decide +kernel)
set_option maxRecDepth 20000 in
theorem gX3_readForget_X5_forgetAll : GoodIn wsX3_readForget (wsV RX3 159 RX5 yX5_forgetAll wsX5_forgetAll) := goodIn_app (goodIn_of _ (by decide +kernel)) ggX3_readForget_X5_forgetAll
set_option maxRecDepth 20000 in
theorem ggX3_readPerson_X3_readNumber : GoodIn wsX3_readPerson wsX3_readNumber := goodIn_r _ [7, 8, 9, 10, 11, 12, 13, 6, 14, 15, 16, 17, 18, 19, 20, 21, 22, 23, 24, 25, 26, 27, 28, 29, 30, 31, 32, 33, 34, 35, 36, 37, 38, 39, 40, 41] (by decide +kernel) (by decide +kernel)
set_option maxRecDepth 20000 in
theorem gX3_readPerson_X3_readNumber : GoodIn wsX3_readPerson (wsV RX3 128 RX3 yX3_readNumber wsX3_readNumber) := goodIn_app (goodIn_of _ (by decide +kernel)) ggX3_readPerson_X3_readNumber
set_option maxRecDepth 20000 in
theorem ggX3_readNumber_X3_readToken : GoodIn wsX3_readNumber wsX3_readToken := goodIn_r _ [8, 9, 10, 11, 12, 3, 1, 2, 13, 14, 15, 7, 16, 17, 18, 19, 20, 21, 22, 23, 24, 25, 26, 27, 28, 29, 30, 31, 32, 33, 34, 35] (by decide +kernel) (by decide +kernel)
set_option maxRecDepth 20000 in
theorem gX3_readNumber_X3_readToken : GoodIn wsX3_readNumber (wsV RX3 61 RX3 yX3_readToken wsX3_readToken) := goodIn_app (goodIn_of _ (by decide +kernel)) ggX3_readNumber_X3_readToken
set_option maxRecDepth 20000 in
theorem ggX3_readWord_X3_readToken : GoodIn wsX3_readWord wsX3_readToken := goodIn_r _ [7, 8, 9, 10, 11, 12, 1, 2, 13, 14, 15, 6, 16, 17, 18, 19, 20, 21, 22, 23, 24, 25, 26, 27, 28, 29, 30, 31, 32, 33, 34, 35] (by decide +kernel) (by decide +kernel)
set_option maxRecDepth 20000 in
theorem gX3_readWord_X3_readToken : GoodIn wsX3_readWord (wsV RX3 61 RX3 yX3_readToken wsX3_readToken) := goodIn_app (goodIn_of _ (by decide +kernel)) ggX3_readWord_X3_readToken
set_option maxRecDepth 20000 in
theorem ggX3_readWordOrNothing_X3_readToken : GoodIn wsX3_readWordOrNothing wsX3_readToken := goodIn_r _ [9, 10, 11, 12, 13, 2, 1, 4, 14, 15, 16, 8, 17, 18, 19, 20, 21, 22, 23, 24, 25, 26, 27, 28, 29, 30, 31, 32, 33, 34, 35, 36] (by decide +kernel) (by decide +kernel)
set_option maxRecDepth 20000 in
theorem gX3_readWordOrNothing_X3_readToken : GoodIn wsX3_readWordOrNothing (wsV RX3 61 RX3 yX3_readToken wsX3_readToken) := goodIn_app (goodIn_of _ (by decide +kernel)) ggX3_readWordOrNothing_X3_readToken
set_option maxRecDepth 20000 in
theorem ggX3_says_J0_length_8abf5 : GoodIn wsX3_says wsJ0_length_8abf5 := goodIn_r _ [8, 9, 10, 11, 12, 7, 13, 14, 15] (by decide +kernel) (by decide +kernel)
set_option maxRecDepth 20000 in
theorem gX3_says_J0_length_8abf5 : GoodIn wsX3_says (wsV RX3 164 RJ0 yJ0_length_8abf5 wsJ0_length_8abf5) := goodIn_app (goodIn_of _ (by decide +kernel)) ggX3_says_J0_length_8abf5
set_option maxRecDepth 20000 in
theorem ggX3_says_J0_charAt_5068e : GoodIn wsX3_says wsJ0_charAt_5068e := goodIn_r _ [19, 9, 20, 21, 22, 7, 23, 14, 15, 24, 25, 26, 27, 28, 29, 30, 31, 32, 33, 34, 35, 36, 37, 38, 39, 40, 41, 42, 43, 44, 45, 46, 47, 48, 49, 50, 51, 52] (by decide +kernel) (by decide +kernel)
set_option maxRecDepth 20000 in
theorem gX3_says_J0_charAt_5068e : GoodIn wsX3_says (wsV RX3 169 RJ0 yJ0_charAt_5068e wsJ0_charAt_5068e) := goodIn_app (goodIn_of _ (by decide +kernel)) ggX3_says_J0_charAt_5068e
set_option maxRecDepth 20000 in
theorem ggX3_readToken_X3_kindAt : GoodIn wsX3_readToken wsX3_kindAt := goodIn_r _ [12, 2, 3, 21, 22, 23, 24, 25, 26, 27, 28, 29, 30, 31] (by decide +kernel) (by decide +kernel)
set_option maxRecDepth 20000 in
theorem gX3_readToken_X3_kindAt : GoodIn wsX3_readToken (wsV RX3 173 RX3 yX3_kindAt wsX3_kindAt) := goodIn_app (goodIn_of _ (by decide +kernel)) ggX3_readToken_X3_kindAt
set_option maxRecDepth 20000 in
theorem ggX3_readToken_X3_valueWith : GoodIn wsX3_readToken wsX3_valueWith := goodIn_r _ [16, 6, 5, 17, 18, 19, 20, 21, 22, 23, 24, 25, 26, 27, 28, 29, 30, 31] (by decide +kernel) (by decide +kernel)
set_option maxRecDepth 20000 in
theorem gX3_readToken_X3_valueWith : GoodIn wsX3_readToken (wsV RX3 177 RX3 yX3_valueWith wsX3_valueWith) := goodIn_app (goodIn_of _ (by decide +kernel)) ggX3_readToken_X3_valueWith
set_option maxRecDepth 20000 in
theorem ggX4_hasOnlyDays_X6_isDay : GoodIn wsX4_hasOnlyDays wsX6_isDay := goodIn_r _ [4] (by decide +kernel) (by decide +kernel)
set_option maxRecDepth 20000 in
theorem gX4_hasOnlyDays_X6_isDay_n22 : GoodIn wsX4_hasOnlyDays (wsX6_isDay) := ggX4_hasOnlyDays_X6_isDay
set_option maxRecDepth 20000 in
theorem ggX5_addSyllable_X5_isSyllable : GoodIn wsX5_addSyllable wsX5_isSyllable := goodIn_r _ [7, 1, 2, 8, 9, 10, 11, 12, 13, 14, 15, 16, 17, 18, 19, 20] (by decide +kernel) (by decide +kernel)
set_option maxRecDepth 20000 in
theorem gX5_addSyllable_X5_isSyllable : GoodIn wsX5_addSyllable (wsV RX5 59 RX5 yX5_isSyllable wsX5_isSyllable) := goodIn_app (goodIn_of _ (by decide +kernel)) ggX5_addSyllable_X5_isSyllable
set_option maxRecDepth 20000 in
theorem ggX5_addPerson_X5_kindOf : GoodIn wsX5_addPerson wsX5_kindOf := goodIn_r _ [11, 1, 3, 4, 5, 12, 13, 14, 15, 16, 17, 18, 19, 20, 21, 22, 23, 24] (by decide +kernel) (by decide +kernel)
set_option maxRecDepth 20000 in
theorem gX5_addPerson_X5_kindOf : GoodIn wsX5_addPerson (wsV RX5 63 RX5 yX5_kindOf wsX5_kindOf) := goodIn_app (goodIn_of _ (by decide +kernel)) ggX5_addPerson_X5_kindOf
set_option maxRecDepth 20000 in
theorem ggX5_sumOf_X6_lastLetter : GoodIn wsX5_sumOf wsX6_lastLetter := goodIn_r _ [5, 6] (by decide +kernel) (by decide +kernel)
set_option maxRecDepth 20000 in
theorem gX5_sumOf_X6_lastLetter_n67 : GoodIn wsX5_sumOf (wsX6_lastLetter) := ggX5_sumOf_X6_lastLetter
set_option maxRecDepth 20000 in
theorem ggX5_sumOf_X6_isLetter : GoodIn wsX5_sumOf wsX6_isLetter := goodIn_r _ [8] (by decide +kernel) (by decide +kernel)
set_option maxRecDepth 20000 in
theorem gX5_sumOf_X6_isLetter_n71 : GoodIn wsX5_sumOf (wsX6_isLetter) := ggX5_sumOf_X6_isLetter
set_option maxRecDepth 20000 in
theorem ggX5_sumInNames_X6_lastLetter : GoodIn wsX5_sumInNames wsX6_lastLetter := goodIn_r _ [5, 6] (by decide +kernel) (by decide +kernel)
set_option maxRecDepth 20000 in
theorem gX5_sumInNames_X6_lastLetter_n67 : GoodIn wsX5_sumInNames (wsX6_lastLetter) := ggX5_sumInNames_X6_lastLetter
set_option maxRecDepth 20000 in
theorem ggX5_sumInNames_X6_isLetter : GoodIn wsX5_sumInNames wsX6_isLetter := goodIn_r _ [8] (by decide +kernel) (by decide +kernel)
set_option maxRecDepth 20000 in
theorem gX5_sumInNames_X6_isLetter_n71 : GoodIn wsX5_sumInNames (wsX6_isLetter) := ggX5_sumInNames_X6_isLetter
set_option maxRecDepth 20000 in
theorem ggX5_sumInNames_X5_sumOf : GoodIn wsX5_sumInNames wsX5_sumOf := goodIn_r _ [13, 1, 2, 3, 4, 5, 6, 7, 8, 14, 15, 16, 17, 18, 19, 20, 21, 22, 23, 24, 25, 26] (by decide +kernel) (by decide +kernel)
set_option maxRecDepth 20000 in
theorem gX5_sumInNames_X5_sumOf : GoodIn wsX5_sumInNames (wsV RX5 77 RX5 yX5_sumOf wsX5_sumOf) := goodIn_app (goodIn_of _ (by decide +kernel)) ggX5_sumInNames_X5_sumOf
set_option maxRecDepth 20000 in
theorem ggX5_isName_X5_sumInNames : GoodIn wsX5_isName wsX5_sumInNames := goodIn_r _ [5, 6, 7, 8, 9, 10, 11, 12, 13, 14, 15, 16, 4, 17, 28, 29, 30, 31, 32, 33, 34, 35, 36, 37, 38, 39, 40] (by decide +kernel) (by decide +kernel)
set_option maxRecDepth 20000 in
theorem gX5_isName_X5_sumInNames : GoodIn wsX5_isName (wsV RX5 80 RX5 yX5_sumInNames wsX5_sumInNames) := goodIn_app (goodIn_of _ (by decide +kernel)) ggX5_isName_X5_sumInNames
set_option maxRecDepth 20000 in
theorem ggX5_isName_X5_isParted : GoodIn wsX5_isName wsX5_isParted := goodIn_r _ [21, 7, 22, 23, 24, 4, 25, 26, 27, 18, 19, 20, 28, 29, 30, 31, 32, 33, 34, 35, 36, 37, 38, 39, 40] (by decide +kernel) (by decide +kernel)
set_option maxRecDepth 20000 in
theorem gX5_isName_X5_isParted : GoodIn wsX5_isName (wsV RX5 83 RX5 yX5_isParted wsX5_isParted) := goodIn_app (goodIn_of _ (by decide +kernel)) ggX5_isName_X5_isParted
set_option maxRecDepth 20000 in
theorem ggX5_isParted_X5_isSyllable : GoodIn wsX5_isParted wsX5_isSyllable := goodIn_r _ [6, 7, 8, 12, 13, 14, 15, 16, 17, 18, 19, 20, 21, 22, 23, 24] (by decide +kernel) (by decide +kernel)
set_option maxRecDepth 20000 in
theorem gX5_isParted_X5_isSyllable : GoodIn wsX5_isParted (wsV RX5 59 RX5 yX5_isSyllable wsX5_isSyllable) := goodIn_app (goodIn_of _ (by decide +kernel)) ggX5_isParted_X5_isSyllable
set_option maxRecDepth 20000 in
theorem ggX5_isParted_X5_isParted : GoodIn wsX5_isParted wsX5_isParted := goodIn_r _ [0, 1, 2, 3, 4, 5, 6, 7, 8, 9, 10, 11, 12, 13, 14, 15, 16, 17, 18, 19, 20, 21, 22, 23, 24] (by decide +kernel) (by decide +kernel)
set_option maxRecDepth 20000 in
theorem gX5_isParted_X5_isParted : GoodIn wsX5_isParted (wsV RX5 83 RX5 yX5_isParted wsX5_isParted) := goodIn_app (goodIn_of _ (by decide +kernel)) ggX5_isParted_X5_isParted
set_option maxRecDepth 20000 in
theorem ggX5_addsUp_X5_sumOf : GoodIn wsX5_addsUp wsX5_sumOf := goodIn_r _ [7, 8, 9, 10, 11, 12, 13, 14, 15, 16, 17, 18, 19, 20, 21, 22, 23, 24, 25, 26, 27, 28] (by decide +kernel) (by decide +kernel)
set_option maxRecDepth 20000 in
theorem gX5_addsUp_X5_sumOf : GoodIn wsX5_addsUp (wsV RX5 77 RX5 yX5_sumOf wsX5_sumOf) := goodIn_app (goodIn_of _ (by decide +kernel)) ggX5_addsUp_X5_sumOf
set_option maxRecDepth 20000 in
theorem ggX5_faultOfName_X5_isName : GoodIn wsX5_faultOfName wsX5_isName := goodIn_r _ [6, 7, 8, 9, 5, 10, 11, 12, 13, 14, 15, 16, 17, 18, 19, 20, 21, 22, 23, 24, 25, 26, 27, 28, 29, 30, 31, 32, 59, 60, 61, 62, 63, 64, 65, 66, 67, 68, 69, 70, 71] (by decide +kernel) (by decide +kernel)
set_option maxRecDepth 20000 in
theorem gX5_faultOfName_X5_isName : GoodIn wsX5_faultOfName (wsV RX5 87 RX5 yX5_isName wsX5_isName) := goodIn_app (goodIn_of _ (by decide +kernel)) ggX5_faultOfName_X5_isName
set_option maxRecDepth 20000 in
theorem ggX5_faultOfName_X5_addsUp : GoodIn wsX5_faultOfName wsX5_addsUp := goodIn_r _ [36, 1, 37, 19, 20, 21, 5, 22, 11, 12, 13, 14, 15, 16, 17, 18, 59, 60, 61, 62, 63, 64, 65, 66, 67, 68, 69, 70, 71] (by decide +kernel) (by decide +kernel)
set_option maxRecDepth 20000 in
theorem gX5_faultOfName_X5_addsUp : GoodIn wsX5_faultOfName (wsV RX5 90 RX5 yX5_addsUp wsX5_addsUp) := goodIn_app (goodIn_of _ (by decide +kernel)) ggX5_faultOfName_X5_addsUp
set_option maxRecDepth 20000 in
theorem ggX5_faultOfName_X5_nearOf : GoodIn wsX5_faultOfName wsX5_nearOf := goodIn_r _ [41, 42, 43, 44, 45, 5, 46, 47, 48, 49, 50, 51, 52, 53, 54, 59, 60, 61, 62, 63, 64, 65, 66, 67, 68, 69, 70, 71] (by decide +kernel) (by decide +kernel)
set_option maxRecDepth 20000 in
theorem gX5_faultOfName_X5_nearOf : GoodIn wsX5_faultOfName (wsV RX5 93 RX5 yX5_nearOf wsX5_nearOf) := goodIn_app (goodIn_of _ (by decide +kernel)) ggX5_faultOfName_X5_nearOf
set_option maxRecDepth 20000 in
theorem ggX5_faultOfName_X5_leastCalled : GoodIn wsX5_faultOfName wsX5_leastCalled := goodIn_r _ [58, 51, 1, 59, 60, 61, 62, 63, 64, 65, 66, 67, 68, 69, 70, 71] (by decide +kernel) (by decide +kernel)
set_option maxRecDepth 20000 in
theorem gX5_faultOfName_X5_leastCalled : GoodIn wsX5_faultOfName (wsV RX5 97 RX5 yX5_leastCalled wsX5_leastCalled) := goodIn_app (goodIn_of _ (by decide +kernel)) ggX5_faultOfName_X5_leastCalled
set_option maxRecDepth 20000 in
theorem ggX5_nearOf_X5_within : GoodIn wsX5_nearOf wsX5_within := goodIn_r _ [6, 7, 8, 9, 5, 10, 11, 12, 13, 14, 15, 16, 17, 18, 19, 20, 21, 22, 23, 24, 25, 26, 27] (by decide +kernel) (by decide +kernel)
set_option maxRecDepth 20000 in
theorem gX5_nearOf_X5_within : GoodIn wsX5_nearOf (wsV RX5 101 RX5 yX5_within wsX5_within) := goodIn_app (goodIn_of _ (by decide +kernel)) ggX5_nearOf_X5_within
set_option maxRecDepth 20000 in
theorem ggX5_nearChildOf_X5_within : GoodIn wsX5_nearChildOf wsX5_within := goodIn_r _ [6, 7, 8, 9, 5, 10, 11, 12, 13, 14, 15, 16, 17, 18, 19, 20, 21, 22, 23, 24, 25, 26, 27] (by decide +kernel) (by decide +kernel)
set_option maxRecDepth 20000 in
theorem gX5_nearChildOf_X5_within : GoodIn wsX5_nearChildOf (wsV RX5 101 RX5 yX5_within wsX5_within) := goodIn_app (goodIn_of _ (by decide +kernel)) ggX5_nearChildOf_X5_within
set_option maxRecDepth 20000 in
theorem ggX5_within_X5_oneStepMore : GoodIn wsX5_within wsX5_oneStepMore := goodIn_r _ [5, 6, 7, 8, 9, 10, 11, 12, 13, 14, 15, 16, 17, 18, 19, 20, 21, 22] (by decide +kernel) (by decide +kernel)
set_option maxRecDepth 20000 in
theorem gX5_within_X5_oneStepMore : GoodIn wsX5_within (wsV RX5 105 RX5 yX5_oneStepMore wsX5_oneStepMore) := goodIn_app (goodIn_of _ (by decide +kernel)) ggX5_within_X5_oneStepMore
set_option maxRecDepth 20000 in
theorem ggX5_stepsBetween_X5_oneStepMore : GoodIn wsX5_stepsBetween wsX5_oneStepMore := goodIn_r _ [5, 6, 7, 8, 9, 10, 11, 12, 13, 14, 15, 16, 17, 18, 19, 20, 21, 22] (by decide +kernel) (by decide +kernel)
set_option maxRecDepth 20000 in
theorem gX5_stepsBetween_X5_oneStepMore : GoodIn wsX5_stepsBetween (wsV RX5 105 RX5 yX5_oneStepMore wsX5_oneStepMore) := goodIn_app (goodIn_of _ (by decide +kernel)) ggX5_stepsBetween_X5_oneStepMore
set_option maxRecDepth 20000 in
theorem ggX5_sumOfAll_X5_sumOf : GoodIn wsX5_sumOfAll wsX5_sumOf := goodIn_r _ [7, 8, 9, 10, 11, 12, 13, 14, 15, 16, 17, 18, 19, 20, 21, 22, 23, 24, 25, 26, 27, 28] (by decide +kernel) (by decide +kernel)
set_option maxRecDepth 20000 in
theorem gX5_sumOfAll_X5_sumOf : GoodIn wsX5_sumOfAll (wsV RX5 77 RX5 yX5_sumOf wsX5_sumOf) := goodIn_app (goodIn_of _ (by decide +kernel)) ggX5_sumOfAll_X5_sumOf
set_option maxRecDepth 20000 in
theorem ggX5_changesBy_X6_lastLetter : GoodIn wsX5_changesBy wsX6_lastLetter := goodIn_r _ [5, 6] (by decide +kernel) (by decide +kernel)
set_option maxRecDepth 20000 in
theorem gX5_changesBy_X6_lastLetter_n67 : GoodIn wsX5_changesBy (wsX6_lastLetter) := ggX5_changesBy_X6_lastLetter
set_option maxRecDepth 20000 in
theorem ggX5_changesBy_X6_isLetter : GoodIn wsX5_changesBy wsX6_isLetter := goodIn_r _ [8] (by decide +kernel) (by decide +kernel)
set_option maxRecDepth 20000 in
theorem gX5_changesBy_X6_isLetter_n71 : GoodIn wsX5_changesBy (wsX6_isLetter) := ggX5_changesBy_X6_isLetter
set_option maxRecDepth 20000 in
theorem ggX5_changesBy_X5_othersOfNumber : GoodIn wsX5_changesBy wsX5_othersOfNumber := goodIn_r _ [13, 1, 14, 15, 16, 17, 18, 19, 20, 21, 22, 23, 24, 25, 26] (by decide +kernel) (by decide +kernel)
set_option maxRecDepth 20000 in
theorem gX5_changesBy_X5_othersOfNumber : GoodIn wsX5_changesBy (wsV RX5 108 RX5 yX5_othersOfNumber wsX5_othersOfNumber) := goodIn_app (goodIn_of _ (by decide +kernel)) ggX5_changesBy_X5_othersOfNumber
set_option maxRecDepth 20000 in
theorem ggX6_init_X5_init : GoodIn wsX6_init wsX5_init := goodIn_r _ [33, 34, 2, 3, 27, 35, 36, 37, 38, 39, 40, 41, 42, 43, 44, 45, 46, 47, 48, 102, 103, 104, 105, 106, 107, 108, 109, 110, 111, 112, 113, 114] (by decide +kernel) (by decide +kernel)
set_option maxRecDepth 20000 in
theorem gX6_init_X5_init : GoodIn wsX6_init (wsX5_init) := ggX6_init_X5_init
set_option maxRecDepth 20000 in
theorem ggX6_init_X3_init : GoodIn wsX6_init wsX3_init := goodIn_r _ [50, 51, 2, 3, 27, 52, 53, 54, 5, 6, 55, 56, 57, 58, 59, 60, 61, 62, 63, 64, 32, 33, 34, 35, 36, 37, 38, 39, 40, 41, 42, 43, 44, 45, 46, 47, 48, 123, 124, 125, 126, 127, 128, 129, 130, 131, 132, 133, 102, 103, 104, 105, 106, 107, 108, 109, 110, 111, 112, 113, 114] (by decide +kernel) (by decide +kernel)
set_option maxRecDepth 20000 in
theorem gX6_init_X3_init_n22 : GoodIn wsX6_init (wsX3_init) := ggX6_init_X3_init
set_option maxRecDepth 20000 in
theorem ggX6_init_X0_init : GoodIn wsX6_init wsX0_init := goodIn_r _ [66, 67, 2, 3, 36, 68, 69, 70, 71, 27, 72, 73, 74, 75, 134, 135, 136, 137, 138, 139, 140, 141] (by decide +kernel) (by decide +kernel)
set_option maxRecDepth 20000 in
theorem gX6_init_X0_init_n29 : GoodIn wsX6_init (wsX0_init) := ggX6_init_X0_init
set_option maxRecDepth 20000 in
theorem ggX6_init_X2_init : GoodIn wsX6_init wsX2_init := goodIn_r _ [77, 78, 2, 3, 27, 79, 80, 81, 142, 143] (by decide +kernel) (by decide +kernel)
set_option maxRecDepth 20000 in
theorem gX6_init_X2_init_n36 : GoodIn wsX6_init (wsX2_init) := ggX6_init_X2_init
set_option maxRecDepth 20000 in
theorem ggX6_init_X1_init : GoodIn wsX6_init wsX1_init := goodIn_r _ [83, 84, 2, 3, 85, 27, 86, 87, 88, 89, 90, 91, 92, 93, 94, 95, 144, 145, 146, 147, 148, 149, 150, 151, 152, 153] (by decide +kernel) (by decide +kernel)
set_option maxRecDepth 20000 in
theorem gX6_init_X1_init_n43 : GoodIn wsX6_init (wsX1_init) := ggX6_init_X1_init
set_option maxRecDepth 20000 in
theorem ggX6_init_X4_init : GoodIn wsX6_init wsX4_init := goodIn_r _ [97, 98, 2, 3, 27, 99, 100, 101, 154, 155, 156] (by decide +kernel) (by decide +kernel)
set_option maxRecDepth 20000 in
theorem gX6_init_X4_init_n58 : GoodIn wsX6_init (wsX4_init) := ggX6_init_X4_init
set_option maxRecDepth 20000 in
theorem ggX6_write_X3_append : GoodIn wsX6_write wsX3_append := goodIn_r _ [7, 8, 9, 10, 19, 20, 21, 22, 23, 24, 25, 26, 27, 28, 29] (by decide +kernel) (by decide +kernel)
set_option maxRecDepth 20000 in
theorem gX6_write_X3_append : GoodIn wsX6_write (wsV RX6 59 RX3 yX3_append wsX3_append) := goodIn_app (goodIn_of _ (by decide +kernel)) ggX6_write_X3_append
set_option maxRecDepth 20000 in
theorem ggX6_fault_X3_read : GoodIn wsX6_fault wsX3_read := goodIn_r _ [7, 8, 9, 10, 11, 12, 13, 14, 15, 16, 17, 18, 19, 20, 21, 22, 23, 24, 25, 26, 27, 28, 29, 30, 31, 32, 33, 34, 35, 36, 37, 38, 39, 6, 40, 41, 42, 43, 44, 45, 46, 47, 48, 49, 50, 51, 52, 53, 54, 55, 56, 57, 58, 59, 60, 61, 62, 63, 64, 65, 66, 67, 68, 69, 70, 71, 72, 73, 74, 75, 76, 77, 78, 79, 80, 81, 82, 83, 84, 85, 86, 87, 88, 89, 90, 91, 92, 93, 94, 95, 96, 97, 98, 99, 100, 101, 102, 103, 104, 105, 106, 107, 108, 109, 110, 111, 112, 113, 114, 115, 116, 117, 118, 119, 120, 121, 122, 123, 124, 125, 126, 127, 128, 129, 130, 131, 132, 133, 134, 135, 136, 137, 138, 139, 140, 141, 142, 143, 144, 145, 146, 147, 148, 149, 150, 151, 152, 153, 154, 155, 156, 157, 158, 159, 160, 161, 162, 163, 164, 165, 166, 167, 168, 169, 170, 171, 172, 173, 174, 175, 176, 177, 178, 179, 180, 181, 182, 183, 184, 185, 186, 187, 188, 189, 190, 191, 192, 193, 194, 195, 196, 197, 198, 207, 208, 209, 210, 211, 212, 213, 214, 215, 216, 217, 218, 219, 220, 221, 222, 223, 224, 225, 226, 227, 228, 229, 230] (by decide +kernel) (by decide +kernel)
set_option maxRecDepth 20000 in
theorem gX6_fault_X3_read : GoodIn wsX6_fault (wsV RX6 67 RX3 yX3_read wsX3_read) := goodIn_app (goodIn_of _ (by decide +kernel)) ggX6_fault_X3_read
set_option maxRecDepth 20000 in
theorem ggX6_told_X3_read : GoodIn wsX6_told wsX3_read := goodIn_r _ [10, 11, 12, 13, 14, 15, 16, 17, 18, 19, 20, 21, 22, 23, 24, 25, 26, 27, 28, 29, 30, 31, 32, 33, 34, 35, 36, 37, 38, 39, 40, 41, 42, 9, 43, 44, 45, 46, 47, 48, 49, 50, 51, 52, 53, 54, 55, 56, 57, 58, 59, 60, 61, 62, 63, 64, 65, 66, 67, 68, 69, 70, 71, 72, 73, 74, 75, 76, 77, 78, 79, 80, 81, 82, 83, 84, 85, 86, 87, 88, 89, 90, 91, 92, 93, 94, 95, 96, 97, 98, 99, 100, 101, 102, 103, 104, 105, 106, 107, 108, 109, 110, 111, 112, 113, 114, 115, 116, 117, 118, 119, 120, 121, 122, 123, 124, 125, 126, 127, 128, 129, 130, 131, 132, 133, 134, 135, 136, 137, 138, 139, 140, 141, 142, 143, 144, 145, 146, 147, 148, 149, 150, 151, 152, 153, 154, 155, 156, 157, 158, 159, 160, 161, 162, 163, 164, 165, 166, 167, 168, 169, 170, 171, 172, 173, 174, 175, 176, 177, 178, 179, 180, 181, 182, 183, 184, 185, 186, 187, 188, 189, 190, 191, 192, 193, 194, 195, 196, 197, 198, 199, 200, 201, 211, 212, 213, 214, 215, 216, 217, 218, 219, 220, 221, 222, 223, 224, 225, 226, 227, 228, 229, 230, 231, 232, 233, 234] (by decide +kernel) (by decide +kernel)
set_option maxRecDepth 20000 in
theorem gX6_told_X3_read : GoodIn wsX6_told (wsV RX6 67 RX3 yX3_read wsX3_read) := goodIn_app (goodIn_of _ (by decide +kernel)) ggX6_told_X3_read
set_option maxRecDepth 20000 in
theorem ggX6_told_X5_takeFrom : GoodIn wsX6_told wsX5_takeFrom := goodIn_r _ [22, 23, 24, 25, 26, 27, 28, 29, 30, 31, 32, 33, 34, 35, 36, 37, 38, 39, 222, 223, 224, 225, 226, 227, 228, 229, 230, 231, 232, 233, 234] (by decide +kernel) (by decide +kernel)
set_option maxRecDepth 20000 in
theorem gX6_told_X5_takeFrom : GoodIn wsX6_told (wsV RX6 74 RX5 yX5_takeFrom wsX5_takeFrom) := goodIn_app (goodIn_of _ (by decide +kernel)) ggX6_told_X5_takeFrom
set_option maxRecDepth 20000 in
theorem ggX6_letter_X6_isLetter : GoodIn wsX6_letter wsX6_isLetter := goodIn_r _ [6] (by decide +kernel) (by decide +kernel)
set_option maxRecDepth 20000 in
theorem gX6_letter_X6_isLetter : GoodIn wsX6_letter (va_wsS RX6 81 yX6_isLetter wsX6_isLetter) := goodIn_app (goodIn_of _ (by decide +kernel)) ggX6_letter_X6_isLetter
set_option maxRecDepth 20000 in
theorem ggX6_person_X5_isPerson : GoodIn wsX6_person wsX5_isPerson := goodIn_r _ [10, 11, 36, 37, 38, 39, 40, 41, 42, 43, 44, 45, 46, 47, 48] (by decide +kernel) (by decide +kernel)
set_option maxRecDepth 20000 in
theorem gX6_person_X5_isPerson : GoodIn wsX6_person (wsV RX6 88 RX5 yX5_isPerson wsX5_isPerson) := goodIn_app (goodIn_of _ (by decide +kernel)) ggX6_person_X5_isPerson
set_option maxRecDepth 20000 in
theorem ggX6_person_X5_nearOf : GoodIn wsX6_person wsX5_nearOf := goodIn_r _ [15, 16, 17, 18, 19, 9, 20, 21, 22, 23, 24, 11, 25, 26, 27, 36, 37, 38, 39, 40, 41, 42, 43, 44, 45, 46, 47, 48] (by decide +kernel) (by decide +kernel)
set_option maxRecDepth 20000 in
theorem gX6_person_X5_nearOf : GoodIn wsX6_person (wsV RX6 103 RX5 yX5_nearOf wsX5_nearOf) := goodIn_app (goodIn_of _ (by decide +kernel)) ggX6_person_X5_nearOf
set_option maxRecDepth 20000 in
theorem ggX6_called_X5_isPerson : GoodIn wsX6_called wsX5_isPerson := goodIn_r _ [8, 9, 18, 19, 20, 21, 22, 23, 24, 25, 26, 27, 28, 29, 30] (by decide +kernel) (by decide +kernel)
set_option maxRecDepth 20000 in
theorem gX6_called_X5_isPerson : GoodIn wsX6_called (wsV RX6 88 RX5 yX5_isPerson wsX5_isPerson) := goodIn_app (goodIn_of _ (by decide +kernel)) ggX6_called_X5_isPerson
set_option maxRecDepth 20000 in
theorem ggX6_degrees_X5_isPerson : GoodIn wsX6_degrees wsX5_isPerson := goodIn_r _ [6, 7, 27, 28, 29, 30, 31, 32, 33, 34, 35, 36, 37, 38, 39] (by decide +kernel) (by decide +kernel)
set_option maxRecDepth 20000 in
theorem gX6_degrees_X5_isPerson : GoodIn wsX6_degrees (wsV RX6 88 RX5 yX5_isPerson wsX5_isPerson) := goodIn_app (goodIn_of _ (by decide +kernel)) ggX6_degrees_X5_isPerson
set_option maxRecDepth 20000 in
theorem ggX6_degrees_X5_stepsBetween : GoodIn wsX6_degrees wsX5_stepsBetween := goodIn_r _ [11, 12, 13, 14, 5, 15, 7, 16, 17, 18, 27, 28, 29, 30, 31, 32, 33, 34, 35, 36, 37, 38, 39] (by decide +kernel) (by decide +kernel)
set_option maxRecDepth 20000 in
theorem gX6_degrees_X5_stepsBetween : GoodIn wsX6_degrees (wsV RX6 113 RX5 yX5_stepsBetween wsX5_stepsBetween) := goodIn_app (goodIn_of _ (by decide +kernel)) ggX6_degrees_X5_stepsBetween
set_option maxRecDepth 20000 in
theorem ggX6_as_X5_isPerson : GoodIn wsX6_as wsX5_isPerson := goodIn_r _ [7, 8, 44, 45, 46, 47, 48, 49, 50, 51, 52, 53, 54, 55, 56] (by decide +kernel) (by decide +kernel)
set_option maxRecDepth 20000 in
theorem gX6_as_X5_isPerson : GoodIn wsX6_as (wsV RX6 88 RX5 yX5_isPerson wsX5_isPerson) := goodIn_app (goodIn_of _ (by decide +kernel)) ggX6_as_X5_isPerson
set_option maxRecDepth 20000 in
theorem ggX6_as_X6_isOfKind : GoodIn wsX6_as wsX6_isOfKind := goodIn_r _ [12] (by decide +kernel) (by decide +kernel)
set_option maxRecDepth 20000 in
theorem gX6_as_X6_isOfKind : GoodIn wsX6_as (va_wsS RX6 117 yX6_isOfKind wsX6_isOfKind) := goodIn_app (goodIn_of _ (by decide +kernel)) ggX6_as_X6_isOfKind
set_option maxRecDepth 20000 in
theorem ggX6_as_X5_nearOf : GoodIn wsX6_as wsX5_nearOf := goodIn_r _ [16, 17, 18, 19, 20, 6, 21, 22, 23, 24, 25, 8, 26, 27, 28, 44, 45, 46, 47, 48, 49, 50, 51, 52, 53, 54, 55, 56] (by decide +kernel) (by decide +kernel)
set_option maxRecDepth 20000 in
theorem gX6_as_X5_nearOf : GoodIn wsX6_as (wsV RX6 103 RX5 yX5_nearOf wsX5_nearOf) := goodIn_app (goodIn_of _ (by decide +kernel)) ggX6_as_X5_nearOf
set_option maxRecDepth 20000 in
theorem ggX6_as_J6_bitCount_0f7a4 : GoodIn wsX6_as wsJ6_bitCount_0f7a4 := goodIn_r _ [32, 33, 34, 35] (by decide +kernel) (by decide +kernel)
set_option maxRecDepth 20000 in
theorem gX6_as_J6_bitCount_0f7a4 : GoodIn wsX6_as (va_wsS RX6 121 yJ6_bitCount_0f7a4 wsJ6_bitCount_0f7a4) := goodIn_app (goodIn_of _ (by decide +kernel)) ggX6_as_J6_bitCount_0f7a4
set_option maxRecDepth 20000 in
theorem ggX6_sum_X6_lettersOf : GoodIn wsX6_sum wsX6_lettersOf := goodIn_r _ [5, 6, 7] (by decide +kernel) (by decide +kernel)
set_option maxRecDepth 20000 in
theorem gX6_sum_X6_lettersOf : GoodIn wsX6_sum (va_wsS RX6 126 yX6_lettersOf wsX6_lettersOf) := goodIn_app (goodIn_of _ (by decide +kernel)) ggX6_sum_X6_lettersOf
set_option maxRecDepth 20000 in
theorem ggX6_sum_X5_sumOf : GoodIn wsX6_sum wsX5_sumOf := goodIn_r _ [12, 13, 14, 15, 4, 16, 7, 17, 18, 27, 28, 29, 30, 31, 32, 33, 34, 35, 36, 37, 38, 39] (by decide +kernel) (by decide +kernel)
set_option maxRecDepth 20000 in
theorem gX6_sum_X5_sumOf : GoodIn wsX6_sum (wsV RX6 130 RX5 yX5_sumOf wsX5_sumOf) := goodIn_app (goodIn_of _ (by decide +kernel)) ggX6_sum_X5_sumOf
set_option maxRecDepth 20000 in
theorem ggX6_name_X6_lettersOf : GoodIn wsX6_name wsX6_lettersOf := goodIn_r _ [5, 6, 7] (by decide +kernel) (by decide +kernel)
set_option maxRecDepth 20000 in
theorem gX6_name_X6_lettersOf : GoodIn wsX6_name (va_wsS RX6 126 yX6_lettersOf wsX6_lettersOf) := goodIn_app (goodIn_of _ (by decide +kernel)) ggX6_name_X6_lettersOf
set_option maxRecDepth 20000 in
theorem ggX6_name_X5_isName : GoodIn wsX6_name wsX5_isName := goodIn_r _ [12, 13, 14, 15, 11, 16, 17, 18, 19, 4, 20, 7, 21, 22, 23, 24, 25, 26, 27, 28, 29, 30, 31, 32, 33, 34, 35, 36, 45, 46, 47, 48, 49, 50, 51, 52, 53, 54, 55, 56, 57] (by decide +kernel) (by decide +kernel)
set_option maxRecDepth 20000 in
theorem gX6_name_X5_isName : GoodIn wsX6_name (wsV RX6 133 RX5 yX5_isName wsX5_isName) := goodIn_app (goodIn_of _ (by decide +kernel)) ggX6_name_X5_isName
set_option maxRecDepth 20000 in
theorem ggX6_judge_X5_isPerson : GoodIn wsX6_judge wsX5_isPerson := goodIn_r _ [6, 7, 76, 77, 78, 79, 80, 81, 82, 83, 84, 85, 86, 87, 88] (by decide +kernel) (by decide +kernel)
set_option maxRecDepth 20000 in
theorem gX6_judge_X5_isPerson : GoodIn wsX6_judge (wsV RX6 88 RX5 yX5_isPerson wsX5_isPerson) := goodIn_app (goodIn_of _ (by decide +kernel)) ggX6_judge_X5_isPerson
set_option maxRecDepth 20000 in
theorem ggX6_judge_X5_faultOfName : GoodIn wsX6_judge wsX5_faultOfName := goodIn_r _ [11, 12, 13, 14, 15, 5, 16, 17, 18, 19, 20, 21, 22, 23, 24, 25, 26, 27, 28, 29, 30, 31, 32, 33, 34, 35, 36, 37, 38, 39, 40, 41, 42, 43, 44, 45, 46, 47, 48, 49, 50, 51, 52, 53, 54, 55, 56, 57, 58, 59, 60, 7, 61, 62, 63, 64, 65, 66, 67, 76, 77, 78, 79, 80, 81, 82, 83, 84, 85, 86, 87, 88] (by decide +kernel) (by decide +kernel)
set_option maxRecDepth 20000 in
theorem gX6_judge_X5_faultOfName : GoodIn wsX6_judge (wsV RX6 137 RX5 yX5_faultOfName wsX5_faultOfName) := goodIn_app (goodIn_of _ (by decide +kernel)) ggX6_judge_X5_faultOfName
set_option maxRecDepth 20000 in
theorem ggX6_taker_X5_isPerson : GoodIn wsX6_taker wsX5_isPerson := goodIn_r _ [7, 8, 79, 80, 81, 82, 83, 84, 85, 86, 87, 88, 89, 90, 91] (by decide +kernel) (by decide +kernel)
set_option maxRecDepth 20000 in
theorem gX6_taker_X5_isPerson : GoodIn wsX6_taker (wsV RX6 88 RX5 yX5_isPerson wsX5_isPerson) := goodIn_app (goodIn_of _ (by decide +kernel)) ggX6_taker_X5_isPerson
set_option maxRecDepth 20000 in
theorem ggX6_taker_X5_faultOfName : GoodIn wsX6_taker wsX5_faultOfName := goodIn_r _ [12, 13, 14, 15, 16, 6, 17, 18, 19, 20, 21, 22, 23, 24, 25, 26, 27, 28, 29, 30, 31, 32, 33, 34, 35, 36, 37, 38, 39, 40, 41, 42, 43, 44, 45, 46, 47, 48, 49, 50, 51, 52, 53, 54, 55, 56, 57, 58, 59, 60, 61, 8, 62, 63, 64, 65, 66, 67, 68, 79, 80, 81, 82, 83, 84, 85, 86, 87, 88, 89, 90, 91] (by decide +kernel) (by decide +kernel)
set_option maxRecDepth 20000 in
theorem gX6_taker_X5_faultOfName : GoodIn wsX6_taker (wsV RX6 137 RX5 yX5_faultOfName wsX5_faultOfName) := goodIn_app (goodIn_of _ (by decide +kernel)) ggX6_taker_X5_faultOfName
set_option maxRecDepth 20000 in
theorem ggX6_taker_X5_nearOf : GoodIn wsX6_taker wsX5_nearOf := goodIn_r _ [52, 53, 54, 55, 56, 6, 57, 58, 59, 60, 61, 8, 62, 63, 64, 79, 80, 81, 82, 83, 84, 85, 86, 87, 88, 89, 90, 91] (by decide +kernel) (by decide +kernel)
set_option maxRecDepth 20000 in
theorem gX6_taker_X5_nearOf : GoodIn wsX6_taker (wsV RX6 103 RX5 yX5_nearOf wsX5_nearOf) := goodIn_app (goodIn_of _ (by decide +kernel)) ggX6_taker_X5_nearOf
set_option maxRecDepth 20000 in
theorem ggX6_taker_X5_leastCalled : GoodIn wsX6_taker wsX5_leastCalled := goodIn_r _ [68, 8, 13, 79, 80, 81, 82, 83, 84, 85, 86, 87, 88, 89, 90, 91] (by decide +kernel) (by decide +kernel)
set_option maxRecDepth 20000 in
theorem gX6_taker_X5_leastCalled : GoodIn wsX6_taker (wsV RX6 140 RX5 yX5_leastCalled wsX5_leastCalled) := goodIn_app (goodIn_of _ (by decide +kernel)) ggX6_taker_X5_leastCalled
set_option maxRecDepth 20000 in
theorem ggX6_names_X6_isDay : GoodIn wsX6_names wsX6_isDay := goodIn_r _ [8] (by decide +kernel) (by decide +kernel)
set_option maxRecDepth 20000 in
theorem gX6_names_X6_isDay : GoodIn wsX6_names (va_wsS RX6 144 yX6_isDay wsX6_isDay) := goodIn_app (goodIn_of _ (by decide +kernel)) ggX6_names_X6_isDay
set_option maxRecDepth 20000 in
theorem ggX6_names_X0_gather : GoodIn wsX6_names wsX0_gather := goodIn_r _ [13, 14, 15, 16, 17, 18, 19, 12, 20, 21, 22, 23, 24, 25, 26, 27, 28, 29, 30, 31, 32, 33, 34, 7, 35, 36, 37, 38, 39, 40, 41, 42, 43, 44, 45, 46, 47, 48, 49, 50, 51, 52, 53, 54, 55, 56, 57, 58, 59, 60, 61, 62, 63, 64, 77, 78, 79, 80, 81, 82, 83, 84, 85, 86, 87, 88, 89, 90, 91, 92, 93, 94, 95, 96, 97] (by decide +kernel) (by decide +kernel)
set_option maxRecDepth 20000 in
theorem gX6_names_X0_gather : GoodIn wsX6_names (wsV RX6 147 RX0 yX0_gather wsX0_gather) := goodIn_app (goodIn_of _ (by decide +kernel)) ggX6_names_X0_gather
set_option maxRecDepth 20000 in
theorem ggX6_names_X6_lettersOf : GoodIn wsX6_names wsX6_lettersOf := goodIn_r _ [67, 68, 36] (by decide +kernel) (by decide +kernel)
set_option maxRecDepth 20000 in
theorem gX6_names_X6_lettersOf : GoodIn wsX6_names (va_wsS RX6 126 yX6_lettersOf wsX6_lettersOf) := goodIn_app (goodIn_of _ (by decide +kernel)) ggX6_names_X6_lettersOf
set_option maxRecDepth 20000 in
theorem ggX6_which_X6_isDay : GoodIn wsX6_which wsX6_isDay := goodIn_r _ [10] (by decide +kernel) (by decide +kernel)
set_option maxRecDepth 20000 in
theorem gX6_which_X6_isDay : GoodIn wsX6_which (va_wsS RX6 144 yX6_isDay wsX6_isDay) := goodIn_app (goodIn_of _ (by decide +kernel)) ggX6_which_X6_isDay
set_option maxRecDepth 20000 in
theorem ggX6_which_X0_gather : GoodIn wsX6_which wsX0_gather := goodIn_r _ [15, 16, 17, 18, 19, 20, 21, 14, 22, 23, 24, 25, 26, 27, 28, 29, 30, 31, 32, 33, 34, 35, 36, 9, 37, 38, 39, 40, 41, 42, 43, 44, 45, 46, 47, 48, 49, 50, 51, 52, 53, 54, 55, 56, 57, 58, 59, 60, 61, 62, 63, 64, 65, 66, 75, 76, 77, 78, 79, 80, 81, 82, 83, 84, 85, 86, 87, 88, 89, 90, 91, 92, 93, 94, 95] (by decide +kernel) (by decide +kernel)
set_option maxRecDepth 20000 in
theorem gX6_which_X0_gather : GoodIn wsX6_which (wsV RX6 147 RX0 yX0_gather wsX0_gather) := goodIn_app (goodIn_of _ (by decide +kernel)) ggX6_which_X0_gather
set_option maxRecDepth 20000 in
theorem ggX6_free_X5_isPerson : GoodIn wsX6_free wsX5_isPerson := goodIn_r _ [13, 14, 104, 105, 106, 107, 108, 109, 110, 111, 112, 113, 114, 115, 116] (by decide +kernel) (by decide +kernel)
set_option maxRecDepth 20000 in
theorem gX6_free_X5_isPerson : GoodIn wsX6_free (wsV RX6 88 RX5 yX5_isPerson wsX5_isPerson) := goodIn_app (goodIn_of _ (by decide +kernel)) ggX6_free_X5_isPerson
set_option maxRecDepth 20000 in
theorem ggX6_free_X0_gather : GoodIn wsX6_free wsX0_gather := goodIn_r _ [19, 20, 21, 22, 23, 24, 25, 18, 26, 27, 28, 29, 30, 31, 32, 33, 34, 35, 12, 36, 37, 38, 39, 40, 41, 42, 43, 44, 45, 46, 47, 48, 49, 50, 51, 52, 53, 54, 55, 56, 57, 58, 59, 60, 61, 62, 63, 64, 65, 66, 67, 68, 69, 70, 117, 118, 119, 120, 121, 122, 123, 124, 104, 105, 106, 107, 108, 109, 110, 111, 112, 113, 114, 115, 116] (by decide +kernel) (by decide +kernel)
set_option maxRecDepth 20000 in
theorem gX6_free_X0_gather : GoodIn wsX6_free (wsV RX6 147 RX0 yX0_gather wsX0_gather) := goodIn_app (goodIn_of _ (by decide +kernel)) ggX6_free_X0_gather
set_option maxRecDepth 20000 in
theorem ggX6_free_X5_nearOf : GoodIn wsX6_free wsX5_nearOf := goodIn_r _ [74, 75, 76, 77, 78, 12, 79, 80, 81, 82, 83, 14, 84, 85, 86, 104, 105, 106, 107, 108, 109, 110, 111, 112, 113, 114, 115, 116] (by decide +kernel) (by decide +kernel)
set_option maxRecDepth 20000 in
theorem gX6_free_X5_nearOf : GoodIn wsX6_free (wsV RX6 103 RX5 yX5_nearOf wsX5_nearOf) := goodIn_app (goodIn_of _ (by decide +kernel)) ggX6_free_X5_nearOf
set_option maxRecDepth 20000 in
theorem ggX6_free_X0_dropCalled : GoodIn wsX6_free wsX0_dropCalled := goodIn_r _ [90, 22, 61, 91, 92, 93, 12, 94, 14, 95, 117, 118, 119, 120, 121, 122, 123, 124, 104, 105, 106, 107, 108, 109, 110, 111, 112, 113, 114, 115, 116] (by decide +kernel) (by decide +kernel)
set_option maxRecDepth 20000 in
theorem gX6_free_X0_dropCalled : GoodIn wsX6_free (wsV RX6 161 RX0 yX0_dropCalled wsX0_dropCalled) := goodIn_app (goodIn_of _ (by decide +kernel)) ggX6_free_X0_dropCalled
set_option maxRecDepth 20000 in
theorem ggX6_hopes_X5_isPerson : GoodIn wsX6_hopes wsX5_isPerson := goodIn_r _ [10, 11, 136, 137, 138, 139, 140, 141, 142, 143, 144, 145, 146, 147, 148] (by decide +kernel) (by decide +kernel)
set_option maxRecDepth 20000 in
theorem gX6_hopes_X5_isPerson : GoodIn wsX6_hopes (wsV RX6 88 RX5 yX5_isPerson wsX5_isPerson) := goodIn_app (goodIn_of _ (by decide +kernel)) ggX6_hopes_X5_isPerson
set_option maxRecDepth 20000 in
theorem ggX6_hopes_X6_isZeroOrOne : GoodIn wsX6_hopes wsX6_isZeroOrOne := goodIn_r _ [15] (by decide +kernel) (by decide +kernel)
set_option maxRecDepth 20000 in
theorem gX6_hopes_X6_isZeroOrOne : GoodIn wsX6_hopes (va_wsS RX6 165 yX6_isZeroOrOne wsX6_isZeroOrOne) := goodIn_app (goodIn_of _ (by decide +kernel)) ggX6_hopes_X6_isZeroOrOne
set_option maxRecDepth 20000 in
theorem ggX6_hopes_X5_nearChildOf : GoodIn wsX6_hopes wsX5_nearChildOf := goodIn_r _ [19, 20, 21, 22, 23, 9, 24, 25, 26, 27, 28, 11, 29, 30, 31, 136, 137, 138, 139, 140, 141, 142, 143, 144, 145, 146, 147, 148] (by decide +kernel) (by decide +kernel)
set_option maxRecDepth 20000 in
theorem gX6_hopes_X5_nearChildOf : GoodIn wsX6_hopes (wsV RX6 168 RX5 yX5_nearChildOf wsX5_nearChildOf) := goodIn_app (goodIn_of _ (by decide +kernel)) ggX6_hopes_X5_nearChildOf
set_option maxRecDepth 20000 in
theorem ggX6_hopes_X6_findRooms : GoodIn wsX6_hopes wsX6_findRooms := goodIn_r _ [35, 1, 4, 36, 37, 38, 39, 40, 41, 42, 43, 44, 45, 46, 47, 48, 49, 50, 51, 52, 53, 54, 55, 56, 57, 58, 59, 60, 9, 61, 62, 63, 64, 14, 65, 66, 67, 68, 69, 70, 71, 72, 73, 74, 75, 76, 77, 78, 79, 80, 81, 82, 83, 84, 85, 86, 87, 88, 89, 90, 91, 92, 93, 94, 95, 96, 97, 98, 99, 100, 101, 102, 11, 103, 128, 129, 130, 131, 132, 133, 134, 135, 136, 137, 138, 139, 140, 141, 142, 143, 144, 145, 146, 147, 148, 149, 150, 151, 152, 153, 154, 155, 156] (by decide +kernel) (by decide +kernel)
set_option maxRecDepth 20000 in
theorem gX6_hopes_X6_findRooms : GoodIn wsX6_hopes (wsV RX6 171 RX6 yX6_findRooms wsX6_findRooms) := goodIn_app (goodIn_of _ (by decide +kernel)) ggX6_hopes_X6_findRooms
set_option maxRecDepth 20000 in
theorem ggX6_hopes_X6_waysWithNames : GoodIn wsX6_hopes wsX6_waysWithNames := goodIn_r _ [107, 1, 4, 108, 109, 110, 14, 111, 38, 112, 113, 114, 115, 37, 116, 117, 118, 119, 120, 128, 129, 130, 131, 132, 133, 134, 135, 136, 137, 138, 139, 140, 141, 142, 143, 144, 145, 146, 147, 148] (by decide +kernel) (by decide +kernel)
set_option maxRecDepth 20000 in
theorem gX6_hopes_X6_waysWithNames : GoodIn wsX6_hopes (wsV RX6 175 RX6 yX6_waysWithNames wsX6_waysWithNames) := goodIn_app (goodIn_of _ (by decide +kernel)) ggX6_hopes_X6_waysWithNames
set_option maxRecDepth 20000 in
theorem ggX6_hopes_X6_commonDivisor : GoodIn wsX6_hopes wsX6_commonDivisor := goodIn_r _ [123, 124, 125, 126, 127] (by decide +kernel) (by decide +kernel)
set_option maxRecDepth 20000 in
theorem gX6_hopes_X6_commonDivisor : GoodIn wsX6_hopes (va_wsS RX6 184 yX6_commonDivisor wsX6_commonDivisor) := goodIn_app (goodIn_of _ (by decide +kernel)) ggX6_hopes_X6_commonDivisor
set_option maxRecDepth 20000 in
theorem ggX6_findRooms_X0_gather : GoodIn wsX6_findRooms wsX0_gather := goodIn_r _ [11, 12, 13, 14, 15, 16, 17, 10, 18, 19, 20, 21, 22, 23, 24, 25, 26, 27, 28, 29, 30, 31, 32, 33, 34, 35, 36, 37, 38, 39, 40, 41, 42, 43, 44, 45, 46, 47, 48, 49, 50, 51, 52, 53, 54, 55, 56, 57, 58, 59, 60, 61, 62, 63, 95, 96, 97, 98, 99, 100, 101, 102, 82, 83, 84, 85, 86, 87, 88, 89, 90, 91, 92, 93, 94] (by decide +kernel) (by decide +kernel)
set_option maxRecDepth 20000 in
theorem gX6_findRooms_X0_gather : GoodIn wsX6_findRooms (wsV RX6 147 RX0 yX0_gather wsX0_gather) := goodIn_app (goodIn_of _ (by decide +kernel)) ggX6_findRooms_X0_gather
set_option maxRecDepth 20000 in
theorem ggX6_findRooms_X0_dropCalled : GoodIn wsX6_findRooms wsX0_dropCalled := goodIn_r _ [67, 14, 54, 68, 69, 70, 28, 71, 72, 73, 95, 96, 97, 98, 99, 100, 101, 102, 82, 83, 84, 85, 86, 87, 88, 89, 90, 91, 92, 93, 94] (by decide +kernel) (by decide +kernel)
set_option maxRecDepth 20000 in
theorem gX6_findRooms_X0_dropCalled : GoodIn wsX6_findRooms (wsV RX6 161 RX0 yX0_dropCalled wsX0_dropCalled) := goodIn_app (goodIn_of _ (by decide +kernel)) ggX6_findRooms_X0_dropCalled
set_option maxRecDepth 20000 in
theorem ggX6_waysWithNames_X6_allHaveNames : GoodIn wsX6_waysWithNames wsX6_allHaveNames := goodIn_r _ [7, 1, 2, 8, 9, 10, 11, 6, 12, 13, 19, 20, 21, 22, 23, 24, 25, 26, 27, 28, 29, 30, 31, 32, 33, 34, 35, 36, 37, 38, 39] (by decide +kernel) (by decide +kernel)
set_option maxRecDepth 20000 in
theorem gX6_waysWithNames_X6_allHaveNames : GoodIn wsX6_waysWithNames (wsV RX6 191 RX6 yX6_allHaveNames wsX6_allHaveNames) := goodIn_app (goodIn_of _ (by decide +kernel)) ggX6_waysWithNames_X6_allHaveNames
set_option maxRecDepth 20000 in
theorem ggX6_waysWithNames_X6_waysOfComing : GoodIn wsX6_waysWithNames wsX6_waysOfComing := goodIn_r _ [17, 1, 2, 18, 19, 20, 21, 22, 23, 24, 25, 26, 27, 28, 29, 30, 31, 32, 33, 34, 35, 36, 37, 38, 39] (by decide +kernel) (by decide +kernel)
set_option maxRecDepth 20000 in
theorem gX6_waysWithNames_X6_waysOfComing : GoodIn wsX6_waysWithNames (wsV RX6 194 RX6 yX6_waysOfComing wsX6_waysOfComing) := goodIn_app (goodIn_of _ (by decide +kernel)) ggX6_waysWithNames_X6_waysOfComing
set_option maxRecDepth 20000 in
theorem ggX6_allHaveNames_X6_comingWith : GoodIn wsX6_allHaveNames wsX6_comingWith := goodIn_r _ [8, 1, 2, 9, 10, 11, 12, 13, 14, 15, 16, 17, 18, 19, 20, 21, 22, 23, 24, 25, 26, 27, 28, 29, 30] (by decide +kernel) (by decide +kernel)
set_option maxRecDepth 20000 in
theorem gX6_allHaveNames_X6_comingWith : GoodIn wsX6_allHaveNames (wsV RX6 198 RX6 yX6_comingWith wsX6_comingWith) := goodIn_app (goodIn_of _ (by decide +kernel)) ggX6_allHaveNames_X6_comingWith
set_option maxRecDepth 20000 in
theorem ggX6_without_X6_areDays : GoodIn wsX6_without wsX6_areDays := goodIn_r _ [6, 7, 8, 5, 9] (by decide +kernel) (by decide +kernel)
set_option maxRecDepth 20000 in
theorem gX6_without_X6_areDays : GoodIn wsX6_without (va_wsS RX6 204 yX6_areDays wsX6_areDays) := goodIn_app (goodIn_of _ (by decide +kernel)) ggX6_without_X6_areDays
set_option maxRecDepth 20000 in
theorem ggX6_without_X6_isZeroOrOne : GoodIn wsX6_without wsX6_isZeroOrOne := goodIn_r _ [12] (by decide +kernel) (by decide +kernel)
set_option maxRecDepth 20000 in
theorem gX6_without_X6_isZeroOrOne : GoodIn wsX6_without (va_wsS RX6 165 yX6_isZeroOrOne wsX6_isZeroOrOne) := goodIn_app (goodIn_of _ (by decide +kernel)) ggX6_without_X6_isZeroOrOne
set_option maxRecDepth 20000 in
theorem ggX6_without_X2_measure : GoodIn wsX6_without wsX2_measure := goodIn_r _ [17, 18, 19, 20, 21, 22, 23, 24, 25, 26, 27, 28, 5, 29, 30, 31, 32, 33, 34, 35, 36, 37, 38, 39, 16, 40, 41, 42, 43, 44, 61, 62, 63, 64, 65, 66, 67, 68, 69, 70, 71, 72, 73, 74, 75] (by decide +kernel) (by decide +kernel)
set_option maxRecDepth 20000 in
theorem gX6_without_X2_measure : GoodIn wsX6_without (wsV RX6 207 RX2 yX2_measure wsX2_measure) := goodIn_app (goodIn_of _ (by decide +kernel)) ggX6_without_X2_measure
set_option maxRecDepth 20000 in
theorem ggX6_without_X2_daysWithout : GoodIn wsX6_without wsX2_daysWithout := goodIn_r _ [48, 18, 61, 62] (by decide +kernel) (by decide +kernel)
set_option maxRecDepth 20000 in
theorem gX6_without_X2_daysWithout : GoodIn wsX6_without (wsV RX6 210 RX2 yX2_daysWithout wsX2_daysWithout) := goodIn_app (goodIn_of _ (by decide +kernel)) ggX6_without_X2_daysWithout
set_option maxRecDepth 20000 in
theorem ggX6_without_X2_firstWithout : GoodIn wsX6_without wsX2_firstWithout := goodIn_r _ [52, 18, 61, 62] (by decide +kernel) (by decide +kernel)
set_option maxRecDepth 20000 in
theorem gX6_without_X2_firstWithout : GoodIn wsX6_without (wsV RX6 213 RX2 yX2_firstWithout wsX2_firstWithout) := goodIn_app (goodIn_of _ (by decide +kernel)) ggX6_without_X2_firstWithout
set_option maxRecDepth 20000 in
theorem ggX6_mend_X6_areDays : GoodIn wsX6_mend wsX6_areDays := goodIn_r _ [9, 10, 11, 8, 12] (by decide +kernel) (by decide +kernel)
set_option maxRecDepth 20000 in
theorem gX6_mend_X6_areDays : GoodIn wsX6_mend (va_wsS RX6 204 yX6_areDays wsX6_areDays) := goodIn_app (goodIn_of _ (by decide +kernel)) ggX6_mend_X6_areDays
set_option maxRecDepth 20000 in
theorem ggX6_mend_X2_measure : GoodIn wsX6_mend wsX2_measure := goodIn_r _ [17, 18, 19, 20, 21, 22, 23, 24, 25, 26, 27, 28, 8, 29, 30, 31, 32, 33, 34, 35, 36, 37, 38, 39, 16, 40, 41, 42, 43, 44, 85, 86, 72, 73, 74, 75, 76, 77, 78, 79, 80, 81, 82, 83, 84] (by decide +kernel) (by decide +kernel)
set_option maxRecDepth 20000 in
theorem gX6_mend_X2_measure : GoodIn wsX6_mend (wsV RX6 207 RX2 yX2_measure wsX2_measure) := goodIn_app (goodIn_of _ (by decide +kernel)) ggX6_mend_X2_measure
set_option maxRecDepth 20000 in
theorem ggX6_mend_X2_firstWithout : GoodIn wsX6_mend wsX2_firstWithout := goodIn_r _ [48, 18, 85, 86] (by decide +kernel) (by decide +kernel)
set_option maxRecDepth 20000 in
theorem gX6_mend_X2_firstWithout : GoodIn wsX6_mend (wsV RX6 213 RX2 yX2_firstWithout wsX2_firstWithout) := goodIn_app (goodIn_of _ (by decide +kernel)) ggX6_mend_X2_firstWithout
set_option maxRecDepth 20000 in
theorem ggX6_mend_X2_mendingSyllable : GoodIn wsX6_mend wsX2_mendingSyllable := goodIn_r _ [52, 53, 54, 55, 21, 22, 23, 24, 25, 26, 27, 28, 8, 29, 30, 31, 32, 33, 34, 35, 36, 56, 57, 58, 16, 59, 60, 61, 62, 63, 18, 85, 86, 72, 73, 74, 75, 76, 77, 78, 79, 80, 81, 82, 83, 84] (by decide +kernel) (by decide +kernel)
set_option maxRecDepth 20000 in
theorem gX6_mend_X2_mendingSyllable : GoodIn wsX6_mend (wsV RX6 221 RX2 yX2_mendingSyllable wsX2_mendingSyllable) := goodIn_app (goodIn_of _ (by decide +kernel)) ggX6_mend_X2_mendingSyllable
set_option maxRecDepth 20000 in
theorem ggX6_old_X6_isLetter : GoodIn wsX6_old wsX6_isLetter := goodIn_r _ [7] (by decide +kernel) (by decide +kernel)
set_option maxRecDepth 20000 in
theorem gX6_old_X6_isLetter : GoodIn wsX6_old (va_wsS RX6 81 yX6_isLetter wsX6_isLetter) := goodIn_app (goodIn_of _ (by decide +kernel)) ggX6_old_X6_isLetter
set_option maxRecDepth 20000 in
theorem ggX6_old_X1_solve : GoodIn wsX6_old wsX1_solve := goodIn_r _ [12, 13, 14, 15, 16, 17, 18, 19, 20, 21, 11, 22, 23, 24, 25, 26, 27, 28, 6, 29, 30, 31, 32, 33, 34, 35, 36, 37, 38, 39, 40, 41, 42, 43, 44, 45, 46, 47, 48, 49, 50, 51, 52, 53, 54, 55, 56, 57, 58, 59, 60, 61, 62, 63, 64, 65, 66, 67, 68, 69, 70, 71, 72, 73, 74, 75, 76, 77, 90, 91, 92, 93, 94, 95, 96, 97, 98, 99, 100, 101, 102, 103, 104, 105, 106, 107, 108, 109, 110, 111, 112] (by decide +kernel) (by decide +kernel)
set_option maxRecDepth 20000 in
theorem gX6_old_X1_solve : GoodIn wsX6_old (wsV RX6 225 RX1 yX1_solve wsX1_solve) := goodIn_app (goodIn_of _ (by decide +kernel)) ggX6_old_X1_solve
set_option maxRecDepth 20000 in
theorem ggX6_old_X1_firstNumberOf : GoodIn wsX6_old wsX1_firstNumberOf := goodIn_r _ [81, 13, 23, 24, 50, 90, 91, 92, 93, 94, 95, 96, 97, 98, 99] (by decide +kernel) (by decide +kernel)
set_option maxRecDepth 20000 in
theorem gX6_old_X1_firstNumberOf : GoodIn wsX6_old (wsV RX6 232 RX1 yX1_firstNumberOf wsX1_firstNumberOf) := goodIn_app (goodIn_of _ (by decide +kernel)) ggX6_old_X1_firstNumberOf
set_option maxRecDepth 20000 in
theorem ggX6_reform_X5_isPerson : GoodIn wsX6_reform wsX5_isPerson := goodIn_r _ [7, 8, 55, 56, 57, 58, 59, 60, 61, 62, 63, 64, 65, 66, 67] (by decide +kernel) (by decide +kernel)
set_option maxRecDepth 20000 in
theorem gX6_reform_X5_isPerson : GoodIn wsX6_reform (wsV RX6 88 RX5 yX5_isPerson wsX5_isPerson) := goodIn_app (goodIn_of _ (by decide +kernel)) ggX6_reform_X5_isPerson
set_option maxRecDepth 20000 in
theorem ggX6_reform_X6_bestReformedLetter : GoodIn wsX6_reform wsX6_bestReformedLetter := goodIn_r _ [13, 14, 15, 16, 12, 17, 1, 18, 2, 19, 20, 21, 22, 23, 24, 25, 26, 27, 28, 29, 6, 30, 31, 32, 33, 34, 35, 36, 37, 38, 39, 40, 41, 42, 43, 44, 45, 46, 47, 48, 49, 50, 51, 52, 53, 54, 55, 56, 57, 58, 59, 60, 61, 62, 63, 64, 65, 66, 67] (by decide +kernel) (by decide +kernel)
set_option maxRecDepth 20000 in
theorem gX6_reform_X6_bestReformedLetter : GoodIn wsX6_reform (wsV RX6 235 RX6 yX6_bestReformedLetter wsX6_bestReformedLetter) := goodIn_app (goodIn_of _ (by decide +kernel)) ggX6_reform_X6_bestReformedLetter
set_option maxRecDepth 20000 in
theorem ggX6_reform_X6_reformedNumber : GoodIn wsX6_reform wsX6_reformedNumber := goodIn_r _ [17, 1, 18, 2, 19, 20, 21, 12, 22, 23, 24, 25, 26, 27, 28, 29, 6, 30, 31, 32, 33, 34, 47, 48, 49, 50, 51, 52, 53, 54, 55, 56, 57, 58, 59, 60, 61, 62, 63, 64, 65, 66, 67] (by decide +kernel) (by decide +kernel)
set_option maxRecDepth 20000 in
theorem gX6_reform_X6_reformedNumber : GoodIn wsX6_reform (wsV RX6 238 RX6 yX6_reformedNumber wsX6_reformedNumber) := goodIn_app (goodIn_of _ (by decide +kernel)) ggX6_reform_X6_reformedNumber
set_option maxRecDepth 20000 in
theorem ggX6_reform_X6_calledAnew : GoodIn wsX6_reform wsX6_calledAnew := goodIn_r _ [38, 1, 39, 2, 40, 41, 42, 6, 43, 44, 45, 46, 28, 29, 30, 31, 32, 25, 12, 26, 23, 33, 34, 20, 21, 22, 24, 47, 48, 49, 50, 51, 52, 53, 54, 55, 56, 57, 58, 59, 60, 61, 62, 63, 64, 65, 66, 67] (by decide +kernel) (by decide +kernel)
set_option maxRecDepth 20000 in
theorem gX6_reform_X6_calledAnew : GoodIn wsX6_reform (wsV RX6 241 RX6 yX6_calledAnew wsX6_calledAnew) := goodIn_app (goodIn_of _ (by decide +kernel)) ggX6_reform_X6_calledAnew
set_option maxRecDepth 20000 in
theorem ggX6_bestReformedLetter_X6_reformedNumber : GoodIn wsX6_bestReformedLetter wsX6_reformedNumber := goodIn_r _ [5, 6, 7, 8, 9, 10, 11, 4, 12, 13, 14, 15, 16, 17, 18, 19, 20, 21, 22, 23, 24, 25, 38, 39, 40, 41, 42, 43, 44, 45, 46, 47, 48, 49, 50, 51, 52, 53, 54, 55, 56, 57, 58] (by decide +kernel) (by decide +kernel)
set_option maxRecDepth 20000 in
theorem gX6_bestReformedLetter_X6_reformedNumber : GoodIn wsX6_bestReformedLetter (wsV RX6 238 RX6 yX6_reformedNumber wsX6_reformedNumber) := goodIn_app (goodIn_of _ (by decide +kernel)) ggX6_bestReformedLetter_X6_reformedNumber
set_option maxRecDepth 20000 in
theorem ggX6_bestReformedLetter_X6_calledAnew : GoodIn wsX6_bestReformedLetter wsX6_calledAnew := goodIn_r _ [29, 6, 30, 8, 31, 32, 33, 20, 34, 35, 36, 37, 18, 19, 21, 22, 23, 15, 4, 16, 13, 24, 25, 10, 11, 12, 14, 38, 39, 40, 41, 42, 43, 44, 45, 46, 47, 48, 49, 50, 51, 52, 53, 54, 55, 56, 57, 58] (by decide +kernel) (by decide +kernel)
set_option maxRecDepth 20000 in
theorem gX6_bestReformedLetter_X6_calledAnew : GoodIn wsX6_bestReformedLetter (wsV RX6 241 RX6 yX6_calledAnew wsX6_calledAnew) := goodIn_app (goodIn_of _ (by decide +kernel)) ggX6_bestReformedLetter_X6_calledAnew
set_option maxRecDepth 20000 in
theorem ggX6_reformedNumber_X6_timesIn : GoodIn wsX6_reformedNumber wsX6_timesIn := goodIn_r _ [8, 9, 10, 11, 7, 12] (by decide +kernel) (by decide +kernel)
set_option maxRecDepth 20000 in
theorem gX6_reformedNumber_X6_timesIn : GoodIn wsX6_reformedNumber (va_wsS RX6 244 yX6_timesIn wsX6_timesIn) := goodIn_app (goodIn_of _ (by decide +kernel)) ggX6_reformedNumber_X6_timesIn
set_option maxRecDepth 20000 in
theorem ggX6_reformedNumber_X5_sumOf : GoodIn wsX6_reformedNumber wsX5_sumOf := goodIn_r _ [17, 18, 19, 11, 7, 12, 9, 20, 21, 30, 31, 32, 33, 34, 35, 36, 37, 38, 39, 40, 41, 42] (by decide +kernel) (by decide +kernel)
set_option maxRecDepth 20000 in
theorem gX6_reformedNumber_X5_sumOf : GoodIn wsX6_reformedNumber (wsV RX6 130 RX5 yX5_sumOf wsX5_sumOf) := goodIn_app (goodIn_of _ (by decide +kernel)) ggX6_reformedNumber_X5_sumOf
set_option maxRecDepth 20000 in
theorem ggX6_calledAnew_X5_addsUp : GoodIn wsX6_calledAnew wsX5_addsUp := goodIn_r _ [8, 9, 10, 11, 12, 13, 7, 14, 15, 16, 17, 18, 19, 20, 21, 22, 35, 36, 37, 38, 39, 40, 41, 42, 43, 44, 45, 46, 47] (by decide +kernel) (by decide +kernel)
set_option maxRecDepth 20000 in
theorem gX6_calledAnew_X5_addsUp : GoodIn wsX6_calledAnew (wsV RX6 250 RX5 yX5_addsUp wsX5_addsUp) := goodIn_app (goodIn_of _ (by decide +kernel)) ggX6_calledAnew_X5_addsUp
set_option maxRecDepth 20000 in
theorem ggX6_calledAnew_X6_timesIn : GoodIn wsX6_calledAnew wsX6_timesIn := goodIn_r _ [25, 20, 26, 17, 18, 19] (by decide +kernel) (by decide +kernel)
set_option maxRecDepth 20000 in
theorem gX6_calledAnew_X6_timesIn : GoodIn wsX6_calledAnew (va_wsS RX6 244 yX6_timesIn wsX6_timesIn) := goodIn_app (goodIn_of _ (by decide +kernel)) ggX6_calledAnew_X6_timesIn
set_option maxRecDepth 20000 in
theorem ggX6_nicknames_X5_isPerson : GoodIn wsX6_nicknames wsX5_isPerson := goodIn_r _ [15, 16, 91, 92, 93, 94, 95, 96, 97, 98, 99, 100, 101, 102, 103] (by decide +kernel) (by decide +kernel)
set_option maxRecDepth 20000 in
theorem gX6_nicknames_X5_isPerson : GoodIn wsX6_nicknames (wsV RX6 88 RX5 yX5_isPerson wsX5_isPerson) := goodIn_app (goodIn_of _ (by decide +kernel)) ggX6_nicknames_X5_isPerson
set_option maxRecDepth 20000 in
theorem ggX6_nicknames_X6_isZeroOrOne : GoodIn wsX6_nicknames wsX6_isZeroOrOne := goodIn_r _ [20] (by decide +kernel) (by decide +kernel)
set_option maxRecDepth 20000 in
theorem gX6_nicknames_X6_isZeroOrOne : GoodIn wsX6_nicknames (va_wsS RX6 165 yX6_isZeroOrOne wsX6_isZeroOrOne) := goodIn_app (goodIn_of _ (by decide +kernel)) ggX6_nicknames_X6_isZeroOrOne
set_option maxRecDepth 20000 in
theorem ggX6_nicknames_X0_gather : GoodIn wsX6_nicknames wsX0_gather := goodIn_r _ [25, 26, 27, 28, 29, 30, 31, 24, 32, 33, 34, 35, 36, 37, 38, 39, 40, 41, 14, 42, 43, 44, 45, 19, 46, 47, 48, 49, 50, 51, 52, 53, 54, 55, 56, 57, 58, 59, 60, 61, 62, 63, 64, 65, 66, 67, 68, 69, 70, 71, 72, 73, 74, 75, 104, 105, 106, 107, 108, 109, 110, 111, 91, 92, 93, 94, 95, 96, 97, 98, 99, 100, 101, 102, 103] (by decide +kernel) (by decide +kernel)
set_option maxRecDepth 20000 in
theorem gX6_nicknames_X0_gather : GoodIn wsX6_nicknames (wsV RX6 147 RX0 yX0_gather wsX0_gather) := goodIn_app (goodIn_of _ (by decide +kernel)) ggX6_nicknames_X0_gather
set_option maxRecDepth 20000 in
theorem ggX6_nicknames_X0_dropNoNicknames : GoodIn wsX6_nicknames wsX0_dropNoNicknames := goodIn_r _ [79, 28, 66, 80, 19, 81, 47, 82, 45, 46, 104, 105, 106, 107, 108, 109, 110, 111] (by decide +kernel) (by decide +kernel)
set_option maxRecDepth 20000 in
theorem gX6_nicknames_X0_dropNoNicknames : GoodIn wsX6_nicknames (wsV RX6 253 RX0 yX0_dropNoNicknames wsX0_dropNoNicknames) := goodIn_app (goodIn_of _ (by decide +kernel)) ggX6_nicknames_X0_dropNoNicknames
set_option maxRecDepth 20000 in
theorem ggX6_page_X6_isZeroOrOne : GoodIn wsX6_page wsX6_isZeroOrOne := goodIn_r _ [7] (by decide +kernel) (by decide +kernel)
set_option maxRecDepth 20000 in
theorem gX6_page_X6_isZeroOrOne : GoodIn wsX6_page (va_wsS RX6 165 yX6_isZeroOrOne wsX6_isZeroOrOne) := goodIn_app (goodIn_of _ (by decide +kernel)) ggX6_page_X6_isZeroOrOne
set_option maxRecDepth 20000 in
theorem ggX6_page_X5_leastCalled : GoodIn wsX6_page wsX5_leastCalled := goodIn_r _ [12, 13, 14, 46, 47, 48, 49, 50, 51, 52, 53, 54, 55, 56, 57, 58] (by decide +kernel) (by decide +kernel)
set_option maxRecDepth 20000 in
theorem gX6_page_X5_leastCalled : GoodIn wsX6_page (wsV RX6 140 RX5 yX5_leastCalled wsX5_leastCalled) := goodIn_app (goodIn_of _ (by decide +kernel)) ggX6_page_X5_leastCalled
set_option maxRecDepth 20000 in
theorem ggX6_page_X5_sumOfAll : GoodIn wsX6_page wsX5_sumOfAll := goodIn_r _ [18, 13, 14, 19, 20, 21, 11, 22, 23, 24, 25, 6, 26, 27, 28, 29, 46, 47, 48, 49, 50, 51, 52, 53, 54, 55, 56, 57, 58] (by decide +kernel) (by decide +kernel)
set_option maxRecDepth 20000 in
theorem gX6_page_X5_sumOfAll : GoodIn wsX6_page (wsV RX6 257 RX5 yX5_sumOfAll wsX5_sumOfAll) := goodIn_app (goodIn_of _ (by decide +kernel)) ggX6_page_X5_sumOfAll
set_option maxRecDepth 20000 in
theorem ggX6_page_X5_changesBy : GoodIn wsX6_page wsX5_changesBy := goodIn_r _ [33, 23, 24, 25, 6, 26, 27, 28, 29, 34, 35, 36, 11, 37, 46, 47, 48, 49, 50, 51, 52, 53, 54, 55, 56, 57, 58] (by decide +kernel) (by decide +kernel)
set_option maxRecDepth 20000 in
theorem gX6_page_X5_changesBy : GoodIn wsX6_page (wsV RX6 260 RX5 yX5_changesBy wsX5_changesBy) := goodIn_app (goodIn_of _ (by decide +kernel)) ggX6_page_X5_changesBy
set_option maxRecDepth 20000 in
theorem ggX6_sheet_X6_isSheet : GoodIn wsX6_sheet wsX6_isSheet := goodIn_r _ [5] (by decide +kernel) (by decide +kernel)
set_option maxRecDepth 20000 in
theorem gX6_sheet_X6_isSheet : GoodIn wsX6_sheet (va_wsS RX6 263 yX6_isSheet wsX6_isSheet) := goodIn_app (goodIn_of _ (by decide +kernel)) ggX6_sheet_X6_isSheet
set_option maxRecDepth 20000 in
theorem ggX6_sheet_X6_isLane : GoodIn wsX6_sheet wsX6_isLane := goodIn_r _ [8] (by decide +kernel) (by decide +kernel)
set_option maxRecDepth 20000 in
theorem gX6_sheet_X6_isLane : GoodIn wsX6_sheet (va_wsS RX6 266 yX6_isLane wsX6_isLane) := goodIn_app (goodIn_of _ (by decide +kernel)) ggX6_sheet_X6_isLane
set_option maxRecDepth 20000 in
theorem ggX6_sheet_X4_begin : GoodIn wsX6_sheet wsX4_begin := goodIn_r _ [13, 14, 15, 16, 25, 26, 27] (by decide +kernel) (by decide +kernel)
set_option maxRecDepth 20000 in
theorem gX6_sheet_X4_begin : GoodIn wsX6_sheet (wsV RX6 269 RX4 yX4_begin wsX4_begin) := goodIn_app (goodIn_of _ (by decide +kernel)) ggX6_sheet_X4_begin
set_option maxRecDepth 20000 in
theorem ggX6_tear_X6_isSheet : GoodIn wsX6_tear wsX6_isSheet := goodIn_r _ [6] (by decide +kernel) (by decide +kernel)
set_option maxRecDepth 20000 in
theorem gX6_tear_X6_isSheet : GoodIn wsX6_tear (va_wsS RX6 263 yX6_isSheet wsX6_isSheet) := goodIn_app (goodIn_of _ (by decide +kernel)) ggX6_tear_X6_isSheet
set_option maxRecDepth 20000 in
theorem ggX6_lay_X6_isSheet : GoodIn wsX6_lay wsX6_isSheet := goodIn_r _ [5] (by decide +kernel) (by decide +kernel)
set_option maxRecDepth 20000 in
theorem gX6_lay_X6_isSheet : GoodIn wsX6_lay (va_wsS RX6 263 yX6_isSheet wsX6_isSheet) := goodIn_app (goodIn_of _ (by decide +kernel)) ggX6_lay_X6_isSheet
set_option maxRecDepth 20000 in
theorem ggX6_lay_X4_isMissing : GoodIn wsX6_lay wsX4_isMissing := goodIn_r _ [10, 11, 30, 31, 32] (by decide +kernel) (by decide +kernel)
set_option maxRecDepth 20000 in
theorem gX6_lay_X4_isMissing : GoodIn wsX6_lay (wsV RX6 274 RX4 yX4_isMissing wsX4_isMissing) := goodIn_app (goodIn_of _ (by decide +kernel)) ggX6_lay_X4_isMissing
set_option maxRecDepth 20000 in
theorem ggX6_lay_X4_hasPlaces : GoodIn wsX6_lay wsX4_hasPlaces := goodIn_r _ [15, 11, 30, 31, 32] (by decide +kernel) (by decide +kernel)
set_option maxRecDepth 20000 in
theorem gX6_lay_X4_hasPlaces : GoodIn wsX6_lay (wsV RX6 278 RX4 yX4_hasPlaces wsX4_hasPlaces) := goodIn_app (goodIn_of _ (by decide +kernel)) ggX6_lay_X4_hasPlaces
set_option maxRecDepth 20000 in
theorem ggX6_lay_X4_put : GoodIn wsX6_lay wsX4_put := goodIn_r _ [19, 20, 21, 30, 31, 32] (by decide +kernel) (by decide +kernel)
set_option maxRecDepth 20000 in
theorem gX6_lay_X4_put : GoodIn wsX6_lay (wsV RX6 281 RX4 yX4_put wsX4_put) := goodIn_app (goodIn_of _ (by decide +kernel)) ggX6_lay_X4_put
set_option maxRecDepth 20000 in
theorem ggX6_copy_X6_isSheet : GoodIn wsX6_copy wsX6_isSheet := goodIn_r _ [11] (by decide +kernel) (by decide +kernel)
set_option maxRecDepth 20000 in
theorem gX6_copy_X6_isSheet : GoodIn wsX6_copy (va_wsS RX6 263 yX6_isSheet wsX6_isSheet) := goodIn_app (goodIn_of _ (by decide +kernel)) ggX6_copy_X6_isSheet
set_option maxRecDepth 20000 in
theorem ggX6_copy_X4_isMissing : GoodIn wsX6_copy wsX4_isMissing := goodIn_r _ [16, 17, 30, 31, 32] (by decide +kernel) (by decide +kernel)
set_option maxRecDepth 20000 in
theorem gX6_copy_X4_isMissing : GoodIn wsX6_copy (wsV RX6 274 RX4 yX4_isMissing wsX4_isMissing) := goodIn_app (goodIn_of _ (by decide +kernel)) ggX6_copy_X4_isMissing
set_option maxRecDepth 20000 in
theorem ggX6_copy_X4_hasPlaces : GoodIn wsX6_copy wsX4_hasPlaces := goodIn_r _ [21, 17, 30, 31, 32] (by decide +kernel) (by decide +kernel)
set_option maxRecDepth 20000 in
theorem gX6_copy_X4_hasPlaces : GoodIn wsX6_copy (wsV RX6 278 RX4 yX4_hasPlaces wsX4_hasPlaces) := goodIn_app (goodIn_of _ (by decide +kernel)) ggX6_copy_X4_hasPlaces
set_option maxRecDepth 20000 in
theorem ggX6_hope_X6_isSheet : GoodIn wsX6_hope wsX6_isSheet := goodIn_r _ [9] (by decide +kernel) (by decide +kernel)
set_option maxRecDepth 20000 in
theorem gX6_hope_X6_isSheet : GoodIn wsX6_hope (va_wsS RX6 263 yX6_isSheet wsX6_isSheet) := goodIn_app (goodIn_of _ (by decide +kernel)) ggX6_hope_X6_isSheet
set_option maxRecDepth 20000 in
theorem ggX6_hope_X6_isLane : GoodIn wsX6_hope wsX6_isLane := goodIn_r _ [12] (by decide +kernel) (by decide +kernel)
set_option maxRecDepth 20000 in
theorem gX6_hope_X6_isLane : GoodIn wsX6_hope (va_wsS RX6 266 yX6_isLane wsX6_isLane) := goodIn_app (goodIn_of _ (by decide +kernel)) ggX6_hope_X6_isLane
set_option maxRecDepth 20000 in
theorem ggX6_hope_X4_isMissing : GoodIn wsX6_hope wsX4_isMissing := goodIn_r _ [17, 18, 46, 47, 48] (by decide +kernel) (by decide +kernel)
set_option maxRecDepth 20000 in
theorem gX6_hope_X4_isMissing : GoodIn wsX6_hope (wsV RX6 274 RX4 yX4_isMissing wsX4_isMissing) := goodIn_app (goodIn_of _ (by decide +kernel)) ggX6_hope_X4_isMissing
set_option maxRecDepth 20000 in
theorem ggX6_hope_X4_hasPlaces : GoodIn wsX6_hope wsX4_hasPlaces := goodIn_r _ [22, 18, 46, 47, 48] (by decide +kernel) (by decide +kernel)
set_option maxRecDepth 20000 in
theorem gX6_hope_X4_hasPlaces : GoodIn wsX6_hope (wsV RX6 278 RX4 yX4_hasPlaces wsX4_hasPlaces) := goodIn_app (goodIn_of _ (by decide +kernel)) ggX6_hope_X4_hasPlaces
set_option maxRecDepth 20000 in
theorem ggX6_hope_X4_hasOnlyDays : GoodIn wsX6_hope wsX4_hasOnlyDays := goodIn_r _ [26, 27, 28, 8, 29, 46, 47, 48] (by decide +kernel) (by decide +kernel)
set_option maxRecDepth 20000 in
theorem gX6_hope_X4_hasOnlyDays : GoodIn wsX6_hope (wsV RX6 296 RX4 yX4_hasOnlyDays wsX4_hasOnlyDays) := goodIn_app (goodIn_of _ (by decide +kernel)) ggX6_hope_X4_hasOnlyDays
set_option maxRecDepth 20000 in
theorem ggX6_hope_X5_addHope : GoodIn wsX6_hope wsX5_addHope := goodIn_r _ [34, 35, 36, 37, 49, 50, 51, 52, 53, 54, 55, 56, 57, 58, 59, 60, 61] (by decide +kernel) (by decide +kernel)
set_option maxRecDepth 20000 in
theorem gX6_hope_X5_addHope : GoodIn wsX6_hope (wsV RX6 299 RX5 yX5_addHope wsX5_addHope) := goodIn_app (goodIn_of _ (by decide +kernel)) ggX6_hope_X5_addHope
set_option maxRecDepth 20000 in
theorem ggX6_keep_X6_isImage : GoodIn wsX6_keep wsX6_isImage := goodIn_r _ [10] (by decide +kernel) (by decide +kernel)
set_option maxRecDepth 20000 in
theorem gX6_keep_X6_isImage : GoodIn wsX6_keep (va_wsS RX6 302 yX6_isImage wsX6_isImage) := goodIn_app (goodIn_of _ (by decide +kernel)) ggX6_keep_X6_isImage
set_option maxRecDepth 20000 in
theorem ggX6_keep_X5_init : GoodIn wsX6_keep wsX5_init := goodIn_r _ [13, 14, 15, 16, 17, 18, 19, 20, 21, 22, 23, 24, 25, 26, 27, 28, 29, 30, 31, 48, 49, 50, 51, 52, 53, 54, 55, 56, 57, 58, 59, 60] (by decide +kernel) (by decide +kernel)
set_option maxRecDepth 20000 in
theorem gX6_keep_X5_init : GoodIn wsX6_keep (wsX5_init) := ggX6_keep_X5_init
set_option maxRecDepth 20000 in
theorem ggX6_keep_X5_takeFrom : GoodIn wsX6_keep wsX5_takeFrom := goodIn_r _ [35, 18, 36, 37, 38, 39, 20, 21, 22, 23, 24, 25, 26, 27, 28, 29, 30, 31, 48, 49, 50, 51, 52, 53, 54, 55, 56, 57, 58, 59, 60] (by decide +kernel) (by decide +kernel)
set_option maxRecDepth 20000 in
theorem gX6_keep_X5_takeFrom : GoodIn wsX6_keep (wsV RX6 74 RX5 yX5_takeFrom wsX5_takeFrom) := goodIn_app (goodIn_of _ (by decide +kernel)) ggX6_keep_X5_takeFrom
set_option maxRecDepth 20000 in
theorem ggX6_back_X6_isImage : GoodIn wsX6_back wsX6_isImage := goodIn_r _ [7] (by decide +kernel) (by decide +kernel)
set_option maxRecDepth 20000 in
theorem gX6_back_X6_isImage : GoodIn wsX6_back (va_wsS RX6 302 yX6_isImage wsX6_isImage) := goodIn_app (goodIn_of _ (by decide +kernel)) ggX6_back_X6_isImage
set_option maxRecDepth 20000 in
theorem ggX6_back_X5_takeFrom : GoodIn wsX6_back wsX5_takeFrom := goodIn_r _ [12, 13, 14, 15, 16, 17, 18, 19, 20, 21, 22, 23, 24, 25, 26, 27, 28, 29, 38, 39, 40, 41, 42, 43, 44, 45, 46, 47, 48, 49, 50] (by decide +kernel) (by decide +kernel)
set_option maxRecDepth 20000 in
theorem gX6_back_X5_takeFrom : GoodIn wsX6_back (wsV RX6 74 RX5 yX5_takeFrom wsX5_takeFrom) := goodIn_app (goodIn_of _ (by decide +kernel)) ggX6_back_X5_takeFrom
set_option maxRecDepth 20000 in
theorem ggX6_areDays_X6_isDay : GoodIn wsX6_areDays wsX6_isDay := goodIn_r _ [4] (by decide +kernel) (by decide +kernel)
set_option maxRecDepth 20000 in
theorem gX6_areDays_X6_isDay : GoodIn wsX6_areDays (va_wsS RX6 144 yX6_isDay wsX6_isDay) := goodIn_app (goodIn_of _ (by decide +kernel)) ggX6_areDays_X6_isDay
set_option maxRecDepth 20000 in
theorem ggX6_timesIn_X6_lastLetter : GoodIn wsX6_timesIn wsX6_lastLetter := goodIn_r _ [5, 1] (by decide +kernel) (by decide +kernel)
set_option maxRecDepth 20000 in
theorem gX6_timesIn_X6_lastLetter : GoodIn wsX6_timesIn (va_wsS RX6 312 yX6_lastLetter wsX6_lastLetter) := goodIn_app (goodIn_of _ (by decide +kernel)) ggX6_timesIn_X6_lastLetter
set_option maxRecDepth 20000 in
theorem ggX6_isLeftOf_X6_lastLetter : GoodIn wsX6_isLeftOf wsX6_lastLetter := goodIn_r _ [5, 1] (by decide +kernel) (by decide +kernel)
set_option maxRecDepth 20000 in
theorem gX6_isLeftOf_X6_lastLetter : GoodIn wsX6_isLeftOf (va_wsS RX6 312 yX6_lastLetter wsX6_lastLetter) := goodIn_app (goodIn_of _ (by decide +kernel)) ggX6_isLeftOf_X6_lastLetter
set_option maxRecDepth 20000 in
theorem ggX7_write_X7_in : GoodIn wsX7_write wsX7_in := goodIn_r _ [8] (by decide +kernel) (by decide +kernel)
set_option maxRecDepth 20000 in
theorem gX7_write_X7_in : GoodIn wsX7_write (va_wsS RX7 68 yX7_in wsX7_in) := goodIn_app (goodIn_of _ (by decide +kernel)) ggX7_write_X7_in
set_option maxRecDepth 20000 in
theorem ggX7_token_X7_sort : GoodIn wsX7_token wsX7_sort := goodIn_r _ [9] (by decide +kernel) (by decide +kernel)
set_option maxRecDepth 20000 in
theorem gX7_token_X7_sort : GoodIn wsX7_token (va_wsS RX7 84 yX7_sort wsX7_sort) := goodIn_app (goodIn_of _ (by decide +kernel)) ggX7_token_X7_sort
set_option maxRecDepth 20000 in
theorem ggX7_wordOf_X7_isWord : GoodIn wsX7_wordOf wsX7_isWord := goodIn_r _ [13, 14, 15, 16, 17, 18, 19, 20, 21, 22, 23, 24, 25, 26, 27, 28, 29, 30, 31, 32, 33, 34, 35, 36, 37, 38, 39, 40, 41, 42, 43, 44, 45, 46] (by decide +kernel) (by decide +kernel)
set_option maxRecDepth 20000 in
theorem gX7_wordOf_X7_isWord : GoodIn wsX7_wordOf (wsV RX7 95 RX7 yX7_isWord wsX7_isWord) := goodIn_app (goodIn_of _ (by decide +kernel)) ggX7_wordOf_X7_isWord
set_option maxRecDepth 20000 in
theorem ggX7_reads_X7_sort : GoodIn wsX7_reads wsX7_sort := goodIn_r _ [10] (by decide +kernel) (by decide +kernel)
set_option maxRecDepth 20000 in
theorem gX7_reads_X7_sort : GoodIn wsX7_reads (va_wsS RX7 84 yX7_sort wsX7_sort) := goodIn_app (goodIn_of _ (by decide +kernel)) ggX7_reads_X7_sort
set_option maxRecDepth 20000 in
theorem ggX7_reads_X7_in : GoodIn wsX7_reads wsX7_in := goodIn_r _ [13] (by decide +kernel) (by decide +kernel)
set_option maxRecDepth 20000 in
theorem gX7_reads_X7_in : GoodIn wsX7_reads (va_wsS RX7 68 yX7_in wsX7_in) := goodIn_app (goodIn_of _ (by decide +kernel)) ggX7_reads_X7_in
set_option maxRecDepth 20000 in
theorem ggX7_reads_X7_token : GoodIn wsX7_reads wsX7_token := goodIn_r _ [17, 18, 2, 3, 1, 4, 7, 8, 9, 10, 19, 20, 21, 22, 23, 24, 25, 26, 27, 28, 29, 30, 31, 32, 33, 34, 35, 36, 37, 38, 39, 40, 41, 42, 43, 44, 45, 46, 47] (by decide +kernel) (by decide +kernel)
set_option maxRecDepth 20000 in
theorem gX7_reads_X7_token : GoodIn wsX7_reads (wsV RX7 116 RX7 yX7_token wsX7_token) := goodIn_app (goodIn_of _ (by decide +kernel)) ggX7_reads_X7_token
set_option maxRecDepth 20000 in
theorem ggX7_codeHere_X7_sort : GoodIn wsX7_codeHere wsX7_sort := goodIn_r _ [11] (by decide +kernel) (by decide +kernel)
set_option maxRecDepth 20000 in
theorem gX7_codeHere_X7_sort : GoodIn wsX7_codeHere (va_wsS RX7 84 yX7_sort wsX7_sort) := goodIn_app (goodIn_of _ (by decide +kernel)) ggX7_codeHere_X7_sort
set_option maxRecDepth 20000 in
theorem ggX7_readsLetter_X7_codeHere : GoodIn wsX7_readsLetter wsX7_codeHere := goodIn_r _ [8, 9, 10, 11, 12, 1, 13, 14, 15, 16, 7, 17, 23, 24, 25, 26, 27, 28, 29, 30, 31, 32, 33, 34, 35, 36, 37, 38, 39, 40, 41, 42, 43, 44, 45, 46, 47, 48, 49, 50, 51] (by decide +kernel) (by decide +kernel)
set_option maxRecDepth 20000 in
theorem gX7_readsLetter_X7_codeHere : GoodIn wsX7_readsLetter (wsV RX7 125 RX7 yX7_codeHere wsX7_codeHere) := goodIn_app (goodIn_of _ (by decide +kernel)) ggX7_readsLetter_X7_codeHere
set_option maxRecDepth 20000 in
theorem ggX7_readsLetter_X7_token : GoodIn wsX7_readsLetter wsX7_token := goodIn_r _ [21, 22, 10, 11, 9, 12, 15, 16, 7, 17, 23, 24, 25, 26, 27, 28, 29, 30, 31, 32, 33, 34, 35, 36, 37, 38, 39, 40, 41, 42, 43, 44, 45, 46, 47, 48, 49, 50, 51] (by decide +kernel) (by decide +kernel)
set_option maxRecDepth 20000 in
theorem gX7_readsLetter_X7_token : GoodIn wsX7_readsLetter (wsV RX7 116 RX7 yX7_token wsX7_token) := goodIn_app (goodIn_of _ (by decide +kernel)) ggX7_readsLetter_X7_token
set_option maxRecDepth 20000 in
theorem ggX7_readsSyl_X7_codeHere : GoodIn wsX7_readsSyl wsX7_codeHere := goodIn_r _ [10, 11, 12, 13, 14, 1, 15, 16, 17, 18, 9, 19, 25, 26, 27, 28, 29, 30, 31, 32, 33, 34, 35, 36, 37, 38, 39, 40, 41, 42, 43, 44, 45, 46, 47, 48, 49, 50, 51, 52, 53] (by decide +kernel) (by decide +kernel)
set_option maxRecDepth 20000 in
theorem gX7_readsSyl_X7_codeHere : GoodIn wsX7_readsSyl (wsV RX7 125 RX7 yX7_codeHere wsX7_codeHere) := goodIn_app (goodIn_of _ (by decide +kernel)) ggX7_readsSyl_X7_codeHere
set_option maxRecDepth 20000 in
theorem ggX7_readsSyl_X7_token : GoodIn wsX7_readsSyl wsX7_token := goodIn_r _ [23, 24, 12, 13, 11, 14, 17, 18, 9, 19, 25, 26, 27, 28, 29, 30, 31, 32, 33, 34, 35, 36, 37, 38, 39, 40, 41, 42, 43, 44, 45, 46, 47, 48, 49, 50, 51, 52, 53] (by decide +kernel) (by decide +kernel)
set_option maxRecDepth 20000 in
theorem gX7_readsSyl_X7_token : GoodIn wsX7_readsSyl (wsV RX7 116 RX7 yX7_token wsX7_token) := goodIn_app (goodIn_of _ (by decide +kernel)) ggX7_readsSyl_X7_token
set_option maxRecDepth 20000 in
theorem ggX7_readsWord_X7_codeHere : GoodIn wsX7_readsWord wsX7_codeHere := goodIn_r _ [11, 1, 2, 3, 12, 4, 13, 14, 15, 16, 10, 17, 23, 24, 25, 26, 27, 28, 29, 30, 31, 32, 33, 34, 35, 36, 37, 38, 39, 40, 41, 42, 43, 44, 45, 46, 47, 48, 49, 50, 51] (by decide +kernel) (by decide +kernel)
set_option maxRecDepth 20000 in
theorem gX7_readsWord_X7_codeHere : GoodIn wsX7_readsWord (wsV RX7 125 RX7 yX7_codeHere wsX7_codeHere) := goodIn_app (goodIn_of _ (by decide +kernel)) ggX7_readsWord_X7_codeHere
set_option maxRecDepth 20000 in
theorem ggX7_readsWord_X7_token : GoodIn wsX7_readsWord wsX7_token := goodIn_r _ [21, 22, 2, 3, 1, 12, 15, 16, 10, 17, 23, 24, 25, 26, 27, 28, 29, 30, 31, 32, 33, 34, 35, 36, 37, 38, 39, 40, 41, 42, 43, 44, 45, 46, 47, 48, 49, 50, 51] (by decide +kernel) (by decide +kernel)
set_option maxRecDepth 20000 in
theorem gX7_readsWord_X7_token : GoodIn wsX7_readsWord (wsV RX7 116 RX7 yX7_token wsX7_token) := goodIn_app (goodIn_of _ (by decide +kernel)) ggX7_readsWord_X7_token
set_option maxRecDepth 20000 in
theorem ggX7_readsRest_X7_readsLetter : GoodIn wsX7_readsRest wsX7_readsLetter := goodIn_r _ [8, 9, 3, 1, 10, 11, 12, 7, 13, 14, 15, 16, 17, 18, 19, 20, 21, 22, 23, 24, 25, 26, 27, 46, 47, 48, 49, 50, 51, 52, 53, 54, 55, 56, 57, 58, 59, 60, 61, 62, 63, 64, 65, 66, 67, 68, 69, 70, 71, 72, 73, 74] (by decide +kernel) (by decide +kernel)
set_option maxRecDepth 20000 in
theorem gX7_readsRest_X7_readsLetter : GoodIn wsX7_readsRest (wsV RX7 135 RX7 yX7_readsLetter wsX7_readsLetter) := goodIn_app (goodIn_of _ (by decide +kernel)) ggX7_readsRest_X7_readsLetter
set_option maxRecDepth 20000 in
theorem ggX7_readsRest_X7_reads : GoodIn wsX7_readsRest wsX7_reads := goodIn_r _ [31, 14, 15, 16, 17, 3, 1, 20, 21, 7, 22, 32, 33, 34, 23, 24, 25, 26, 27, 46, 47, 48, 49, 50, 51, 52, 53, 54, 55, 56, 57, 58, 59, 60, 61, 62, 63, 64, 65, 66, 67, 68, 69, 70, 71, 72, 73, 74] (by decide +kernel) (by decide +kernel)
set_option maxRecDepth 20000 in
theorem gX7_readsRest_X7_reads : GoodIn wsX7_readsRest (wsV RX7 139 RX7 yX7_reads wsX7_reads) := goodIn_app (goodIn_of _ (by decide +kernel)) ggX7_readsRest_X7_reads
set_option maxRecDepth 20000 in
theorem ggX7_readsRest_X7_readsSyl : GoodIn wsX7_readsRest wsX7_readsSyl := goodIn_r _ [38, 9, 39, 40, 3, 1, 10, 11, 12, 7, 13, 14, 15, 16, 17, 18, 19, 20, 21, 22, 23, 24, 25, 26, 27, 46, 47, 48, 49, 50, 51, 52, 53, 54, 55, 56, 57, 58, 59, 60, 61, 62, 63, 64, 65, 66, 67, 68, 69, 70, 71, 72, 73, 74] (by decide +kernel) (by decide +kernel)
set_option maxRecDepth 20000 in
theorem gX7_readsRest_X7_readsSyl : GoodIn wsX7_readsRest (wsV RX7 143 RX7 yX7_readsSyl wsX7_readsSyl) := goodIn_app (goodIn_of _ (by decide +kernel)) ggX7_readsRest_X7_readsSyl
set_option maxRecDepth 20000 in
theorem ggX7_readsRest_X7_readsWord : GoodIn wsX7_readsRest wsX7_readsWord := goodIn_r _ [44, 14, 15, 16, 9, 45, 1, 10, 11, 12, 7, 13, 17, 18, 19, 20, 21, 22, 23, 24, 25, 26, 27, 46, 47, 48, 49, 50, 51, 52, 53, 54, 55, 56, 57, 58, 59, 60, 61, 62, 63, 64, 65, 66, 67, 68, 69, 70, 71, 72, 73, 74] (by decide +kernel) (by decide +kernel)
set_option maxRecDepth 20000 in
theorem gX7_readsRest_X7_readsWord : GoodIn wsX7_readsRest (wsV RX7 146 RX7 yX7_readsWord wsX7_readsWord) := goodIn_app (goodIn_of _ (by decide +kernel)) ggX7_readsRest_X7_readsWord
set_option maxRecDepth 20000 in
theorem ggX7_readsLine_X7_wordOf : GoodIn wsX7_readsLine wsX7_wordOf := goodIn_r _ [10, 11, 12, 13, 14, 15, 16, 17, 18, 19, 20, 21, 9, 22, 23, 24, 25, 26, 68, 69, 70, 71, 72, 73, 74, 75, 76, 77, 78, 79, 80, 81, 82, 83, 84, 85, 86, 87, 88, 89, 90, 91, 92, 93, 94, 95, 96] (by decide +kernel) (by decide +kernel)
set_option maxRecDepth 20000 in
theorem gX7_readsLine_X7_wordOf : GoodIn wsX7_readsLine (wsV RX7 149 RX7 yX7_wordOf wsX7_wordOf) := goodIn_app (goodIn_of _ (by decide +kernel)) ggX7_readsLine_X7_wordOf
set_option maxRecDepth 20000 in
theorem ggX7_readsLine_X7_token : GoodIn wsX7_readsLine wsX7_token := goodIn_r _ [30, 31, 32, 25, 24, 23, 33, 34, 9, 35, 68, 69, 70, 71, 72, 73, 74, 75, 76, 77, 78, 79, 80, 81, 82, 83, 84, 85, 86, 87, 88, 89, 90, 91, 92, 93, 94, 95, 96] (by decide +kernel) (by decide +kernel)
set_option maxRecDepth 20000 in
theorem gX7_readsLine_X7_token : GoodIn wsX7_readsLine (wsV RX7 116 RX7 yX7_token wsX7_token) := goodIn_app (goodIn_of _ (by decide +kernel)) ggX7_readsLine_X7_token
set_option maxRecDepth 20000 in
theorem ggX7_readsLine_X7_readsRest : GoodIn wsX7_readsLine wsX7_readsRest := goodIn_r _ [39, 4, 1, 3, 40, 41, 42, 9, 43, 44, 45, 46, 47, 48, 24, 32, 25, 23, 49, 50, 33, 34, 35, 27, 28, 29, 30, 31, 51, 52, 53, 54, 55, 56, 57, 58, 59, 60, 61, 5, 62, 63, 64, 65, 66, 67, 68, 69, 70, 71, 72, 73, 74, 75, 76, 77, 78, 79, 80, 81, 82, 83, 84, 85, 86, 87, 88, 89, 90, 91, 92, 93, 94, 95, 96] (by decide +kernel) (by decide +kernel)
set_option maxRecDepth 20000 in
theorem gX7_readsLine_X7_readsRest : GoodIn wsX7_readsLine (wsV RX7 156 RX7 yX7_readsRest wsX7_readsRest) := goodIn_app (goodIn_of _ (by decide +kernel)) ggX7_readsLine_X7_readsRest
set_option maxRecDepth 20000 in
theorem ggX7_fault_X7_token : GoodIn wsX7_fault wsX7_token := goodIn_r _ [16, 1, 9, 11, 8, 10, 17, 18, 15, 19, 73, 74, 75, 76, 77, 78, 79, 80, 81, 82, 83, 84, 85, 86, 87, 88, 89, 90, 91, 92, 93, 94, 95, 96, 97, 98, 99, 100, 101] (by decide +kernel) (by decide +kernel)
set_option maxRecDepth 20000 in
theorem gX7_fault_X7_token : GoodIn wsX7_fault (wsV RX7 116 RX7 yX7_token wsX7_token) := goodIn_app (goodIn_of _ (by decide +kernel)) ggX7_fault_X7_token
set_option maxRecDepth 20000 in
theorem ggX7_fault_X7_readsLine : GoodIn wsX7_fault wsX7_readsLine := goodIn_r _ [23, 4, 5, 24, 2, 6, 25, 26, 27, 15, 28, 29, 30, 31, 32, 33, 34, 35, 36, 37, 38, 39, 40, 10, 8, 11, 41, 12, 13, 14, 16, 1, 9, 17, 18, 19, 42, 43, 44, 45, 46, 47, 48, 49, 50, 51, 52, 53, 54, 55, 56, 57, 58, 59, 60, 61, 62, 63, 64, 65, 66, 67, 7, 68, 69, 70, 71, 72, 73, 74, 75, 76, 77, 78, 79, 80, 81, 82, 83, 84, 85, 86, 87, 88, 89, 90, 91, 92, 93, 94, 95, 96, 97, 98, 99, 100, 101] (by decide +kernel) (by decide +kernel)
set_option maxRecDepth 20000 in
theorem gX7_fault_X7_readsLine : GoodIn wsX7_fault (wsV RX7 160 RX7 yX7_readsLine wsX7_readsLine) := goodIn_app (goodIn_of _ (by decide +kernel)) ggX7_fault_X7_readsLine
set_option maxRecDepth 20000 in
theorem ggX7_tell_X7_bear : GoodIn wsX7_tell wsX7_bear := goodIn_r _ [9, 2, 4, 14, 15, 16, 17, 18, 19, 20, 21, 22, 23, 24, 25, 26, 27, 28, 29, 30, 31, 32, 33, 34, 35, 36, 37, 38, 39, 40, 41, 42] (by decide +kernel) (by decide +kernel)
set_option maxRecDepth 20000 in
theorem gX7_tell_X7_bear : GoodIn wsX7_tell (wsV RX7 163 RX7 yX7_bear wsX7_bear) := goodIn_app (goodIn_of _ (by decide +kernel)) ggX7_tell_X7_bear
set_option maxRecDepth 20000 in
theorem ggX7_tell_X7_hopeFor : GoodIn wsX7_tell wsX7_hopeFor := goodIn_r _ [13, 2, 14, 15, 16, 17, 18, 19, 20, 21, 22, 23, 24, 25, 26, 27, 28, 29, 30, 31, 32, 33, 34, 35, 36, 37, 38, 39, 40, 41, 42] (by decide +kernel) (by decide +kernel)
set_option maxRecDepth 20000 in
theorem gX7_tell_X7_hopeFor : GoodIn wsX7_tell (wsV RX7 167 RX7 yX7_hopeFor wsX7_hopeFor) := goodIn_app (goodIn_of _ (by decide +kernel)) ggX7_tell_X7_hopeFor
set_option maxRecDepth 20000 in
theorem ggX7_told_X7_fault : GoodIn wsX7_told wsX7_fault := goodIn_r _ [7, 8, 1, 9, 10, 11, 12, 13, 14, 2, 15, 16, 17, 18, 19, 6, 20, 21, 22, 23, 24, 25, 26, 27, 28, 29, 30, 31, 32, 33, 34, 35, 36, 37, 38, 39, 40, 41, 42, 43, 44, 45, 46, 47, 48, 49, 50, 51, 52, 53, 54, 55, 56, 57, 58, 59, 60, 61, 62, 63, 64, 65, 66, 67, 68, 69, 70, 71, 72, 73, 74, 75, 76, 90, 91, 92, 93, 94, 95, 96, 97, 98, 99, 100, 101, 102, 103, 104, 105, 106, 107, 108, 109, 110, 111, 112, 113, 114, 115, 116, 117, 118] (by decide +kernel) (by decide +kernel)
set_option maxRecDepth 20000 in
theorem gX7_told_X7_fault : GoodIn wsX7_told (wsV RX7 171 RX7 yX7_fault wsX7_fault) := goodIn_app (goodIn_of _ (by decide +kernel)) ggX7_told_X7_fault
set_option maxRecDepth 20000 in
theorem ggX7_told_X7_tell : GoodIn wsX7_told wsX7_tell := goodIn_r _ [80, 28, 9, 76, 81, 82, 83, 84, 6, 85, 86, 87, 88, 89, 90, 91, 92, 93, 94, 95, 96, 97, 98, 99, 100, 101, 102, 103, 104, 105, 106, 107, 108, 109, 110, 111, 112, 113, 114, 115, 116, 117, 118] (by decide +kernel) (by decide +kernel)
set_option maxRecDepth 20000 in
theorem gX7_told_X7_tell : GoodIn wsX7_told (wsV RX7 174 RX7 yX7_tell wsX7_tell) := goodIn_app (goodIn_of _ (by decide +kernel)) ggX7_told_X7_tell
set_option maxRecDepth 20000 in
theorem ggX7_letter_X7_in : GoodIn wsX7_letter wsX7_in := goodIn_r _ [6] (by decide +kernel) (by decide +kernel)
set_option maxRecDepth 20000 in
theorem gX7_letter_X7_in : GoodIn wsX7_letter (va_wsS RX7 68 yX7_in wsX7_in) := goodIn_app (goodIn_of _ (by decide +kernel)) ggX7_letter_X7_in
set_option maxRecDepth 20000 in
theorem ggX7_isPerson_X7_in : GoodIn wsX7_isPerson wsX7_in := goodIn_r _ [5] (by decide +kernel) (by decide +kernel)
set_option maxRecDepth 20000 in
theorem gX7_isPerson_X7_in : GoodIn wsX7_isPerson (va_wsS RX7 68 yX7_in wsX7_in) := goodIn_app (goodIn_of _ (by decide +kernel)) ggX7_isPerson_X7_in
set_option maxRecDepth 20000 in
theorem ggX7_layFar_X7_areNext : GoodIn wsX7_layFar wsX7_areNext := goodIn_r _ [7, 2, 8, 9, 10, 11, 12, 13, 14, 15, 16, 17, 18, 19, 20, 21, 22, 23, 24, 25, 26, 27, 28, 29, 30, 31, 32, 33, 34, 35, 36] (by decide +kernel) (by decide +kernel)
set_option maxRecDepth 20000 in
theorem gX7_layFar_X7_areNext : GoodIn wsX7_layFar (wsV RX7 180 RX7 yX7_areNext wsX7_areNext) := goodIn_app (goodIn_of _ (by decide +kernel)) ggX7_layFar_X7_areNext
set_option maxRecDepth 20000 in
theorem ggX7_within_X7_layFar : GoodIn wsX7_within wsX7_layFar := goodIn_r _ [7, 2, 1, 8, 9, 10, 6, 11, 12, 13, 14, 15, 16, 17, 18, 19, 20, 21, 22, 23, 24, 25, 26, 27, 28, 29, 30, 31, 32, 33, 34, 35, 36, 37, 38, 39, 40] (by decide +kernel) (by decide +kernel)
set_option maxRecDepth 20000 in
theorem gX7_within_X7_layFar : GoodIn wsX7_within (wsV RX7 184 RX7 yX7_layFar wsX7_layFar) := goodIn_app (goodIn_of _ (by decide +kernel)) ggX7_within_X7_layFar
set_option maxRecDepth 20000 in
theorem ggX7_near_X7_within : GoodIn wsX7_near wsX7_within := goodIn_r _ [6, 1, 7, 8, 9, 10, 5, 11, 12, 13, 14, 15, 16, 17, 18, 19, 20, 21, 22, 23, 24, 25, 26, 27, 28, 29, 30, 31, 32, 33, 34, 35, 36, 37, 38, 39, 40, 41, 42, 43, 44] (by decide +kernel) (by decide +kernel)
set_option maxRecDepth 20000 in
theorem gX7_near_X7_within : GoodIn wsX7_near (wsV RX7 187 RX7 yX7_within wsX7_within) := goodIn_app (goodIn_of _ (by decide +kernel)) ggX7_near_X7_within
set_option maxRecDepth 20000 in
theorem ggX7_person_X7_isPerson : GoodIn wsX7_person wsX7_isPerson := goodIn_r _ [6, 1, 7, 8, 5, 9, 31, 32, 33, 34, 35, 36, 37, 38, 39, 40, 41, 42, 43, 44, 45, 46, 47, 48, 49, 50, 51, 52, 53, 54, 55, 56, 57, 58, 59] (by decide +kernel) (by decide +kernel)
set_option maxRecDepth 20000 in
theorem gX7_person_X7_isPerson : GoodIn wsX7_person (wsV RX7 191 RX7 yX7_isPerson wsX7_isPerson) := goodIn_app (goodIn_of _ (by decide +kernel)) ggX7_person_X7_isPerson
set_option maxRecDepth 20000 in
theorem ggX7_person_X7_kindOf : GoodIn wsX7_person wsX7_kindOf := goodIn_r _ [13, 1, 31, 32, 33, 34, 35, 36, 37, 38, 39, 40, 41, 42, 43, 44, 45, 46, 47, 48, 49, 50, 51, 52, 53, 54, 55, 56, 57, 58, 59] (by decide +kernel) (by decide +kernel)
set_option maxRecDepth 20000 in
theorem gX7_person_X7_kindOf : GoodIn wsX7_person (wsV RX7 194 RX7 yX7_kindOf wsX7_kindOf) := goodIn_app (goodIn_of _ (by decide +kernel)) ggX7_person_X7_kindOf
set_option maxRecDepth 20000 in
theorem ggX7_person_X7_near : GoodIn wsX7_person wsX7_near := goodIn_r _ [17, 1, 18, 19, 20, 5, 21, 22, 23, 24, 25, 26, 27, 28, 29, 30, 31, 32, 33, 34, 35, 36, 37, 38, 39, 40, 41, 42, 43, 44, 45, 46, 47, 48, 49, 50, 51, 52, 53, 54, 55, 56, 57, 58, 59] (by decide +kernel) (by decide +kernel)
set_option maxRecDepth 20000 in
theorem gX7_person_X7_near : GoodIn wsX7_person (wsV RX7 197 RX7 yX7_near wsX7_near) := goodIn_app (goodIn_of _ (by decide +kernel)) ggX7_person_X7_near
set_option maxRecDepth 20000 in
theorem ggX7_called_X7_isPerson : GoodIn wsX7_called wsX7_isPerson := goodIn_r _ [7, 8, 9, 10, 6, 11, 12, 13, 14, 15, 16, 17, 18, 19, 20, 21, 22, 23, 24, 25, 26, 27, 28, 29, 30, 31, 32, 33, 34, 35, 36, 37, 38, 39, 40] (by decide +kernel) (by decide +kernel)
set_option maxRecDepth 20000 in
theorem gX7_called_X7_isPerson : GoodIn wsX7_called (wsV RX7 191 RX7 yX7_isPerson wsX7_isPerson) := goodIn_app (goodIn_of _ (by decide +kernel)) ggX7_called_X7_isPerson
set_option maxRecDepth 20000 in
theorem ggX7_degrees_X7_isPerson : GoodIn wsX7_degrees wsX7_isPerson := goodIn_r _ [6, 7, 8, 9, 5, 10, 19, 20, 21, 22, 23, 24, 25, 26, 27, 28, 29, 30, 31, 32, 33, 34, 35, 36, 37, 38, 39, 40, 41, 42, 43, 44, 45, 46, 47] (by decide +kernel) (by decide +kernel)
set_option maxRecDepth 20000 in
theorem gX7_degrees_X7_isPerson : GoodIn wsX7_degrees (wsV RX7 191 RX7 yX7_isPerson wsX7_isPerson) := goodIn_app (goodIn_of _ (by decide +kernel)) ggX7_degrees_X7_isPerson
set_option maxRecDepth 20000 in
theorem ggX7_degrees_X7_layFar : GoodIn wsX7_degrees wsX7_layFar := goodIn_r _ [14, 1, 7, 15, 16, 17, 5, 18, 19, 20, 21, 22, 23, 24, 25, 26, 27, 28, 29, 30, 31, 32, 33, 34, 35, 36, 37, 38, 39, 40, 41, 42, 43, 44, 45, 46, 47] (by decide +kernel) (by decide +kernel)
set_option maxRecDepth 20000 in
theorem gX7_degrees_X7_layFar : GoodIn wsX7_degrees (wsV RX7 184 RX7 yX7_layFar wsX7_layFar) := goodIn_app (goodIn_of _ (by decide +kernel)) ggX7_degrees_X7_layFar
set_option maxRecDepth 20000 in
theorem ggX7_as_X7_isPerson : GoodIn wsX7_as wsX7_isPerson := goodIn_r _ [6, 7, 8, 9, 5, 10, 35, 36, 37, 38, 39, 40, 41, 42, 43, 44, 45, 46, 47, 48, 49, 50, 51, 52, 53, 54, 55, 56, 57, 58, 59, 60, 61, 62, 63] (by decide +kernel) (by decide +kernel)
set_option maxRecDepth 20000 in
theorem gX7_as_X7_isPerson : GoodIn wsX7_as (wsV RX7 191 RX7 yX7_isPerson wsX7_isPerson) := goodIn_app (goodIn_of _ (by decide +kernel)) ggX7_as_X7_isPerson
set_option maxRecDepth 20000 in
theorem ggX7_as_X7_in : GoodIn wsX7_as wsX7_in := goodIn_r _ [10] (by decide +kernel) (by decide +kernel)
set_option maxRecDepth 20000 in
theorem gX7_as_X7_in : GoodIn wsX7_as (va_wsS RX7 68 yX7_in wsX7_in) := goodIn_app (goodIn_of _ (by decide +kernel)) ggX7_as_X7_in
set_option maxRecDepth 20000 in
theorem ggX7_as_X7_kindOf : GoodIn wsX7_as wsX7_kindOf := goodIn_r _ [14, 7, 35, 36, 37, 38, 39, 40, 41, 42, 43, 44, 45, 46, 47, 48, 49, 50, 51, 52, 53, 54, 55, 56, 57, 58, 59, 60, 61, 62, 63] (by decide +kernel) (by decide +kernel)
set_option maxRecDepth 20000 in
theorem gX7_as_X7_kindOf : GoodIn wsX7_as (wsV RX7 194 RX7 yX7_kindOf wsX7_kindOf) := goodIn_app (goodIn_of _ (by decide +kernel)) ggX7_as_X7_kindOf
set_option maxRecDepth 20000 in
theorem ggX7_as_X7_near : GoodIn wsX7_as wsX7_near := goodIn_r _ [18, 7, 19, 20, 21, 5, 22, 23, 24, 25, 26, 27, 28, 29, 30, 31, 35, 36, 37, 38, 39, 40, 41, 42, 43, 44, 45, 46, 47, 48, 49, 50, 51, 52, 53, 54, 55, 56, 57, 58, 59, 60, 61, 62, 63] (by decide +kernel) (by decide +kernel)
set_option maxRecDepth 20000 in
theorem gX7_as_X7_near : GoodIn wsX7_as (wsV RX7 197 RX7 yX7_near wsX7_near) := goodIn_app (goodIn_of _ (by decide +kernel)) ggX7_as_X7_near
set_option maxRecDepth 20000 in
theorem ggX7_as_X7_bits : GoodIn wsX7_as wsX7_bits := goodIn_r _ [34] (by decide +kernel) (by decide +kernel)
set_option maxRecDepth 20000 in
theorem gX7_as_X7_bits : GoodIn wsX7_as (va_wsS RX7 204 yX7_bits wsX7_bits) := goodIn_app (goodIn_of _ (by decide +kernel)) ggX7_as_X7_bits
set_option maxRecDepth 20000 in
theorem ggX7_isCode_X7_lettersOf : GoodIn wsX7_isCode wsX7_lettersOf := goodIn_r _ [5, 1] (by decide +kernel) (by decide +kernel)
set_option maxRecDepth 20000 in
theorem gX7_isCode_X7_lettersOf : GoodIn wsX7_isCode (va_wsS RX7 207 yX7_lettersOf wsX7_lettersOf) := goodIn_app (goodIn_of _ (by decide +kernel)) ggX7_isCode_X7_lettersOf
set_option maxRecDepth 20000 in
theorem ggX7_joined_X7_lettersOf : GoodIn wsX7_joined wsX7_lettersOf := goodIn_r _ [5, 1] (by decide +kernel) (by decide +kernel)
set_option maxRecDepth 20000 in
theorem gX7_joined_X7_lettersOf : GoodIn wsX7_joined (va_wsS RX7 207 yX7_lettersOf wsX7_lettersOf) := goodIn_app (goodIn_of _ (by decide +kernel)) ggX7_joined_X7_lettersOf
set_option maxRecDepth 20000 in
theorem ggX7_layNames_X7_isBare : GoodIn wsX7_layNames wsX7_isBare := goodIn_r _ [7, 2, 8, 20, 21, 22, 23, 24, 25, 26, 27, 28, 29, 30, 31, 32, 33, 34, 35, 36, 37, 38, 39, 40, 41, 42, 43, 44, 45, 46, 47, 48] (by decide +kernel) (by decide +kernel)
set_option maxRecDepth 20000 in
theorem gX7_layNames_X7_isBare : GoodIn wsX7_layNames (wsV RX7 214 RX7 yX7_isBare wsX7_isBare) := goodIn_app (goodIn_of _ (by decide +kernel)) ggX7_layNames_X7_isBare
set_option maxRecDepth 20000 in
theorem ggX7_layNames_X7_addName : GoodIn wsX7_layNames wsX7_addName := goodIn_r _ [12, 1, 13, 20, 21, 22, 23, 24, 25, 26, 27, 28, 29, 30, 31, 32, 33, 34, 35, 36, 37, 38, 39, 40, 41, 42, 43, 44, 45, 46, 47, 48] (by decide +kernel) (by decide +kernel)
set_option maxRecDepth 20000 in
theorem gX7_layNames_X7_addName : GoodIn wsX7_layNames (wsV RX7 218 RX7 yX7_addName wsX7_addName) := goodIn_app (goodIn_of _ (by decide +kernel)) ggX7_layNames_X7_addName
set_option maxRecDepth 20000 in
theorem ggX7_layNames_X7_joined : GoodIn wsX7_layNames wsX7_joined := goodIn_r _ [16, 8, 17, 18, 6, 19] (by decide +kernel) (by decide +kernel)
set_option maxRecDepth 20000 in
theorem gX7_layNames_X7_joined : GoodIn wsX7_layNames (va_wsS RX7 222 yX7_joined wsX7_joined) := goodIn_app (goodIn_of _ (by decide +kernel)) ggX7_layNames_X7_joined
set_option maxRecDepth 20000 in
theorem ggX7_isName_X7_isBare : GoodIn wsX7_isName wsX7_isBare := goodIn_r _ [6, 1, 7, 14, 15, 16, 17, 18, 19, 20, 21, 22, 23, 24, 25, 26, 27, 28, 29, 30, 31, 32, 33, 34, 35, 36, 37, 38, 39, 40, 41, 42] (by decide +kernel) (by decide +kernel)
set_option maxRecDepth 20000 in
theorem gX7_isName_X7_isBare : GoodIn wsX7_isName (wsV RX7 214 RX7 yX7_isBare wsX7_isBare) := goodIn_app (goodIn_of _ (by decide +kernel)) ggX7_isName_X7_isBare
set_option maxRecDepth 20000 in
theorem ggX7_isName_X7_joined : GoodIn wsX7_isName wsX7_joined := goodIn_r _ [10, 7, 11, 12, 5, 13] (by decide +kernel) (by decide +kernel)
set_option maxRecDepth 20000 in
theorem gX7_isName_X7_joined : GoodIn wsX7_isName (va_wsS RX7 222 yX7_joined wsX7_joined) := goodIn_app (goodIn_of _ (by decide +kernel)) ggX7_isName_X7_joined
set_option maxRecDepth 20000 in
theorem ggX7_sum_X7_isCode : GoodIn wsX7_sum wsX7_isCode := goodIn_r _ [4, 5, 6, 7, 3, 8] (by decide +kernel) (by decide +kernel)
set_option maxRecDepth 20000 in
theorem gX7_sum_X7_isCode : GoodIn wsX7_sum (va_wsS RX7 226 yX7_isCode wsX7_isCode) := goodIn_app (goodIn_of _ (by decide +kernel)) ggX7_sum_X7_isCode
set_option maxRecDepth 20000 in
theorem ggX7_sum_X7_sumOf : GoodIn wsX7_sum wsX7_sumOf := goodIn_r _ [12, 13, 5, 14, 15, 16, 17, 18, 19, 20, 21, 22, 23, 24, 25, 26, 27, 28, 29, 30, 31, 32, 33, 34, 35, 36, 37, 38, 39, 40, 41, 42] (by decide +kernel) (by decide +kernel)
set_option maxRecDepth 20000 in
theorem gX7_sum_X7_sumOf : GoodIn wsX7_sum (wsV RX7 229 RX7 yX7_sumOf wsX7_sumOf) := goodIn_app (goodIn_of _ (by decide +kernel)) ggX7_sum_X7_sumOf
set_option maxRecDepth 20000 in
theorem ggX7_name_X7_isCode : GoodIn wsX7_name wsX7_isCode := goodIn_r _ [4, 5, 6, 7, 3, 8] (by decide +kernel) (by decide +kernel)
set_option maxRecDepth 20000 in
theorem gX7_name_X7_isCode : GoodIn wsX7_name (va_wsS RX7 226 yX7_isCode wsX7_isCode) := goodIn_app (goodIn_of _ (by decide +kernel)) ggX7_name_X7_isCode
set_option maxRecDepth 20000 in
theorem ggX7_name_X7_isName : GoodIn wsX7_name wsX7_isName := goodIn_r _ [12, 13, 14, 15, 16, 3, 17, 5, 18, 19, 20, 6, 7, 8, 21, 22, 23, 24, 25, 26, 27, 28, 29, 30, 31, 32, 33, 34, 35, 36, 37, 38, 39, 40, 41, 42, 43, 44, 45, 46, 47, 48, 49] (by decide +kernel) (by decide +kernel)
set_option maxRecDepth 20000 in
theorem gX7_name_X7_isName : GoodIn wsX7_name (wsV RX7 232 RX7 yX7_isName wsX7_isName) := goodIn_app (goodIn_of _ (by decide +kernel)) ggX7_name_X7_isName
set_option maxRecDepth 20000 in
theorem ggX7_takerOf_X7_near : GoodIn wsX7_takerOf wsX7_near := goodIn_r _ [7, 1, 8, 9, 10, 6, 11, 12, 13, 14, 15, 16, 17, 18, 19, 20, 24, 25, 26, 27, 28, 29, 30, 31, 32, 33, 34, 35, 36, 37, 38, 39, 40, 41, 42, 43, 44, 45, 46, 47, 48, 49, 50, 51, 52] (by decide +kernel) (by decide +kernel)
set_option maxRecDepth 20000 in
theorem gX7_takerOf_X7_near : GoodIn wsX7_takerOf (wsV RX7 197 RX7 yX7_near wsX7_near) := goodIn_app (goodIn_of _ (by decide +kernel)) ggX7_takerOf_X7_near
set_option maxRecDepth 20000 in
theorem ggX7_takerOf_X7_has : GoodIn wsX7_takerOf wsX7_has := goodIn_r _ [23] (by decide +kernel) (by decide +kernel)
set_option maxRecDepth 20000 in
theorem gX7_takerOf_X7_has : GoodIn wsX7_takerOf (va_wsS RX7 235 yX7_has wsX7_has) := goodIn_app (goodIn_of _ (by decide +kernel)) ggX7_takerOf_X7_has
set_option maxRecDepth 20000 in
theorem ggX7_judge_X7_isPerson : GoodIn wsX7_judge wsX7_isPerson := goodIn_r _ [7, 2, 8, 9, 6, 10, 54, 55, 56, 57, 58, 59, 60, 61, 62, 63, 64, 65, 66, 67, 68, 69, 70, 71, 72, 73, 74, 75, 76, 77, 78, 79, 80, 81, 82] (by decide +kernel) (by decide +kernel)
set_option maxRecDepth 20000 in
theorem gX7_judge_X7_isPerson : GoodIn wsX7_judge (wsV RX7 191 RX7 yX7_isPerson wsX7_isPerson) := goodIn_app (goodIn_of _ (by decide +kernel)) ggX7_judge_X7_isPerson
set_option maxRecDepth 20000 in
theorem ggX7_judge_X7_isName : GoodIn wsX7_judge wsX7_isName := goodIn_r _ [14, 2, 15, 16, 17, 6, 18, 19, 20, 21, 22, 23, 24, 25, 54, 55, 56, 57, 58, 59, 60, 61, 62, 63, 64, 65, 66, 67, 68, 69, 70, 71, 72, 73, 74, 75, 76, 77, 78, 79, 80, 81, 82] (by decide +kernel) (by decide +kernel)
set_option maxRecDepth 20000 in
theorem gX7_judge_X7_isName : GoodIn wsX7_judge (wsV RX7 232 RX7 yX7_isName wsX7_isName) := goodIn_app (goodIn_of _ (by decide +kernel)) ggX7_judge_X7_isName
set_option maxRecDepth 20000 in
theorem ggX7_judge_X7_sumOf : GoodIn wsX7_judge wsX7_sumOf := goodIn_r _ [29, 2, 19, 54, 55, 56, 57, 58, 59, 60, 61, 62, 63, 64, 65, 66, 67, 68, 69, 70, 71, 72, 73, 74, 75, 76, 77, 78, 79, 80, 81, 82] (by decide +kernel) (by decide +kernel)
set_option maxRecDepth 20000 in
theorem gX7_judge_X7_sumOf : GoodIn wsX7_judge (wsV RX7 229 RX7 yX7_sumOf wsX7_sumOf) := goodIn_app (goodIn_of _ (by decide +kernel)) ggX7_judge_X7_sumOf
set_option maxRecDepth 20000 in
theorem ggX7_judge_X7_takerOf : GoodIn wsX7_judge wsX7_takerOf := goodIn_r _ [33, 2, 1, 34, 35, 36, 6, 37, 38, 39, 40, 41, 42, 43, 44, 45, 46, 47, 48, 49, 50, 51, 52, 53, 54, 55, 56, 57, 58, 59, 60, 61, 62, 63, 64, 65, 66, 67, 68, 69, 70, 71, 72, 73, 74, 75, 76, 77, 78, 79, 80, 81, 82] (by decide +kernel) (by decide +kernel)
set_option maxRecDepth 20000 in
theorem gX7_judge_X7_takerOf : GoodIn wsX7_judge (wsV RX7 238 RX7 yX7_takerOf wsX7_takerOf) := goodIn_app (goodIn_of _ (by decide +kernel)) ggX7_judge_X7_takerOf
set_option maxRecDepth 20000 in
theorem ggX7_taker_X7_isPerson : GoodIn wsX7_taker wsX7_isPerson := goodIn_r _ [5, 6, 7, 8, 4, 9, 58, 59, 60, 61, 62, 63, 64, 65, 66, 67, 68, 69, 70, 71, 72, 73, 74, 75, 76, 77, 78, 79, 80, 81, 82, 83, 84, 85, 86] (by decide +kernel) (by decide +kernel)
set_option maxRecDepth 20000 in
theorem gX7_taker_X7_isPerson : GoodIn wsX7_taker (wsV RX7 191 RX7 yX7_isPerson wsX7_isPerson) := goodIn_app (goodIn_of _ (by decide +kernel)) ggX7_taker_X7_isPerson
set_option maxRecDepth 20000 in
theorem ggX7_taker_X7_judge : GoodIn wsX7_taker wsX7_judge := goodIn_r _ [13, 14, 6, 1, 2, 3, 4, 5, 7, 8, 9, 15, 16, 17, 18, 19, 20, 21, 22, 23, 24, 25, 26, 27, 28, 29, 30, 31, 32, 33, 34, 35, 36, 37, 38, 39, 40, 41, 42, 43, 44, 45, 46, 47, 48, 49, 50, 51, 52, 53, 54, 55, 56, 57, 58, 59, 60, 61, 62, 63, 64, 65, 66, 67, 68, 69, 70, 71, 72, 73, 74, 75, 76, 77, 78, 79, 80, 81, 82, 83, 84, 85, 86] (by decide +kernel) (by decide +kernel)
set_option maxRecDepth 20000 in
theorem gX7_taker_X7_judge : GoodIn wsX7_taker (wsV RX7 241 RX7 yX7_judge wsX7_judge) := goodIn_app (goodIn_of _ (by decide +kernel)) ggX7_taker_X7_judge
set_option maxRecDepth 20000 in
theorem ggX7_taker_X7_takerOf : GoodIn wsX7_taker wsX7_takerOf := goodIn_r _ [37, 6, 14, 38, 39, 40, 4, 41, 42, 43, 44, 45, 46, 47, 48, 49, 50, 51, 52, 53, 54, 55, 56, 57, 58, 59, 60, 61, 62, 63, 64, 65, 66, 67, 68, 69, 70, 71, 72, 73, 74, 75, 76, 77, 78, 79, 80, 81, 82, 83, 84, 85, 86] (by decide +kernel) (by decide +kernel)
set_option maxRecDepth 20000 in
theorem gX7_taker_X7_takerOf : GoodIn wsX7_taker (wsV RX7 238 RX7 yX7_takerOf wsX7_takerOf) := goodIn_app (goodIn_of _ (by decide +kernel)) ggX7_taker_X7_takerOf
set_option maxRecDepth 20000 in
theorem ggX7_isDay_X7_in : GoodIn wsX7_isDay wsX7_in := goodIn_r _ [5] (by decide +kernel) (by decide +kernel)
set_option maxRecDepth 20000 in
theorem gX7_isDay_X7_in : GoodIn wsX7_isDay (va_wsS RX7 68 yX7_in wsX7_in) := goodIn_app (goodIn_of _ (by decide +kernel)) ggX7_isDay_X7_in
set_option maxRecDepth 20000 in
theorem ggX7_names_X7_isDay : GoodIn wsX7_names wsX7_isDay := goodIn_r _ [7, 8, 9, 10, 6, 11] (by decide +kernel) (by decide +kernel)
set_option maxRecDepth 20000 in
theorem gX7_names_X7_isDay : GoodIn wsX7_names (va_wsS RX7 246 yX7_isDay wsX7_isDay) := goodIn_app (goodIn_of _ (by decide +kernel)) ggX7_names_X7_isDay
set_option maxRecDepth 20000 in
theorem ggX7_names_X7_in : GoodIn wsX7_names wsX7_in := goodIn_r _ [11] (by decide +kernel) (by decide +kernel)
set_option maxRecDepth 20000 in
theorem gX7_names_X7_in : GoodIn wsX7_names (va_wsS RX7 68 yX7_in wsX7_in) := goodIn_app (goodIn_of _ (by decide +kernel)) ggX7_names_X7_in
set_option maxRecDepth 20000 in
theorem ggX7_names_X7_layNames : GoodIn wsX7_names wsX7_layNames := goodIn_r _ [15, 2, 16, 17, 18, 19, 6, 20, 21, 22, 23, 24, 25, 3, 26, 27, 28, 29, 30, 31, 36, 37, 38, 39, 40, 41, 42, 43, 44, 45, 46, 47, 48, 49, 50, 51, 52, 53, 54, 55, 56, 57, 58, 59, 60, 61, 62, 63, 64] (by decide +kernel) (by decide +kernel)
set_option maxRecDepth 20000 in
theorem gX7_names_X7_layNames : GoodIn wsX7_names (wsV RX7 251 RX7 yX7_layNames wsX7_layNames) := goodIn_app (goodIn_of _ (by decide +kernel)) ggX7_names_X7_layNames
set_option maxRecDepth 20000 in
theorem ggX7_names_X7_sumOf : GoodIn wsX7_names wsX7_sumOf := goodIn_r _ [35, 16, 21, 36, 37, 38, 39, 40, 41, 42, 43, 44, 45, 46, 47, 48, 49, 50, 51, 52, 53, 54, 55, 56, 57, 58, 59, 60, 61, 62, 63, 64] (by decide +kernel) (by decide +kernel)
set_option maxRecDepth 20000 in
theorem gX7_names_X7_sumOf : GoodIn wsX7_names (wsV RX7 229 RX7 yX7_sumOf wsX7_sumOf) := goodIn_app (goodIn_of _ (by decide +kernel)) ggX7_names_X7_sumOf
set_option maxRecDepth 20000 in
theorem ggX7_names_X7_lettersOf : GoodIn wsX7_names wsX7_lettersOf := goodIn_r _ [31, 21] (by decide +kernel) (by decide +kernel)
set_option maxRecDepth 20000 in
theorem gX7_names_X7_lettersOf : GoodIn wsX7_names (va_wsS RX7 207 yX7_lettersOf wsX7_lettersOf) := goodIn_app (goodIn_of _ (by decide +kernel)) ggX7_names_X7_lettersOf
set_option maxRecDepth 20000 in
theorem ggX7_which_X7_isDay : GoodIn wsX7_which wsX7_isDay := goodIn_r _ [8, 9, 10, 11, 7, 12] (by decide +kernel) (by decide +kernel)
set_option maxRecDepth 20000 in
theorem gX7_which_X7_isDay : GoodIn wsX7_which (va_wsS RX7 246 yX7_isDay wsX7_isDay) := goodIn_app (goodIn_of _ (by decide +kernel)) ggX7_which_X7_isDay
set_option maxRecDepth 20000 in
theorem ggX7_which_X7_layNames : GoodIn wsX7_which wsX7_layNames := goodIn_r _ [16, 2, 17, 18, 19, 20, 7, 21, 22, 23, 24, 25, 26, 3, 27, 28, 29, 30, 31, 32, 37, 38, 39, 40, 41, 42, 43, 44, 45, 46, 47, 48, 49, 50, 51, 52, 53, 54, 55, 56, 57, 58, 59, 60, 61, 62, 63, 64, 65] (by decide +kernel) (by decide +kernel)
set_option maxRecDepth 20000 in
theorem gX7_which_X7_layNames : GoodIn wsX7_which (wsV RX7 251 RX7 yX7_layNames wsX7_layNames) := goodIn_app (goodIn_of _ (by decide +kernel)) ggX7_which_X7_layNames
set_option maxRecDepth 20000 in
theorem ggX7_which_X7_sumOf : GoodIn wsX7_which wsX7_sumOf := goodIn_r _ [36, 17, 22, 37, 38, 39, 40, 41, 42, 43, 44, 45, 46, 47, 48, 49, 50, 51, 52, 53, 54, 55, 56, 57, 58, 59, 60, 61, 62, 63, 64, 65] (by decide +kernel) (by decide +kernel)
set_option maxRecDepth 20000 in
theorem gX7_which_X7_sumOf : GoodIn wsX7_which (wsV RX7 229 RX7 yX7_sumOf wsX7_sumOf) := goodIn_app (goodIn_of _ (by decide +kernel)) ggX7_which_X7_sumOf
set_option maxRecDepth 20000 in
theorem ggX7_isFree_X7_has : GoodIn wsX7_isFree wsX7_has := goodIn_r _ [6] (by decide +kernel) (by decide +kernel)
set_option maxRecDepth 20000 in
theorem gX7_isFree_X7_has : GoodIn wsX7_isFree (va_wsS RX7 235 yX7_has wsX7_has) := goodIn_app (goodIn_of _ (by decide +kernel)) ggX7_isFree_X7_has
set_option maxRecDepth 20000 in
theorem ggX7_free_X7_isPerson : GoodIn wsX7_free wsX7_isPerson := goodIn_r _ [11, 5, 12, 13, 10, 14, 63, 64, 65, 66, 67, 68, 69, 70, 71, 72, 73, 74, 75, 76, 77, 78, 79, 80, 81, 82, 83, 84, 85, 86, 87, 88, 89, 90, 91] (by decide +kernel) (by decide +kernel)
set_option maxRecDepth 20000 in
theorem gX7_free_X7_isPerson : GoodIn wsX7_free (wsV RX7 191 RX7 yX7_isPerson wsX7_isPerson) := goodIn_app (goodIn_of _ (by decide +kernel)) ggX7_free_X7_isPerson
set_option maxRecDepth 20000 in
theorem ggX7_free_X7_layNames : GoodIn wsX7_free wsX7_layNames := goodIn_r _ [18, 3, 5, 19, 20, 21, 10, 22, 23, 24, 25, 26, 27, 4, 28, 29, 30, 31, 32, 33, 63, 64, 65, 66, 67, 68, 69, 70, 71, 72, 73, 74, 75, 76, 77, 78, 79, 80, 81, 82, 83, 84, 85, 86, 87, 88, 89, 90, 91] (by decide +kernel) (by decide +kernel)
set_option maxRecDepth 20000 in
theorem gX7_free_X7_layNames : GoodIn wsX7_free (wsV RX7 251 RX7 yX7_layNames wsX7_layNames) := goodIn_app (goodIn_of _ (by decide +kernel)) ggX7_free_X7_layNames
set_option maxRecDepth 20000 in
theorem ggX7_free_X7_near : GoodIn wsX7_free wsX7_near := goodIn_r _ [37, 5, 38, 39, 40, 10, 41, 42, 43, 44, 45, 46, 47, 48, 49, 50, 63, 64, 65, 66, 67, 68, 69, 70, 71, 72, 73, 74, 75, 76, 77, 78, 79, 80, 81, 82, 83, 84, 85, 86, 87, 88, 89, 90, 91] (by decide +kernel) (by decide +kernel)
set_option maxRecDepth 20000 in
theorem gX7_free_X7_near : GoodIn wsX7_free (wsV RX7 197 RX7 yX7_near wsX7_near) := goodIn_app (goodIn_of _ (by decide +kernel)) ggX7_free_X7_near
set_option maxRecDepth 20000 in
theorem ggX7_free_X7_sumOf : GoodIn wsX7_free wsX7_sumOf := goodIn_r _ [54, 5, 23, 63, 64, 65, 66, 67, 68, 69, 70, 71, 72, 73, 74, 75, 76, 77, 78, 79, 80, 81, 82, 83, 84, 85, 86, 87, 88, 89, 90, 91] (by decide +kernel) (by decide +kernel)
set_option maxRecDepth 20000 in
theorem gX7_free_X7_sumOf : GoodIn wsX7_free (wsV RX7 229 RX7 yX7_sumOf wsX7_sumOf) := goodIn_app (goodIn_of _ (by decide +kernel)) ggX7_free_X7_sumOf
set_option maxRecDepth 20000 in
theorem ggX7_free_X7_isFree : GoodIn wsX7_free wsX7_isFree := goodIn_r _ [58, 5, 59, 60, 61, 10, 62, 63, 64, 65, 66, 67, 68, 69, 70, 71, 72, 73, 74, 75, 76, 77, 78, 79, 80, 81, 82, 83, 84, 85, 86, 87, 88, 89, 90, 91] (by decide +kernel) (by decide +kernel)
set_option maxRecDepth 20000 in
theorem gX7_free_X7_isFree : GoodIn wsX7_free (wsV RX7 256 RX7 yX7_isFree wsX7_isFree) := goodIn_app (goodIn_of _ (by decide +kernel)) ggX7_free_X7_isFree
set_option maxRecDepth 20000 in
theorem ggX7_allNamed_X7_has : GoodIn wsX7_allNamed wsX7_has := goodIn_r _ [6] (by decide +kernel) (by decide +kernel)
set_option maxRecDepth 20000 in
theorem gX7_allNamed_X7_has : GoodIn wsX7_allNamed (va_wsS RX7 235 yX7_has wsX7_has) := goodIn_app (goodIn_of _ (by decide +kernel)) ggX7_allNamed_X7_has
set_option maxRecDepth 20000 in
theorem ggX7_hopes_X7_isPerson : GoodIn wsX7_hopes wsX7_isPerson := goodIn_r _ [12, 3, 13, 14, 11, 15, 67, 68, 69, 70, 71, 72, 73, 74, 75, 76, 77, 78, 79, 80, 81, 82, 83, 84, 85, 86, 87, 88, 89, 90, 91, 92, 93, 94, 95] (by decide +kernel) (by decide +kernel)
set_option maxRecDepth 20000 in
theorem gX7_hopes_X7_isPerson : GoodIn wsX7_hopes (wsV RX7 191 RX7 yX7_isPerson wsX7_isPerson) := goodIn_app (goodIn_of _ (by decide +kernel)) ggX7_hopes_X7_isPerson
set_option maxRecDepth 20000 in
theorem ggX7_hopes_X7_in : GoodIn wsX7_hopes wsX7_in := goodIn_r _ [15] (by decide +kernel) (by decide +kernel)
set_option maxRecDepth 20000 in
theorem gX7_hopes_X7_in : GoodIn wsX7_hopes (va_wsS RX7 68 yX7_in wsX7_in) := goodIn_app (goodIn_of _ (by decide +kernel)) ggX7_hopes_X7_in
set_option maxRecDepth 20000 in
theorem ggX7_hopes_X7_within : GoodIn wsX7_hopes wsX7_within := goodIn_r _ [19, 3, 20, 21, 22, 23, 11, 24, 25, 26, 27, 28, 67, 68, 69, 70, 71, 72, 73, 74, 75, 76, 77, 78, 79, 80, 81, 82, 83, 84, 85, 86, 87, 88, 89, 90, 91, 92, 93, 94, 95] (by decide +kernel) (by decide +kernel)
set_option maxRecDepth 20000 in
theorem gX7_hopes_X7_within : GoodIn wsX7_hopes (wsV RX7 187 RX7 yX7_within wsX7_within) := goodIn_app (goodIn_of _ (by decide +kernel)) ggX7_hopes_X7_within
set_option maxRecDepth 20000 in
theorem ggX7_hopes_X7_layNames : GoodIn wsX7_hopes wsX7_layNames := goodIn_r _ [32, 5, 3, 33, 34, 35, 11, 36, 37, 38, 39, 40, 41, 6, 42, 43, 44, 45, 46, 47, 67, 68, 69, 70, 71, 72, 73, 74, 75, 76, 77, 78, 79, 80, 81, 82, 83, 84, 85, 86, 87, 88, 89, 90, 91, 92, 93, 94, 95] (by decide +kernel) (by decide +kernel)
set_option maxRecDepth 20000 in
theorem gX7_hopes_X7_layNames : GoodIn wsX7_hopes (wsV RX7 251 RX7 yX7_layNames wsX7_layNames) := goodIn_app (goodIn_of _ (by decide +kernel)) ggX7_hopes_X7_layNames
set_option maxRecDepth 20000 in
theorem ggX7_hopes_X7_sumOf : GoodIn wsX7_hopes wsX7_sumOf := goodIn_r _ [51, 3, 37, 67, 68, 69, 70, 71, 72, 73, 74, 75, 76, 77, 78, 79, 80, 81, 82, 83, 84, 85, 86, 87, 88, 89, 90, 91, 92, 93, 94, 95] (by decide +kernel) (by decide +kernel)
set_option maxRecDepth 20000 in
theorem gX7_hopes_X7_sumOf : GoodIn wsX7_hopes (wsV RX7 229 RX7 yX7_sumOf wsX7_sumOf) := goodIn_app (goodIn_of _ (by decide +kernel)) ggX7_hopes_X7_sumOf
set_option maxRecDepth 20000 in
theorem ggX7_hopes_X7_isFree : GoodIn wsX7_hopes wsX7_isFree := goodIn_r _ [55, 3, 56, 57, 58, 11, 59, 67, 68, 69, 70, 71, 72, 73, 74, 75, 76, 77, 78, 79, 80, 81, 82, 83, 84, 85, 86, 87, 88, 89, 90, 91, 92, 93, 94, 95] (by decide +kernel) (by decide +kernel)
set_option maxRecDepth 20000 in
theorem gX7_hopes_X7_isFree : GoodIn wsX7_hopes (wsV RX7 256 RX7 yX7_isFree wsX7_isFree) := goodIn_app (goodIn_of _ (by decide +kernel)) ggX7_hopes_X7_isFree
set_option maxRecDepth 20000 in
theorem ggX7_hopes_X7_has : GoodIn wsX7_hopes wsX7_has := goodIn_r _ [59] (by decide +kernel) (by decide +kernel)
set_option maxRecDepth 20000 in
theorem gX7_hopes_X7_has : GoodIn wsX7_hopes (va_wsS RX7 235 yX7_has wsX7_has) := goodIn_app (goodIn_of _ (by decide +kernel)) ggX7_hopes_X7_has
set_option maxRecDepth 20000 in
theorem ggX7_hopes_X7_allNamed : GoodIn wsX7_hopes wsX7_allNamed := goodIn_r _ [63, 3, 4, 57, 58, 11, 59, 67, 68, 69, 70, 71, 72, 73, 74, 75, 76, 77, 78, 79, 80, 81, 82, 83, 84, 85, 86, 87, 88, 89, 90, 91, 92, 93, 94, 95] (by decide +kernel) (by decide +kernel)
set_option maxRecDepth 20000 in
theorem gX7_hopes_X7_allNamed : GoodIn wsX7_hopes (wsV RX7 261 RX7 yX7_allNamed wsX7_allNamed) := goodIn_app (goodIn_of _ (by decide +kernel)) ggX7_hopes_X7_allNamed
set_option maxRecDepth 20000 in
theorem ggX7_hopes_X7_divisor : GoodIn wsX7_hopes wsX7_divisor := goodIn_r _ [66] (by decide +kernel) (by decide +kernel)
set_option maxRecDepth 20000 in
theorem gX7_hopes_X7_divisor : GoodIn wsX7_hopes (va_wsS RX7 264 yX7_divisor wsX7_divisor) := goodIn_app (goodIn_of _ (by decide +kernel)) ggX7_hopes_X7_divisor
set_option maxRecDepth 20000 in
theorem ggX7_layNamed_X7_mark : GoodIn wsX7_layNamed wsX7_mark := goodIn_r _ [8, 1, 9, 10, 11, 12, 13, 14, 15, 16, 17, 18, 19, 20, 21, 22, 23, 24, 25, 26, 27, 28, 29, 30, 31, 32, 33, 34, 35, 36, 37] (by decide +kernel) (by decide +kernel)
set_option maxRecDepth 20000 in
theorem gX7_layNamed_X7_mark : GoodIn wsX7_layNamed (wsV RX7 270 RX7 yX7_mark wsX7_mark) := goodIn_app (goodIn_of _ (by decide +kernel)) ggX7_layNamed_X7_mark
set_option maxRecDepth 20000 in
theorem ggX7_laySums_X7_isBare : GoodIn wsX7_laySums wsX7_isBare := goodIn_r _ [8, 2, 9, 23, 24, 25, 26, 27, 28, 29, 30, 31, 32, 33, 34, 35, 36, 37, 38, 39, 40, 41, 42, 43, 44, 45, 46, 47, 48, 49, 50, 51] (by decide +kernel) (by decide +kernel)
set_option maxRecDepth 20000 in
theorem gX7_laySums_X7_isBare : GoodIn wsX7_laySums (wsV RX7 214 RX7 yX7_isBare wsX7_isBare) := goodIn_app (goodIn_of _ (by decide +kernel)) ggX7_laySums_X7_isBare
set_option maxRecDepth 20000 in
theorem ggX7_laySums_X7_sumOf : GoodIn wsX7_laySums wsX7_sumOf := goodIn_r _ [13, 2, 9, 23, 24, 25, 26, 27, 28, 29, 30, 31, 32, 33, 34, 35, 36, 37, 38, 39, 40, 41, 42, 43, 44, 45, 46, 47, 48, 49, 50, 51] (by decide +kernel) (by decide +kernel)
set_option maxRecDepth 20000 in
theorem gX7_laySums_X7_sumOf : GoodIn wsX7_laySums (wsV RX7 229 RX7 yX7_sumOf wsX7_sumOf) := goodIn_app (goodIn_of _ (by decide +kernel)) ggX7_laySums_X7_sumOf
set_option maxRecDepth 20000 in
theorem ggX7_laySums_X7_layNamed : GoodIn wsX7_laySums wsX7_layNamed := goodIn_r _ [17, 18, 1, 3, 19, 20, 21, 7, 22, 23, 24, 25, 26, 27, 28, 29, 30, 31, 32, 33, 34, 35, 36, 37, 38, 39, 40, 41, 42, 43, 44, 45, 46, 47, 48, 49, 50, 51] (by decide +kernel) (by decide +kernel)
set_option maxRecDepth 20000 in
theorem gX7_laySums_X7_layNamed : GoodIn wsX7_laySums (wsV RX7 273 RX7 yX7_layNamed wsX7_layNamed) := goodIn_app (goodIn_of _ (by decide +kernel)) ggX7_laySums_X7_layNamed
set_option maxRecDepth 20000 in
theorem ggX7_areDays_X7_isDay : GoodIn wsX7_areDays wsX7_isDay := goodIn_r _ [4, 5, 6, 7, 3, 8] (by decide +kernel) (by decide +kernel)
set_option maxRecDepth 20000 in
theorem gX7_areDays_X7_isDay : GoodIn wsX7_areDays (va_wsS RX7 246 yX7_isDay wsX7_isDay) := goodIn_app (goodIn_of _ (by decide +kernel)) ggX7_areDays_X7_isDay
set_option maxRecDepth 20000 in
theorem ggX7_without_X7_areDays : GoodIn wsX7_without wsX7_areDays := goodIn_r _ [4, 5, 6, 3, 7, 8, 9, 10, 11] (by decide +kernel) (by decide +kernel)
set_option maxRecDepth 20000 in
theorem gX7_without_X7_areDays : GoodIn wsX7_without (va_wsS RX7 276 yX7_areDays wsX7_areDays) := goodIn_app (goodIn_of _ (by decide +kernel)) ggX7_without_X7_areDays
set_option maxRecDepth 20000 in
theorem ggX7_without_X7_in : GoodIn wsX7_without wsX7_in := goodIn_r _ [11] (by decide +kernel) (by decide +kernel)
set_option maxRecDepth 20000 in
theorem gX7_without_X7_in : GoodIn wsX7_without (va_wsS RX7 68 yX7_in wsX7_in) := goodIn_app (goodIn_of _ (by decide +kernel)) ggX7_without_X7_in
set_option maxRecDepth 20000 in
theorem ggX7_without_X7_laySums : GoodIn wsX7_without wsX7_laySums := goodIn_r _ [15, 16, 17, 18, 19, 20, 21, 3, 22, 23, 24, 25, 26, 27, 28, 29, 30, 31, 32, 33, 34, 35, 36, 41, 42, 43, 44, 45, 46, 47, 48, 49, 50, 51, 52, 53, 54, 55, 56, 57, 58, 59, 60, 61, 62, 63, 64, 65, 66, 67, 68, 69] (by decide +kernel) (by decide +kernel)
set_option maxRecDepth 20000 in
theorem gX7_without_X7_laySums : GoodIn wsX7_without (wsV RX7 279 RX7 yX7_laySums wsX7_laySums) := goodIn_app (goodIn_of _ (by decide +kernel)) ggX7_without_X7_laySums
set_option maxRecDepth 20000 in
theorem ggX7_without_X7_bare : GoodIn wsX7_without wsX7_bare := goodIn_r _ [40, 32, 41, 42, 43, 44, 45, 46, 47, 48, 49, 50, 51, 52, 53, 54, 55, 56, 57, 58, 59, 60, 61, 62, 63, 64, 65, 66, 67, 68, 69] (by decide +kernel) (by decide +kernel)
set_option maxRecDepth 20000 in
theorem gX7_without_X7_bare : GoodIn wsX7_without (wsV RX7 282 RX7 yX7_bare wsX7_bare) := goodIn_app (goodIn_of _ (by decide +kernel)) ggX7_without_X7_bare
set_option maxRecDepth 20000 in
theorem ggX7_mend_X7_areDays : GoodIn wsX7_mend wsX7_areDays := goodIn_r _ [11, 12, 13, 10, 14, 15, 16, 17, 18] (by decide +kernel) (by decide +kernel)
set_option maxRecDepth 20000 in
theorem gX7_mend_X7_areDays : GoodIn wsX7_mend (va_wsS RX7 276 yX7_areDays wsX7_areDays) := goodIn_app (goodIn_of _ (by decide +kernel)) ggX7_mend_X7_areDays
set_option maxRecDepth 20000 in
theorem ggX7_mend_X7_laySums : GoodIn wsX7_mend wsX7_laySums := goodIn_r _ [22, 4, 2, 6, 23, 24, 25, 10, 26, 27, 28, 29, 30, 31, 32, 33, 34, 35, 36, 37, 38, 39, 40, 55, 56, 57, 58, 59, 60, 61, 62, 63, 64, 65, 66, 67, 68, 69, 70, 71, 72, 73, 74, 75, 76, 77, 78, 79, 80, 81, 82, 83] (by decide +kernel) (by decide +kernel)
set_option maxRecDepth 20000 in
theorem gX7_mend_X7_laySums : GoodIn wsX7_mend (wsV RX7 279 RX7 yX7_laySums wsX7_laySums) := goodIn_app (goodIn_of _ (by decide +kernel)) ggX7_mend_X7_laySums
set_option maxRecDepth 20000 in
theorem ggX7_mend_X7_bare : GoodIn wsX7_mend wsX7_bare := goodIn_r _ [44, 36, 55, 56, 57, 58, 59, 60, 61, 62, 63, 64, 65, 66, 67, 68, 69, 70, 71, 72, 73, 74, 75, 76, 77, 78, 79, 80, 81, 82, 83] (by decide +kernel) (by decide +kernel)
set_option maxRecDepth 20000 in
theorem gX7_mend_X7_bare : GoodIn wsX7_mend (wsV RX7 282 RX7 yX7_bare wsX7_bare) := goodIn_app (goodIn_of _ (by decide +kernel)) ggX7_mend_X7_bare
set_option maxRecDepth 20000 in
theorem ggX7_mend_X7_isCode : GoodIn wsX7_mend wsX7_isCode := goodIn_r _ [47, 27, 48, 49, 10, 50] (by decide +kernel) (by decide +kernel)
set_option maxRecDepth 20000 in
theorem gX7_mend_X7_isCode : GoodIn wsX7_mend (va_wsS RX7 226 yX7_isCode wsX7_isCode) := goodIn_app (goodIn_of _ (by decide +kernel)) ggX7_mend_X7_isCode
set_option maxRecDepth 20000 in
theorem ggX7_mend_X7_isBare : GoodIn wsX7_mend wsX7_isBare := goodIn_r _ [26, 2, 27, 55, 56, 57, 58, 59, 60, 61, 62, 63, 64, 65, 66, 67, 68, 69, 70, 71, 72, 73, 74, 75, 76, 77, 78, 79, 80, 81, 82, 83] (by decide +kernel) (by decide +kernel)
set_option maxRecDepth 20000 in
theorem gX7_mend_X7_isBare : GoodIn wsX7_mend (wsV RX7 214 RX7 yX7_isBare wsX7_isBare) := goodIn_app (goodIn_of _ (by decide +kernel)) ggX7_mend_X7_isBare
set_option maxRecDepth 20000 in
theorem ggX7_mend_X7_isSyl : GoodIn wsX7_mend wsX7_isSyl := goodIn_r _ [54, 2, 55, 56, 57, 58, 59, 60, 61, 62, 63, 64, 65, 66, 67, 68, 69, 70, 71, 72, 73, 74, 75, 76, 77, 78, 79, 80, 81, 82, 83] (by decide +kernel) (by decide +kernel)
set_option maxRecDepth 20000 in
theorem gX7_mend_X7_isSyl : GoodIn wsX7_mend (wsV RX7 290 RX7 yX7_isSyl wsX7_isSyl) := goodIn_app (goodIn_of _ (by decide +kernel)) ggX7_mend_X7_isSyl
set_option maxRecDepth 20000 in
theorem ggX7_mend_X7_sumOf : GoodIn wsX7_mend wsX7_sumOf := goodIn_r _ [31, 2, 27, 55, 56, 57, 58, 59, 60, 61, 62, 63, 64, 65, 66, 67, 68, 69, 70, 71, 72, 73, 74, 75, 76, 77, 78, 79, 80, 81, 82, 83] (by decide +kernel) (by decide +kernel)
set_option maxRecDepth 20000 in
theorem gX7_mend_X7_sumOf : GoodIn wsX7_mend (wsV RX7 229 RX7 yX7_sumOf wsX7_sumOf) := goodIn_app (goodIn_of _ (by decide +kernel)) ggX7_mend_X7_sumOf
set_option maxRecDepth 20000 in
theorem ggX7_mend_X7_layNamed : GoodIn wsX7_mend wsX7_layNamed := goodIn_r _ [35, 36, 4, 6, 37, 38, 39, 10, 40, 55, 56, 57, 58, 59, 60, 61, 62, 63, 64, 65, 66, 67, 68, 69, 70, 71, 72, 73, 74, 75, 76, 77, 78, 79, 80, 81, 82, 83] (by decide +kernel) (by decide +kernel)
set_option maxRecDepth 20000 in
theorem gX7_mend_X7_layNamed : GoodIn wsX7_mend (wsV RX7 273 RX7 yX7_layNamed wsX7_layNamed) := goodIn_app (goodIn_of _ (by decide +kernel)) ggX7_mend_X7_layNamed
set_option maxRecDepth 20000 in
theorem ggX7_layUsed_X7_has : GoodIn wsX7_layUsed wsX7_has := goodIn_r _ [9] (by decide +kernel) (by decide +kernel)
set_option maxRecDepth 20000 in
theorem gX7_layUsed_X7_has : GoodIn wsX7_layUsed (va_wsS RX7 235 yX7_has wsX7_has) := goodIn_app (goodIn_of _ (by decide +kernel)) ggX7_layUsed_X7_has
set_option maxRecDepth 20000 in
theorem ggX7_old_X7_in : GoodIn wsX7_old wsX7_in := goodIn_r _ [9] (by decide +kernel) (by decide +kernel)
set_option maxRecDepth 20000 in
theorem gX7_old_X7_in : GoodIn wsX7_old (va_wsS RX7 68 yX7_in wsX7_in) := goodIn_app (goodIn_of _ (by decide +kernel)) ggX7_old_X7_in
set_option maxRecDepth 20000 in
theorem ggX7_old_X7_layUsed : GoodIn wsX7_old wsX7_layUsed := goodIn_r _ [13, 14, 15, 16, 3, 4, 17, 18, 8, 19, 28, 29, 30, 31, 32, 33, 34, 35, 36, 37, 38, 39, 40, 41, 42, 43, 44, 45, 46, 47, 48, 49, 50, 51, 52, 53, 54, 55, 56] (by decide +kernel) (by decide +kernel)
set_option maxRecDepth 20000 in
theorem gX7_old_X7_layUsed : GoodIn wsX7_old (wsV RX7 296 RX7 yX7_layUsed wsX7_layUsed) := goodIn_app (goodIn_of _ (by decide +kernel)) ggX7_old_X7_layUsed
set_option maxRecDepth 20000 in
theorem ggX7_old_X7_figure : GoodIn wsX7_old wsX7_figure := goodIn_r _ [23, 3, 28, 29, 30, 31, 32, 33, 34, 35, 36, 37, 38, 39, 40, 41, 42, 43, 44, 45, 46, 47, 48, 49, 50, 51, 52, 53, 54, 55, 56] (by decide +kernel) (by decide +kernel)
set_option maxRecDepth 20000 in
theorem gX7_old_X7_figure : GoodIn wsX7_old (wsV RX7 299 RX7 yX7_figure wsX7_figure) := goodIn_app (goodIn_of _ (by decide +kernel)) ggX7_old_X7_figure
set_option maxRecDepth 20000 in
theorem ggX7_old_X7_allAdd : GoodIn wsX7_old wsX7_allAdd := goodIn_r _ [27, 14, 15, 5, 16, 28, 29, 30, 31, 32, 33, 34, 35, 36, 37, 38, 39, 40, 41, 42, 43, 44, 45, 46, 47, 48, 49, 50, 51, 52, 53, 54, 55, 56] (by decide +kernel) (by decide +kernel)
set_option maxRecDepth 20000 in
theorem gX7_old_X7_allAdd : GoodIn wsX7_old (wsV RX7 303 RX7 yX7_allAdd wsX7_allAdd) := goodIn_app (goodIn_of _ (by decide +kernel)) ggX7_old_X7_allAdd
set_option maxRecDepth 20000 in
theorem ggX7_anew_X7_sumOf : GoodIn wsX7_anew wsX7_sumOf := goodIn_r _ [7, 1, 8, 12, 13, 14, 15, 16, 17, 18, 19, 20, 21, 22, 23, 24, 25, 26, 27, 28, 29, 30, 31, 32, 33, 34, 35, 36, 37, 38, 39, 40] (by decide +kernel) (by decide +kernel)
set_option maxRecDepth 20000 in
theorem gX7_anew_X7_sumOf : GoodIn wsX7_anew (wsV RX7 229 RX7 yX7_sumOf wsX7_sumOf) := goodIn_app (goodIn_of _ (by decide +kernel)) ggX7_anew_X7_sumOf
set_option maxRecDepth 20000 in
theorem ggX7_anew_X7_timesIn : GoodIn wsX7_anew wsX7_timesIn := goodIn_r _ [11, 8] (by decide +kernel) (by decide +kernel)
set_option maxRecDepth 20000 in
theorem gX7_anew_X7_timesIn : GoodIn wsX7_anew (va_wsS RX7 306 yX7_timesIn wsX7_timesIn) := goodIn_app (goodIn_of _ (by decide +kernel)) ggX7_anew_X7_timesIn
set_option maxRecDepth 20000 in
theorem ggX7_reform_X7_isPerson : GoodIn wsX7_reform wsX7_isPerson := goodIn_r _ [8, 3, 9, 10, 7, 11, 24, 25, 26, 27, 28, 29, 30, 31, 32, 33, 34, 35, 36, 37, 38, 39, 40, 41, 42, 43, 44, 45, 46, 47, 48, 49, 50, 51, 52] (by decide +kernel) (by decide +kernel)
set_option maxRecDepth 20000 in
theorem gX7_reform_X7_isPerson : GoodIn wsX7_reform (wsV RX7 191 RX7 yX7_isPerson wsX7_isPerson) := goodIn_app (goodIn_of _ (by decide +kernel)) ggX7_reform_X7_isPerson
set_option maxRecDepth 20000 in
theorem ggX7_reform_X7_in : GoodIn wsX7_reform wsX7_in := goodIn_r _ [11] (by decide +kernel) (by decide +kernel)
set_option maxRecDepth 20000 in
theorem gX7_reform_X7_in : GoodIn wsX7_reform (va_wsS RX7 68 yX7_in wsX7_in) := goodIn_app (goodIn_of _ (by decide +kernel)) ggX7_reform_X7_in
set_option maxRecDepth 20000 in
theorem ggX7_reform_X7_sumOf : GoodIn wsX7_reform wsX7_sumOf := goodIn_r _ [15, 3, 16, 24, 25, 26, 27, 28, 29, 30, 31, 32, 33, 34, 35, 36, 37, 38, 39, 40, 41, 42, 43, 44, 45, 46, 47, 48, 49, 50, 51, 52] (by decide +kernel) (by decide +kernel)
set_option maxRecDepth 20000 in
theorem gX7_reform_X7_sumOf : GoodIn wsX7_reform (wsV RX7 229 RX7 yX7_sumOf wsX7_sumOf) := goodIn_app (goodIn_of _ (by decide +kernel)) ggX7_reform_X7_sumOf
set_option maxRecDepth 20000 in
theorem ggX7_reform_X7_timesIn : GoodIn wsX7_reform wsX7_timesIn := goodIn_r _ [19, 16] (by decide +kernel) (by decide +kernel)
set_option maxRecDepth 20000 in
theorem gX7_reform_X7_timesIn : GoodIn wsX7_reform (va_wsS RX7 306 yX7_timesIn wsX7_timesIn) := goodIn_app (goodIn_of _ (by decide +kernel)) ggX7_reform_X7_timesIn
set_option maxRecDepth 20000 in
theorem ggX7_reform_X7_anew : GoodIn wsX7_reform wsX7_anew := goodIn_r _ [23, 3, 2, 12, 13, 14, 7, 15, 16, 17, 18, 19, 24, 25, 26, 27, 28, 29, 30, 31, 32, 33, 34, 35, 36, 37, 38, 39, 40, 41, 42, 43, 44, 45, 46, 47, 48, 49, 50, 51, 52] (by decide +kernel) (by decide +kernel)
set_option maxRecDepth 20000 in
theorem gX7_reform_X7_anew : GoodIn wsX7_reform (wsV RX7 312 RX7 yX7_anew wsX7_anew) := goodIn_app (goodIn_of _ (by decide +kernel)) ggX7_reform_X7_anew
set_option maxRecDepth 20000 in
theorem ggX7_nicknames_X7_isPerson : GoodIn wsX7_nicknames wsX7_isPerson := goodIn_r _ [13, 8, 14, 15, 12, 16, 38, 39, 40, 41, 42, 43, 44, 45, 46, 47, 48, 49, 50, 51, 52, 53, 54, 55, 56, 57, 58, 59, 60, 61, 62, 63, 64, 65, 66] (by decide +kernel) (by decide +kernel)
set_option maxRecDepth 20000 in
theorem gX7_nicknames_X7_isPerson : GoodIn wsX7_nicknames (wsV RX7 191 RX7 yX7_isPerson wsX7_isPerson) := goodIn_app (goodIn_of _ (by decide +kernel)) ggX7_nicknames_X7_isPerson
set_option maxRecDepth 20000 in
theorem ggX7_nicknames_X7_in : GoodIn wsX7_nicknames wsX7_in := goodIn_r _ [16] (by decide +kernel) (by decide +kernel)
set_option maxRecDepth 20000 in
theorem gX7_nicknames_X7_in : GoodIn wsX7_nicknames (va_wsS RX7 68 yX7_in wsX7_in) := goodIn_app (goodIn_of _ (by decide +kernel)) ggX7_nicknames_X7_in
set_option maxRecDepth 20000 in
theorem ggX7_nicknames_X7_lettersOf : GoodIn wsX7_nicknames wsX7_lettersOf := goodIn_r _ [19, 6] (by decide +kernel) (by decide +kernel)
set_option maxRecDepth 20000 in
theorem gX7_nicknames_X7_lettersOf : GoodIn wsX7_nicknames (va_wsS RX7 207 yX7_lettersOf wsX7_lettersOf) := goodIn_app (goodIn_of _ (by decide +kernel)) ggX7_nicknames_X7_lettersOf
set_option maxRecDepth 20000 in
theorem ggX7_nicknames_X7_has : GoodIn wsX7_nicknames wsX7_has := goodIn_r _ [22] (by decide +kernel) (by decide +kernel)
set_option maxRecDepth 20000 in
theorem gX7_nicknames_X7_has : GoodIn wsX7_nicknames (va_wsS RX7 235 yX7_has wsX7_has) := goodIn_app (goodIn_of _ (by decide +kernel)) ggX7_nicknames_X7_has
set_option maxRecDepth 20000 in
theorem ggX7_nicknames_X7_isName : GoodIn wsX7_nicknames wsX7_isName := goodIn_r _ [26, 8, 27, 28, 29, 12, 30, 6, 31, 32, 33, 17, 18, 19, 38, 39, 40, 41, 42, 43, 44, 45, 46, 47, 48, 49, 50, 51, 52, 53, 54, 55, 56, 57, 58, 59, 60, 61, 62, 63, 64, 65, 66] (by decide +kernel) (by decide +kernel)
set_option maxRecDepth 20000 in
theorem gX7_nicknames_X7_isName : GoodIn wsX7_nicknames (wsV RX7 232 RX7 yX7_isName wsX7_isName) := goodIn_app (goodIn_of _ (by decide +kernel)) ggX7_nicknames_X7_isName
set_option maxRecDepth 20000 in
theorem ggX7_nicknames_X7_sumOf : GoodIn wsX7_nicknames wsX7_sumOf := goodIn_r _ [37, 8, 6, 38, 39, 40, 41, 42, 43, 44, 45, 46, 47, 48, 49, 50, 51, 52, 53, 54, 55, 56, 57, 58, 59, 60, 61, 62, 63, 64, 65, 66] (by decide +kernel) (by decide +kernel)
set_option maxRecDepth 20000 in
theorem gX7_nicknames_X7_sumOf : GoodIn wsX7_nicknames (wsV RX7 229 RX7 yX7_sumOf wsX7_sumOf) := goodIn_app (goodIn_of _ (by decide +kernel)) ggX7_nicknames_X7_sumOf
set_option maxRecDepth 20000 in
theorem ggX7_page_X7_in : GoodIn wsX7_page wsX7_in := goodIn_r _ [8] (by decide +kernel) (by decide +kernel)
set_option maxRecDepth 20000 in
theorem gX7_page_X7_in : GoodIn wsX7_page (va_wsS RX7 68 yX7_in wsX7_in) := goodIn_app (goodIn_of _ (by decide +kernel)) ggX7_page_X7_in
set_option maxRecDepth 20000 in
theorem ggX7_page_X7_has : GoodIn wsX7_page wsX7_has := goodIn_r _ [11] (by decide +kernel) (by decide +kernel)
set_option maxRecDepth 20000 in
theorem gX7_page_X7_has : GoodIn wsX7_page (va_wsS RX7 235 yX7_has wsX7_has) := goodIn_app (goodIn_of _ (by decide +kernel)) ggX7_page_X7_has
set_option maxRecDepth 20000 in
theorem ggX7_page_X7_sumOf : GoodIn wsX7_page wsX7_sumOf := goodIn_r _ [15, 1, 4, 16, 17, 18, 19, 20, 21, 22, 23, 24, 25, 26, 27, 28, 29, 30, 31, 32, 33, 34, 35, 36, 37, 38, 39, 40, 41, 42, 43, 44] (by decide +kernel) (by decide +kernel)
set_option maxRecDepth 20000 in
theorem gX7_page_X7_sumOf : GoodIn wsX7_page (wsV RX7 229 RX7 yX7_sumOf wsX7_sumOf) := goodIn_app (goodIn_of _ (by decide +kernel)) ggX7_page_X7_sumOf
set_option maxRecDepth 20000 in
theorem ggX7_isSheet_X7_in : GoodIn wsX7_isSheet wsX7_in := goodIn_r _ [5] (by decide +kernel) (by decide +kernel)
set_option maxRecDepth 20000 in
theorem gX7_isSheet_X7_in : GoodIn wsX7_isSheet (va_wsS RX7 68 yX7_in wsX7_in) := goodIn_app (goodIn_of _ (by decide +kernel)) ggX7_isSheet_X7_in
set_option maxRecDepth 20000 in
theorem ggX7_sheet_X7_isSheet : GoodIn wsX7_sheet wsX7_isSheet := goodIn_r _ [8, 1, 9, 10, 7, 11] (by decide +kernel) (by decide +kernel)
set_option maxRecDepth 20000 in
theorem gX7_sheet_X7_isSheet : GoodIn wsX7_sheet (va_wsS RX7 317 yX7_isSheet wsX7_isSheet) := goodIn_app (goodIn_of _ (by decide +kernel)) ggX7_sheet_X7_isSheet
set_option maxRecDepth 20000 in
theorem ggX7_sheet_X7_in : GoodIn wsX7_sheet wsX7_in := goodIn_r _ [11] (by decide +kernel) (by decide +kernel)
set_option maxRecDepth 20000 in
theorem gX7_sheet_X7_in : GoodIn wsX7_sheet (va_wsS RX7 68 yX7_in wsX7_in) := goodIn_app (goodIn_of _ (by decide +kernel)) ggX7_sheet_X7_in
set_option maxRecDepth 20000 in
theorem ggX7_tear_X7_isSheet : GoodIn wsX7_tear wsX7_isSheet := goodIn_r _ [5, 6, 7, 8, 4, 9] (by decide +kernel) (by decide +kernel)
set_option maxRecDepth 20000 in
theorem gX7_tear_X7_isSheet : GoodIn wsX7_tear (va_wsS RX7 317 yX7_isSheet wsX7_isSheet) := goodIn_app (goodIn_of _ (by decide +kernel)) ggX7_tear_X7_isSheet
set_option maxRecDepth 20000 in
theorem ggX7_lay_X7_isSheet : GoodIn wsX7_lay wsX7_isSheet := goodIn_r _ [7, 8, 9, 10, 6, 11] (by decide +kernel) (by decide +kernel)
set_option maxRecDepth 20000 in
theorem gX7_lay_X7_isSheet : GoodIn wsX7_lay (va_wsS RX7 317 yX7_isSheet wsX7_isSheet) := goodIn_app (goodIn_of _ (by decide +kernel)) ggX7_lay_X7_isSheet
set_option maxRecDepth 20000 in
theorem ggX7_lay_X7_in : GoodIn wsX7_lay wsX7_in := goodIn_r _ [11] (by decide +kernel) (by decide +kernel)
set_option maxRecDepth 20000 in
theorem gX7_lay_X7_in : GoodIn wsX7_lay (va_wsS RX7 68 yX7_in wsX7_in) := goodIn_app (goodIn_of _ (by decide +kernel)) ggX7_lay_X7_in
set_option maxRecDepth 20000 in
theorem ggX7_copy_X7_isSheet : GoodIn wsX7_copy wsX7_isSheet := goodIn_r _ [7, 8, 9, 10, 6, 11] (by decide +kernel) (by decide +kernel)
set_option maxRecDepth 20000 in
theorem gX7_copy_X7_isSheet : GoodIn wsX7_copy (va_wsS RX7 317 yX7_isSheet wsX7_isSheet) := goodIn_app (goodIn_of _ (by decide +kernel)) ggX7_copy_X7_isSheet
set_option maxRecDepth 20000 in
theorem ggX7_hope_X7_isSheet : GoodIn wsX7_hope wsX7_isSheet := goodIn_r _ [11, 1, 12, 13, 10, 14] (by decide +kernel) (by decide +kernel)
set_option maxRecDepth 20000 in
theorem gX7_hope_X7_isSheet : GoodIn wsX7_hope (va_wsS RX7 317 yX7_isSheet wsX7_isSheet) := goodIn_app (goodIn_of _ (by decide +kernel)) ggX7_hope_X7_isSheet
set_option maxRecDepth 20000 in
theorem ggX7_hope_X7_in : GoodIn wsX7_hope wsX7_in := goodIn_r _ [14] (by decide +kernel) (by decide +kernel)
set_option maxRecDepth 20000 in
theorem gX7_hope_X7_in : GoodIn wsX7_hope (va_wsS RX7 68 yX7_in wsX7_in) := goodIn_app (goodIn_of _ (by decide +kernel)) ggX7_hope_X7_in
set_option maxRecDepth 20000 in
theorem ggX7_hope_X7_isDay : GoodIn wsX7_hope wsX7_isDay := goodIn_r _ [17, 18, 12, 13, 10, 14] (by decide +kernel) (by decide +kernel)
set_option maxRecDepth 20000 in
theorem gX7_hope_X7_isDay : GoodIn wsX7_hope (va_wsS RX7 246 yX7_isDay wsX7_isDay) := goodIn_app (goodIn_of _ (by decide +kernel)) ggX7_hope_X7_isDay
set_option maxRecDepth 20000 in
theorem ggX7_hope_X7_hopeFor : GoodIn wsX7_hope wsX7_hopeFor := goodIn_r _ [22, 7, 23, 24, 25, 26, 27, 28, 29, 30, 31, 32, 33, 34, 35, 36, 37, 38, 39, 40, 41, 42, 43, 44, 45, 46, 47, 48, 49, 50, 51] (by decide +kernel) (by decide +kernel)
set_option maxRecDepth 20000 in
theorem gX7_hope_X7_hopeFor : GoodIn wsX7_hope (wsV RX7 167 RX7 yX7_hopeFor wsX7_hopeFor) := goodIn_app (goodIn_of _ (by decide +kernel)) ggX7_hope_X7_hopeFor
set_option maxRecDepth 20000 in
theorem ggX7_keep_X7_in : GoodIn wsX7_keep wsX7_in := goodIn_r _ [6] (by decide +kernel) (by decide +kernel)
set_option maxRecDepth 20000 in
theorem gX7_keep_X7_in : GoodIn wsX7_keep (va_wsS RX7 68 yX7_in wsX7_in) := goodIn_app (goodIn_of _ (by decide +kernel)) ggX7_keep_X7_in
set_option maxRecDepth 20000 in
theorem ggX7_keep_X7_move : GoodIn wsX7_keep wsX7_move := goodIn_r _ [10, 2, 11, 12, 13, 14, 15, 16, 17, 18, 19, 20, 21, 22, 23, 24, 25, 26, 27, 28, 29, 30, 31, 32, 33, 34, 35, 36, 37, 38, 39, 40] (by decide +kernel) (by decide +kernel)
set_option maxRecDepth 20000 in
theorem gX7_keep_X7_move : GoodIn wsX7_keep (wsV RX7 322 RX7 yX7_move wsX7_move) := goodIn_app (goodIn_of _ (by decide +kernel)) ggX7_keep_X7_move
set_option maxRecDepth 20000 in
theorem ggX7_back_X7_in : GoodIn wsX7_back wsX7_in := goodIn_r _ [6] (by decide +kernel) (by decide +kernel)
set_option maxRecDepth 20000 in
theorem gX7_back_X7_in : GoodIn wsX7_back (va_wsS RX7 68 yX7_in wsX7_in) := goodIn_app (goodIn_of _ (by decide +kernel)) ggX7_back_X7_in
set_option maxRecDepth 20000 in
theorem ggX7_back_X7_move : GoodIn wsX7_back wsX7_move := goodIn_r _ [10, 2, 11, 12, 13, 14, 15, 16, 17, 18, 19, 20, 21, 22, 23, 24, 25, 26, 27, 28, 29, 30, 31, 32, 33, 34, 35, 36, 37, 38, 39, 40] (by decide +kernel) (by decide +kernel)
set_option maxRecDepth 20000 in
theorem gX7_back_X7_move : GoodIn wsX7_back (wsV RX7 322 RX7 yX7_move wsX7_move) := goodIn_app (goodIn_of _ (by decide +kernel)) ggX7_back_X7_move
set_option maxRecDepth 20000 in
theorem ggJ0_length_8abf5_J0_coder_7d493 : GoodIn wsJ0_length_8abf5 wsJ0_coder_7d493 := goodIn_r _ [6, 7, 8] (by decide +kernel) (by decide +kernel)
set_option maxRecDepth 20000 in
theorem gJ0_length_8abf5_J0_coder_7d493 : GoodIn wsJ0_length_8abf5 (wsV RJ0 335 RJ0 yJ0_coder_7d493 wsJ0_coder_7d493) := goodIn_app (goodIn_of _ (by decide +kernel)) ggJ0_length_8abf5_J0_coder_7d493
set_option maxRecDepth 20000 in
theorem ggJ0_charAt_5068e_J0_isLatin1_aae02 : GoodIn wsJ0_charAt_5068e wsJ0_isLatin1_aae02 := goodIn_r _ [6, 7, 8] (by decide +kernel) (by decide +kernel)
set_option maxRecDepth 20000 in
theorem gJ0_charAt_5068e_J0_isLatin1_aae02 : GoodIn wsJ0_charAt_5068e (wsV RJ0 492 RJ0 yJ0_isLatin1_aae02 wsJ0_isLatin1_aae02) := goodIn_app (goodIn_of _ (by decide +kernel)) ggJ0_charAt_5068e_J0_isLatin1_aae02
set_option maxRecDepth 20000 in
theorem ggJ0_charAt_5068e_J1_charAt_3b067 : GoodIn wsJ0_charAt_5068e wsJ1_charAt_3b067 := goodIn_r _ [12, 13, 14, 5, 15, 16, 17, 18, 19, 20] (by decide +kernel) (by decide +kernel)
set_option maxRecDepth 20000 in
theorem gJ0_charAt_5068e_J1_charAt_3b067 : GoodIn wsJ0_charAt_5068e (va_wsS RJ0 495 yJ1_charAt_3b067 wsJ1_charAt_3b067) := goodIn_app (goodIn_of _ (by decide +kernel)) ggJ0_charAt_5068e_J1_charAt_3b067
set_option maxRecDepth 20000 in
theorem ggJ0_charAt_5068e_J2_charAt_3b067 : GoodIn wsJ0_charAt_5068e wsJ2_charAt_3b067 := goodIn_r _ [24, 25, 26, 23, 27, 28, 29, 30, 31, 14, 5, 15, 16, 17, 18, 19, 20, 32, 33, 34, 35, 36, 37] (by decide +kernel) (by decide +kernel)
set_option maxRecDepth 20000 in
theorem gJ0_charAt_5068e_J2_charAt_3b067 : GoodIn wsJ0_charAt_5068e (va_wsS RJ0 498 yJ2_charAt_3b067 wsJ2_charAt_3b067) := goodIn_app (goodIn_of _ (by decide +kernel)) ggJ0_charAt_5068e_J2_charAt_3b067
set_option maxRecDepth 20000 in
theorem ggJ0_checkIndex_df160_J3_checkIndex_8e157 : GoodIn wsJ0_checkIndex_df160 wsJ3_checkIndex_8e157 := goodIn_r _ [5] (by decide +kernel) (by decide +kernel)
set_option maxRecDepth 20000 in
theorem gJ0_checkIndex_df160_J3_checkIndex_8e157 : GoodIn wsJ0_checkIndex_df160 (va_wsS RJ0 1059 yJ3_checkIndex_8e157 wsJ3_checkIndex_8e157) := goodIn_app (goodIn_of _ (by decide +kernel)) ggJ0_checkIndex_df160_J3_checkIndex_8e157
set_option maxRecDepth 20000 in
theorem ggJ1_charAt_3b067_J0_checkIndex_df160 : GoodIn wsJ1_charAt_3b067 wsJ0_checkIndex_df160 := goodIn_r _ [4, 5, 6, 7, 8, 9] (by decide +kernel) (by decide +kernel)
set_option maxRecDepth 20000 in
theorem gJ1_charAt_3b067_J0_checkIndex_df160 : GoodIn wsJ1_charAt_3b067 (va_wsS RJ1 9 yJ0_checkIndex_df160 wsJ0_checkIndex_df160) := goodIn_app (goodIn_of _ (by decide +kernel)) ggJ1_charAt_3b067_J0_checkIndex_df160
set_option maxRecDepth 20000 in
theorem ggJ2_getChar_3b067_J2_length_9d52b : GoodIn wsJ2_getChar_3b067 wsJ2_length_9d52b := goodIn_r _ [7] (by decide +kernel) (by decide +kernel)
set_option maxRecDepth 20000 in
theorem gJ2_getChar_3b067_J2_length_9d52b : GoodIn wsJ2_getChar_3b067 (va_wsS RJ2 48 yJ2_length_9d52b wsJ2_length_9d52b) := goodIn_app (goodIn_of _ (by decide +kernel)) ggJ2_getChar_3b067_J2_length_9d52b
set_option maxRecDepth 20000 in
theorem ggJ2_charAt_3b067_J2_checkIndex_2214a : GoodIn wsJ2_charAt_3b067 wsJ2_checkIndex_2214a := goodIn_r _ [4, 5, 6, 3, 7, 8, 9, 10, 11, 12, 13, 14, 15, 16] (by decide +kernel) (by decide +kernel)
set_option maxRecDepth 20000 in
theorem gJ2_charAt_3b067_J2_checkIndex_2214a : GoodIn wsJ2_charAt_3b067 (va_wsS RJ2 67 yJ2_checkIndex_2214a wsJ2_checkIndex_2214a) := goodIn_app (goodIn_of _ (by decide +kernel)) ggJ2_charAt_3b067_J2_checkIndex_2214a
set_option maxRecDepth 20000 in
theorem ggJ2_charAt_3b067_J2_getChar_3b067 : GoodIn wsJ2_charAt_3b067 wsJ2_getChar_3b067 := goodIn_r _ [19, 20, 21, 22, 5, 6, 3, 7] (by decide +kernel) (by decide +kernel)
set_option maxRecDepth 20000 in
theorem gJ2_charAt_3b067_J2_getChar_3b067 : GoodIn wsJ2_charAt_3b067 (va_wsS RJ2 71 yJ2_getChar_3b067 wsJ2_getChar_3b067) := goodIn_app (goodIn_of _ (by decide +kernel)) ggJ2_charAt_3b067_J2_getChar_3b067
set_option maxRecDepth 20000 in
theorem ggJ2_checkIndex_2214a_J2_length_9d52b : GoodIn wsJ2_checkIndex_2214a wsJ2_length_9d52b := goodIn_r _ [4] (by decide +kernel) (by decide +kernel)
set_option maxRecDepth 20000 in
theorem gJ2_checkIndex_2214a_J2_length_9d52b : GoodIn wsJ2_checkIndex_2214a (va_wsS RJ2 48 yJ2_length_9d52b wsJ2_length_9d52b) := goodIn_app (goodIn_of _ (by decide +kernel)) ggJ2_checkIndex_2214a_J2_length_9d52b
set_option maxRecDepth 20000 in
theorem ggJ2_checkIndex_2214a_J0_checkIndex_df160 : GoodIn wsJ2_checkIndex_2214a wsJ0_checkIndex_df160 := goodIn_r _ [8, 9, 10, 11, 12, 13] (by decide +kernel) (by decide +kernel)
set_option maxRecDepth 20000 in
theorem gJ2_checkIndex_2214a_J0_checkIndex_df160 : GoodIn wsJ2_checkIndex_2214a (va_wsS RJ2 414 yJ0_checkIndex_df160 wsJ0_checkIndex_df160) := goodIn_app (goodIn_of _ (by decide +kernel)) ggJ2_checkIndex_2214a_J0_checkIndex_df160
set_option maxRecDepth 20000 in
theorem ggL_law_X6_init : GoodIn wsL_law wsX6_init := goodIn_r _ [9, 10, 11, 12, 13, 14, 15, 16, 17, 18, 19, 20, 21, 22, 23, 24, 25, 26, 27, 28, 29, 30, 31, 32, 33, 34, 35, 36, 37, 38, 39, 40, 41, 42, 43, 44, 45, 46, 47, 48, 49, 50, 51, 52, 53, 54, 55, 56, 57, 58, 59, 60, 61, 62, 63, 64, 65, 66, 67, 68, 69, 70, 71, 72, 73, 74, 75, 76, 77, 78, 79, 80, 81, 82, 83, 84, 85, 86, 87, 88, 89, 90, 91, 92, 93, 94, 95, 96, 97, 98, 99, 100, 101, 102, 103, 104, 105, 106, 107, 108, 109, 110, 1140, 1141, 1142, 1143, 1144, 1145, 1146, 1147, 1148, 1149, 1150, 1151, 1152, 1103, 1104, 1105, 1106, 1107, 1108, 1109, 1110, 1153, 1154, 1155, 1156, 1157, 1158, 1159, 1160, 1161, 1162, 1163, 1164, 1165, 1166, 1167, 1168, 1169, 1170, 1171, 1172, 1173, 1174, 1175, 1176, 1177, 1178, 1179, 1180, 1181, 1182, 1183, 1184, 1185, 1186] (by decide +kernel) (by decide +kernel)
set_option maxRecDepth 20000 in
theorem gL_law_X6_init : GoodIn wsL_law (wsX6_init) := ggL_law_X6_init
set_option maxRecDepth 20000 in
theorem ggL_law_X7_init : GoodIn wsL_law wsX7_init := goodIn_r _ [113, 114, 11, 12, 36, 115, 45, 116, 89, 117, 118, 119, 120, 121, 122, 123, 124, 125, 126, 127, 128, 129, 130, 131, 132, 1111, 1112, 1113, 1114, 1115, 1116, 1117, 1118, 1119, 1120, 1121, 1122, 1123, 1124, 1125, 1126, 1127, 1128, 1129, 1130, 1131, 1132, 1133, 1134, 1135, 1136, 1137, 1138, 1139] (by decide +kernel) (by decide +kernel)
set_option maxRecDepth 20000 in
theorem gL_law_X7_init : GoodIn wsL_law (wsX7_init) := ggL_law_X7_init
set_option maxRecDepth 20000 in
theorem ggL_law_X6_write : GoodIn wsL_law wsX6_write := goodIn_r _ [136, 21, 137, 138, 139, 140, 20, 141, 62, 61, 142, 1103, 1104, 1105, 1106, 1107, 1108, 1109, 1110, 1153, 1154, 1155, 1156, 1157, 1158, 1159, 1160, 1161, 1162, 1163] (by decide +kernel) (by decide +kernel)
set_option maxRecDepth 20000 in
theorem gL_law_X6_write : GoodIn wsL_law (wsV RL 15 RX6 yX6_write wsX6_write) := goodIn_app (goodIn_of _ (by decide +kernel)) ggL_law_X6_write
set_option maxRecDepth 20000 in
theorem ggL_law_X7_write : GoodIn wsL_law wsX7_write := goodIn_r _ [146, 147, 148, 118, 149, 150, 151, 5, 152, 1111, 1112, 1113, 1114, 1115, 1116, 1117, 1118, 1119, 1120, 1121, 1122, 1123, 1124, 1125, 1126, 1127, 1128, 1129, 1130, 1131, 1132, 1133, 1134, 1135, 1136, 1137, 1138, 1139] (by decide +kernel) (by decide +kernel)
set_option maxRecDepth 20000 in
theorem gL_law_X7_write : GoodIn wsL_law (wsV RL 19 RX7 yX7_write wsX7_write) := goodIn_app (goodIn_of _ (by decide +kernel)) ggL_law_X7_write
set_option maxRecDepth 20000 in
theorem ggL_law_X6_erase : GoodIn wsL_law wsX6_erase := goodIn_r _ [156, 21, 137, 1103, 1104, 1105, 1106, 1107, 1108, 1109, 1110, 1153, 1154, 1155, 1156, 1157, 1158, 1159, 1160, 1161, 1162, 1163] (by decide +kernel) (by decide +kernel)
set_option maxRecDepth 20000 in
theorem gL_law_X6_erase : GoodIn wsL_law (wsV RL 20 RX6 yX6_erase wsX6_erase) := goodIn_app (goodIn_of _ (by decide +kernel)) ggL_law_X6_erase
set_option maxRecDepth 20000 in
theorem ggL_law_X7_erase : GoodIn wsL_law wsX7_erase := goodIn_r _ [160, 148, 1111, 1112, 1113, 1114, 1115, 1116, 1117, 1118, 1119, 1120, 1121, 1122, 1123, 1124, 1125, 1126, 1127, 1128, 1129, 1130, 1131, 1132, 1133, 1134, 1135, 1136, 1137, 1138, 1139] (by decide +kernel) (by decide +kernel)
set_option maxRecDepth 20000 in
theorem gL_law_X7_erase : GoodIn wsL_law (wsV RL 24 RX7 yX7_erase wsX7_erase) := goodIn_app (goodIn_of _ (by decide +kernel)) ggL_law_X7_erase
set_option maxRecDepth 20000 in
theorem ggL_law_X6_fault : GoodIn wsL_law wsX6_fault := goodIn_r _ [164, 21, 16, 165, 166, 167, 20, 168, 64, 66, 68, 65, 67, 70, 169, 170, 171, 172, 15, 173, 44, 174, 175, 176, 177, 46, 47, 48, 49, 50, 51, 52, 53, 54, 55, 56, 57, 178, 179, 180, 181, 182, 183, 184, 185, 186, 62, 61, 69, 187, 188, 189, 190, 191, 192, 193, 194, 195, 196, 197, 198, 199, 200, 201, 202, 203, 204, 205, 206, 207, 208, 209, 210, 211, 212, 213, 214, 215, 216, 217, 218, 219, 220, 221, 222, 223, 224, 225, 226, 227, 228, 229, 230, 231, 232, 233, 234, 235, 236, 237, 238, 239, 240, 241, 242, 243, 244, 245, 246, 247, 248, 249, 250, 251, 252, 253, 254, 255, 256, 257, 258, 259, 260, 261, 2, 262, 263, 264, 265, 266, 267, 268, 269, 270, 271, 272, 273, 274, 275, 276, 277, 278, 279, 280, 281, 71, 72, 282, 283, 284, 285, 286, 287, 288, 289, 290, 291, 292, 293, 294, 295, 296, 297, 298, 299, 300, 301, 302, 303, 304, 305, 306, 307, 308, 309, 310, 311, 312, 313, 314, 315, 316, 317, 318, 319, 320, 321, 322, 323, 324, 325, 326, 327, 328, 329, 330, 331, 332, 333, 1103, 1104, 1105, 1106, 1107, 1108, 1109, 1110, 1153, 1154, 1155, 1156, 1157, 1158, 1159, 1160, 1161, 1162, 1163, 1140, 1141, 1142, 1143, 1144, 1145, 1146, 1147, 1148, 1149, 1150, 1151, 1152] (by decide +kernel) (by decide +kernel)
set_option maxRecDepth 20000 in
theorem gL_law_X6_fault : GoodIn wsL_law (wsV RL 25 RX6 yX6_fault wsX6_fault) := goodIn_app (goodIn_of _ (by decide +kernel)) ggL_law_X6_fault
set_option maxRecDepth 20000 in
theorem ggL_law_X7_fault : GoodIn wsL_law wsX7_fault := goodIn_r _ [337, 338, 339, 115, 340, 341, 342, 124, 343, 148, 344, 118, 345, 346, 347, 5, 348, 349, 350, 351, 352, 353, 354, 355, 119, 356, 357, 358, 359, 360, 361, 362, 363, 364, 365, 366, 367, 368, 369, 370, 371, 372, 373, 374, 375, 376, 377, 378, 379, 380, 381, 382, 383, 384, 385, 386, 387, 388, 389, 390, 391, 150, 151, 152, 392, 393, 394, 395, 396, 397, 398, 399, 120, 1111, 1112, 1113, 1114, 1115, 1116, 1117, 1118, 1119, 1120, 1121, 1122, 1123, 1124, 1125, 1126, 1127, 1128, 1129, 1130, 1131, 1132, 1133, 1134, 1135, 1136, 1137, 1138, 1139] (by decide +kernel) (by decide +kernel)
set_option maxRecDepth 20000 in
theorem gL_law_X7_fault : GoodIn wsL_law (wsV RL 28 RX7 yX7_fault wsX7_fault) := goodIn_app (goodIn_of _ (by decide +kernel)) ggL_law_X7_fault
set_option maxRecDepth 20000 in
theorem ggL_law_X6_told : GoodIn wsL_law wsX6_told := goodIn_r _ [403, 21, 16, 404, 137, 405, 165, 166, 167, 20, 168, 64, 66, 68, 65, 67, 70, 169, 170, 171, 172, 15, 173, 44, 174, 175, 176, 177, 46, 47, 48, 49, 50, 51, 52, 53, 54, 55, 56, 57, 178, 179, 180, 181, 182, 183, 184, 185, 186, 62, 61, 69, 187, 188, 189, 190, 191, 192, 193, 194, 195, 196, 197, 198, 199, 200, 201, 202, 203, 204, 205, 206, 207, 208, 209, 210, 211, 212, 213, 214, 215, 216, 217, 218, 219, 220, 221, 222, 223, 224, 225, 226, 227, 228, 229, 230, 231, 232, 233, 234, 235, 236, 237, 238, 239, 240, 241, 242, 243, 244, 245, 246, 247, 248, 249, 250, 251, 252, 253, 254, 255, 256, 257, 258, 259, 260, 261, 2, 262, 263, 264, 265, 266, 267, 268, 269, 270, 271, 272, 273, 274, 275, 276, 277, 278, 279, 280, 281, 71, 72, 282, 283, 284, 285, 286, 287, 288, 289, 290, 291, 292, 293, 294, 295, 296, 297, 298, 299, 300, 301, 302, 303, 304, 305, 306, 307, 308, 309, 310, 311, 312, 313, 314, 315, 316, 317, 318, 319, 320, 321, 322, 323, 324, 325, 326, 327, 328, 329, 330, 331, 332, 333, 406, 1103, 1104, 1105, 1106, 1107, 1108, 1109, 1110, 1153, 1154, 1155, 1156, 1157, 1158, 1159, 1160, 1161, 1162, 1163, 1140, 1141, 1142, 1143, 1144, 1145, 1146, 1147, 1148, 1149, 1150, 1151, 1152] (by decide +kernel) (by decide +kernel)
set_option maxRecDepth 20000 in
theorem gL_law_X6_told : GoodIn wsL_law (wsV RL 29 RX6 yX6_told wsX6_told) := goodIn_app (goodIn_of _ (by decide +kernel)) ggL_law_X6_told
set_option maxRecDepth 20000 in
theorem ggL_law_X7_told : GoodIn wsL_law wsX7_told := goodIn_r _ [410, 339, 148, 411, 335, 336, 5, 337, 338, 115, 340, 341, 342, 124, 343, 344, 118, 345, 346, 347, 348, 349, 350, 351, 352, 353, 354, 355, 119, 356, 357, 358, 359, 360, 361, 362, 363, 364, 365, 366, 367, 368, 369, 370, 371, 372, 373, 374, 375, 376, 377, 378, 379, 380, 381, 382, 383, 384, 385, 386, 387, 388, 389, 390, 391, 150, 151, 152, 392, 393, 394, 395, 396, 397, 398, 399, 120, 412, 413, 414, 415, 116, 416, 417, 418, 419, 420, 421, 422, 423, 1111, 1112, 1113, 1114, 1115, 1116, 1117, 1118, 1119, 1120, 1121, 1122, 1123, 1124, 1125, 1126, 1127, 1128, 1129, 1130, 1131, 1132, 1133, 1134, 1135, 1136, 1137, 1138, 1139] (by decide +kernel) (by decide +kernel)
set_option maxRecDepth 20000 in
theorem gL_law_X7_told : GoodIn wsL_law (wsV RL 32 RX7 yX7_told wsX7_told) := goodIn_app (goodIn_of _ (by decide +kernel)) ggL_law_X7_told
set_option maxRecDepth 20000 in
theorem ggL_law_X6_letter : GoodIn wsL_law wsX6_letter := goodIn_r _ [427, 16, 428, 429, 264, 2, 265, 1103, 1104, 1105, 1106, 1107, 1108, 1109, 1110, 1140, 1141, 1142, 1143, 1144, 1145, 1146, 1147, 1148, 1149, 1150, 1151, 1152] (by decide +kernel) (by decide +kernel)
set_option maxRecDepth 20000 in
theorem gL_law_X6_letter : GoodIn wsL_law (wsV RL 33 RX6 yX6_letter wsX6_letter) := goodIn_app (goodIn_of _ (by decide +kernel)) ggL_law_X6_letter
set_option maxRecDepth 20000 in
theorem ggL_law_X7_letter : GoodIn wsL_law wsX7_letter := goodIn_r _ [433, 434, 115, 150, 151, 5, 152, 1111, 1112, 1113, 1114, 1115, 1116, 1117, 1118, 1119, 1120, 1121, 1122, 1123, 1124, 1125, 1126, 1127, 1128, 1129, 1130, 1131, 1132, 1133, 1134, 1135, 1136, 1137, 1138, 1139] (by decide +kernel) (by decide +kernel)
set_option maxRecDepth 20000 in
theorem gL_law_X7_letter : GoodIn wsL_law (wsV RL 37 RX7 yX7_letter wsX7_letter) := goodIn_app (goodIn_of _ (by decide +kernel)) ggL_law_X7_letter
set_option maxRecDepth 20000 in
theorem ggL_law_X6_person : GoodIn wsL_law wsX6_person := goodIn_r _ [438, 16, 439, 440, 441, 442, 443, 444, 445, 15, 446, 53, 447, 448, 449, 450, 57, 451, 452, 453, 454, 455, 456, 457, 458, 52, 50, 51, 1103, 1104, 1105, 1106, 1107, 1108, 1109, 1110, 1140, 1141, 1142, 1143, 1144, 1145, 1146, 1147, 1148, 1149, 1150, 1151, 1152] (by decide +kernel) (by decide +kernel)
set_option maxRecDepth 20000 in
theorem gL_law_X6_person : GoodIn wsL_law (wsV RL 38 RX6 yX6_person wsX6_person) := goodIn_app (goodIn_of _ (by decide +kernel)) ggL_law_X6_person
set_option maxRecDepth 20000 in
theorem ggL_law_X7_person : GoodIn wsL_law wsX7_person := goodIn_r _ [462, 115, 463, 464, 465, 5, 466, 150, 151, 152, 467, 468, 469, 470, 471, 472, 473, 474, 475, 476, 477, 478, 125, 479, 480, 481, 482, 483, 484, 485, 486, 1111, 1112, 1113, 1114, 1115, 1116, 1117, 1118, 1119, 1120, 1121, 1122, 1123, 1124, 1125, 1126, 1127, 1128, 1129, 1130, 1131, 1132, 1133, 1134, 1135, 1136, 1137, 1138, 1139] (by decide +kernel) (by decide +kernel)
set_option maxRecDepth 20000 in
theorem gL_law_X7_person : GoodIn wsL_law (wsV RL 42 RX7 yX7_person wsX7_person) := goodIn_app (goodIn_of _ (by decide +kernel)) ggL_law_X7_person
set_option maxRecDepth 20000 in
theorem ggL_law_X6_called : GoodIn wsL_law wsX6_called := goodIn_r _ [490, 16, 491, 492, 443, 444, 445, 15, 446, 53, 1103, 1104, 1105, 1106, 1107, 1108, 1109, 1110, 1140, 1141, 1142, 1143, 1144, 1145, 1146, 1147, 1148, 1149, 1150, 1151, 1152] (by decide +kernel) (by decide +kernel)
set_option maxRecDepth 20000 in
theorem gL_law_X6_called : GoodIn wsL_law (wsV RL 43 RX6 yX6_called wsX6_called) := goodIn_app (goodIn_of _ (by decide +kernel)) ggL_law_X6_called
set_option maxRecDepth 20000 in
theorem ggL_law_X7_called : GoodIn wsL_law wsX7_called := goodIn_r _ [496, 116, 497, 463, 464, 465, 5, 466, 115, 150, 151, 152, 1111, 1112, 1113, 1114, 1115, 1116, 1117, 1118, 1119, 1120, 1121, 1122, 1123, 1124, 1125, 1126, 1127, 1128, 1129, 1130, 1131, 1132, 1133, 1134, 1135, 1136, 1137, 1138, 1139] (by decide +kernel) (by decide +kernel)
set_option maxRecDepth 20000 in
theorem gL_law_X7_called : GoodIn wsL_law (wsV RL 47 RX7 yX7_called wsX7_called) := goodIn_app (goodIn_of _ (by decide +kernel)) ggL_law_X7_called
set_option maxRecDepth 20000 in
theorem ggL_law_X6_degrees : GoodIn wsL_law wsX6_degrees := goodIn_r _ [501, 16, 443, 444, 445, 15, 446, 53, 502, 503, 504, 505, 455, 456, 457, 458, 52, 50, 51, 1103, 1104, 1105, 1106, 1107, 1108, 1109, 1110, 1140, 1141, 1142, 1143, 1144, 1145, 1146, 1147, 1148, 1149, 1150, 1151, 1152] (by decide +kernel) (by decide +kernel)
set_option maxRecDepth 20000 in
theorem gL_law_X6_degrees : GoodIn wsL_law (wsV RL 48 RX6 yX6_degrees wsX6_degrees) := goodIn_app (goodIn_of _ (by decide +kernel)) ggL_law_X6_degrees
set_option maxRecDepth 20000 in
theorem ggL_law_X7_degrees : GoodIn wsL_law wsX7_degrees := goodIn_r _ [509, 125, 463, 464, 465, 5, 466, 115, 150, 151, 152, 479, 480, 481, 482, 483, 484, 485, 486, 1111, 1112, 1113, 1114, 1115, 1116, 1117, 1118, 1119, 1120, 1121, 1122, 1123, 1124, 1125, 1126, 1127, 1128, 1129, 1130, 1131, 1132, 1133, 1134, 1135, 1136, 1137, 1138, 1139] (by decide +kernel) (by decide +kernel)
set_option maxRecDepth 20000 in
theorem gL_law_X7_degrees : GoodIn wsL_law (wsV RL 51 RX7 yX7_degrees wsX7_degrees) := goodIn_app (goodIn_of _ (by decide +kernel)) ggL_law_X7_degrees
set_option maxRecDepth 20000 in
theorem ggL_law_X6_as : GoodIn wsL_law wsX6_as := goodIn_r _ [513, 16, 442, 443, 444, 445, 15, 446, 53, 514, 515, 2, 516, 447, 448, 449, 450, 57, 451, 452, 453, 454, 455, 456, 457, 458, 52, 50, 51, 517, 518, 519, 520, 521, 522, 523, 1103, 1104, 1105, 1106, 1107, 1108, 1109, 1110, 1140, 1141, 1142, 1143, 1144, 1145, 1146, 1147, 1148, 1149, 1150, 1151, 1152] (by decide +kernel) (by decide +kernel)
set_option maxRecDepth 20000 in
theorem gL_law_X6_as : GoodIn wsL_law (wsV RL 52 RX6 yX6_as wsX6_as) := goodIn_app (goodIn_of _ (by decide +kernel)) ggL_law_X6_as
set_option maxRecDepth 20000 in
theorem ggL_law_X7_as : GoodIn wsL_law wsX7_as := goodIn_r _ [527, 528, 463, 464, 465, 5, 466, 115, 150, 151, 152, 467, 468, 469, 470, 471, 472, 473, 474, 475, 476, 477, 478, 125, 479, 480, 481, 482, 483, 484, 485, 486, 529, 530, 531, 1111, 1112, 1113, 1114, 1115, 1116, 1117, 1118, 1119, 1120, 1121, 1122, 1123, 1124, 1125, 1126, 1127, 1128, 1129, 1130, 1131, 1132, 1133, 1134, 1135, 1136, 1137, 1138, 1139] (by decide +kernel) (by decide +kernel)
set_option maxRecDepth 20000 in
theorem gL_law_X7_as : GoodIn wsL_law (wsV RL 55 RX7 yX7_as wsX7_as) := goodIn_app (goodIn_of _ (by decide +kernel)) ggL_law_X7_as
set_option maxRecDepth 20000 in
theorem ggL_law_X6_sum : GoodIn wsL_law wsX6_sum := goodIn_r _ [535, 16, 536, 537, 2, 538, 539, 263, 540, 541, 542, 15, 543, 44, 544, 261, 262, 264, 265, 1103, 1104, 1105, 1106, 1107, 1108, 1109, 1110, 1140, 1141, 1142, 1143, 1144, 1145, 1146, 1147, 1148, 1149, 1150, 1151, 1152] (by decide +kernel) (by decide +kernel)
set_option maxRecDepth 20000 in
theorem gL_law_X6_sum : GoodIn wsL_law (wsV RL 56 RX6 yX6_sum wsX6_sum) := goodIn_app (goodIn_of _ (by decide +kernel)) ggL_law_X6_sum
set_option maxRecDepth 20000 in
theorem ggL_law_X7_sum : GoodIn wsL_law wsX7_sum := goodIn_r _ [548, 549, 550, 5, 551, 386, 552, 553, 554, 555, 556, 557, 558, 115, 1111, 1112, 1113, 1114, 1115, 1116, 1117, 1118, 1119, 1120, 1121, 1122, 1123, 1124, 1125, 1126, 1127, 1128, 1129, 1130, 1131, 1132, 1133, 1134, 1135, 1136, 1137, 1138, 1139] (by decide +kernel) (by decide +kernel)
set_option maxRecDepth 20000 in
theorem gL_law_X7_sum : GoodIn wsL_law (wsV RL 60 RX7 yX7_sum wsX7_sum) := goodIn_app (goodIn_of _ (by decide +kernel)) ggL_law_X7_sum
set_option maxRecDepth 20000 in
theorem ggL_law_X6_name : GoodIn wsL_law wsX6_name := goodIn_r _ [562, 16, 536, 537, 2, 538, 539, 263, 563, 564, 565, 15, 566, 567, 568, 569, 570, 44, 544, 261, 262, 264, 265, 571, 541, 542, 543, 572, 573, 574, 575, 274, 275, 276, 277, 47, 46, 1103, 1104, 1105, 1106, 1107, 1108, 1109, 1110, 1140, 1141, 1142, 1143, 1144, 1145, 1146, 1147, 1148, 1149, 1150, 1151, 1152] (by decide +kernel) (by decide +kernel)
set_option maxRecDepth 20000 in
theorem gL_law_X6_name : GoodIn wsL_law (wsV RL 61 RX6 yX6_name wsX6_name) := goodIn_app (goodIn_of _ (by decide +kernel)) ggL_law_X6_name
set_option maxRecDepth 20000 in
theorem ggL_law_X7_name : GoodIn wsL_law wsX7_name := goodIn_r _ [579, 549, 550, 5, 551, 386, 552, 553, 554, 580, 581, 582, 583, 115, 584, 585, 586, 587, 588, 589, 590, 1111, 1112, 1113, 1114, 1115, 1116, 1117, 1118, 1119, 1120, 1121, 1122, 1123, 1124, 1125, 1126, 1127, 1128, 1129, 1130, 1131, 1132, 1133, 1134, 1135, 1136, 1137, 1138, 1139] (by decide +kernel) (by decide +kernel)
set_option maxRecDepth 20000 in
theorem gL_law_X7_name : GoodIn wsL_law (wsV RL 64 RX7 yX7_name wsX7_name) := goodIn_app (goodIn_of _ (by decide +kernel)) ggL_law_X7_name
set_option maxRecDepth 20000 in
theorem ggL_law_X6_judge : GoodIn wsL_law wsX6_judge := goodIn_r _ [594, 16, 443, 444, 445, 15, 446, 53, 595, 596, 597, 598, 49, 599, 564, 565, 566, 567, 568, 569, 570, 44, 544, 261, 2, 262, 263, 264, 265, 571, 541, 542, 543, 572, 573, 574, 575, 274, 275, 276, 277, 47, 46, 600, 601, 602, 603, 48, 604, 448, 449, 450, 57, 451, 452, 453, 454, 455, 456, 457, 458, 52, 50, 51, 605, 606, 607, 608, 1103, 1104, 1105, 1106, 1107, 1108, 1109, 1110, 1140, 1141, 1142, 1143, 1144, 1145, 1146, 1147, 1148, 1149, 1150, 1151, 1152] (by decide +kernel) (by decide +kernel)
set_option maxRecDepth 20000 in
theorem gL_law_X6_judge : GoodIn wsL_law (wsV RL 65 RX6 yX6_judge wsX6_judge) := goodIn_app (goodIn_of _ (by decide +kernel)) ggL_law_X6_judge
set_option maxRecDepth 20000 in
theorem ggL_law_X7_judge : GoodIn wsL_law wsX7_judge := goodIn_r _ [612, 116, 115, 463, 464, 465, 5, 466, 150, 151, 152, 580, 581, 582, 583, 584, 585, 586, 587, 386, 588, 589, 590, 552, 553, 554, 555, 556, 557, 558, 613, 614, 615, 616, 471, 472, 473, 474, 475, 476, 477, 478, 125, 479, 480, 481, 482, 483, 484, 485, 486, 617, 618, 619, 1111, 1112, 1113, 1114, 1115, 1116, 1117, 1118, 1119, 1120, 1121, 1122, 1123, 1124, 1125, 1126, 1127, 1128, 1129, 1130, 1131, 1132, 1133, 1134, 1135, 1136, 1137, 1138, 1139] (by decide +kernel) (by decide +kernel)
set_option maxRecDepth 20000 in
theorem gL_law_X7_judge : GoodIn wsL_law (wsV RL 68 RX7 yX7_judge wsX7_judge) := goodIn_app (goodIn_of _ (by decide +kernel)) ggL_law_X7_judge
set_option maxRecDepth 20000 in
theorem ggL_law_X6_taker : GoodIn wsL_law wsX6_taker := goodIn_r _ [623, 16, 491, 443, 444, 445, 15, 446, 53, 595, 596, 597, 598, 49, 599, 564, 565, 566, 567, 568, 569, 570, 44, 544, 261, 2, 262, 263, 264, 265, 571, 541, 542, 543, 572, 573, 574, 575, 274, 275, 276, 277, 47, 46, 600, 601, 602, 603, 48, 604, 448, 449, 450, 57, 451, 452, 453, 454, 455, 456, 457, 458, 52, 50, 51, 605, 606, 607, 608, 447, 624, 1103, 1104, 1105, 1106, 1107, 1108, 1109, 1110, 1140, 1141, 1142, 1143, 1144, 1145, 1146, 1147, 1148, 1149, 1150, 1151, 1152] (by decide +kernel) (by decide +kernel)
set_option maxRecDepth 20000 in
theorem gL_law_X6_taker : GoodIn wsL_law (wsV RL 69 RX6 yX6_taker wsX6_taker) := goodIn_app (goodIn_of _ (by decide +kernel)) ggL_law_X6_taker
set_option maxRecDepth 20000 in
theorem ggL_law_X7_taker : GoodIn wsL_law wsX7_taker := goodIn_r _ [628, 463, 464, 465, 5, 466, 115, 150, 151, 152, 629, 610, 611, 612, 116, 580, 581, 582, 583, 584, 585, 586, 587, 386, 588, 589, 590, 552, 553, 554, 555, 556, 557, 558, 613, 614, 615, 616, 471, 472, 473, 474, 475, 476, 477, 478, 125, 479, 480, 481, 482, 483, 484, 485, 486, 617, 618, 619, 1111, 1112, 1113, 1114, 1115, 1116, 1117, 1118, 1119, 1120, 1121, 1122, 1123, 1124, 1125, 1126, 1127, 1128, 1129, 1130, 1131, 1132, 1133, 1134, 1135, 1136, 1137, 1138, 1139] (by decide +kernel) (by decide +kernel)
set_option maxRecDepth 20000 in
theorem gL_law_X7_taker : GoodIn wsL_law (wsV RL 72 RX7 yX7_taker wsX7_taker) := goodIn_app (goodIn_of _ (by decide +kernel)) ggL_law_X7_taker
set_option maxRecDepth 20000 in
theorem ggL_law_X6_names : GoodIn wsL_law wsX6_names := goodIn_r _ [633, 25, 16, 634, 635, 636, 637, 2, 638, 639, 640, 641, 24, 642, 83, 84, 78, 643, 644, 645, 646, 82, 647, 648, 79, 80, 81, 649, 568, 569, 15, 570, 44, 544, 261, 262, 263, 264, 265, 571, 541, 542, 543, 650, 651, 652, 653, 654, 655, 656, 657, 658, 659, 660, 661, 77, 662, 663, 664, 665, 666, 667, 668, 669, 670, 536, 537, 538, 539, 1103, 1104, 1105, 1106, 1107, 1108, 1109, 1110, 1164, 1165, 1166, 1167, 1168, 1169, 1170, 1171, 1140, 1141, 1142, 1143, 1144, 1145, 1146, 1147, 1148, 1149, 1150, 1151, 1152] (by decide +kernel) (by decide +kernel)
set_option maxRecDepth 20000 in
theorem gL_law_X6_names : GoodIn wsL_law (wsV RL 73 RX6 yX6_names wsX6_names) := goodIn_app (goodIn_of _ (by decide +kernel)) ggL_law_X6_names
set_option maxRecDepth 20000 in
theorem ggL_law_X7_names : GoodIn wsL_law wsX7_names := goodIn_r _ [674, 675, 676, 126, 677, 678, 5, 679, 680, 150, 151, 152, 681, 682, 683, 684, 115, 584, 585, 586, 587, 386, 685, 686, 687, 688, 588, 589, 590, 552, 553, 554, 555, 556, 557, 558, 1111, 1112, 1113, 1114, 1115, 1116, 1117, 1118, 1119, 1120, 1121, 1122, 1123, 1124, 1125, 1126, 1127, 1128, 1129, 1130, 1131, 1132, 1133, 1134, 1135, 1136, 1137, 1138, 1139] (by decide +kernel) (by decide +kernel)
set_option maxRecDepth 20000 in
theorem gL_law_X7_names : GoodIn wsL_law (wsV RL 76 RX7 yX7_names wsX7_names) := goodIn_app (goodIn_of _ (by decide +kernel)) ggL_law_X7_names
set_option maxRecDepth 20000 in
theorem ggL_law_X6_which : GoodIn wsL_law wsX6_which := goodIn_r _ [692, 693, 25, 16, 634, 635, 694, 636, 637, 2, 638, 639, 640, 641, 24, 642, 83, 84, 78, 643, 644, 645, 646, 82, 647, 648, 79, 80, 81, 649, 568, 569, 15, 570, 44, 544, 261, 262, 263, 264, 265, 571, 541, 542, 543, 650, 651, 652, 653, 654, 655, 656, 657, 658, 659, 660, 661, 77, 662, 663, 664, 665, 666, 667, 668, 669, 670, 1103, 1104, 1105, 1106, 1107, 1108, 1109, 1110, 1164, 1165, 1166, 1167, 1168, 1169, 1170, 1171, 1140, 1141, 1142, 1143, 1144, 1145, 1146, 1147, 1148, 1149, 1150, 1151, 1152] (by decide +kernel) (by decide +kernel)
set_option maxRecDepth 20000 in
theorem gL_law_X6_which : GoodIn wsL_law (wsV RL 77 RX6 yX6_which wsX6_which) := goodIn_app (goodIn_of _ (by decide +kernel)) ggL_law_X6_which
set_option maxRecDepth 20000 in
theorem ggL_law_X7_which : GoodIn wsL_law wsX7_which := goodIn_r _ [698, 699, 676, 126, 381, 677, 678, 5, 679, 680, 150, 151, 152, 681, 682, 683, 684, 115, 584, 585, 586, 587, 386, 685, 686, 687, 688, 588, 589, 590, 552, 553, 554, 555, 556, 557, 558, 1111, 1112, 1113, 1114, 1115, 1116, 1117, 1118, 1119, 1120, 1121, 1122, 1123, 1124, 1125, 1126, 1127, 1128, 1129, 1130, 1131, 1132, 1133, 1134, 1135, 1136, 1137, 1138, 1139] (by decide +kernel) (by decide +kernel)
set_option maxRecDepth 20000 in
theorem gL_law_X7_which : GoodIn wsL_law (wsV RL 81 RX7 yX7_which wsX7_which) := goodIn_app (goodIn_of _ (by decide +kernel)) ggL_law_X7_which
set_option maxRecDepth 20000 in
theorem ggL_law_X6_free : GoodIn wsL_law wsX6_free := goodIn_r _ [703, 16, 492, 693, 25, 439, 634, 635, 694, 443, 444, 445, 15, 446, 53, 639, 640, 641, 24, 642, 83, 84, 78, 643, 644, 645, 646, 82, 647, 648, 79, 80, 81, 649, 568, 569, 570, 44, 544, 261, 2, 262, 263, 264, 265, 571, 541, 542, 543, 650, 651, 652, 653, 654, 655, 656, 657, 658, 659, 660, 661, 77, 662, 663, 664, 665, 666, 667, 668, 669, 670, 447, 448, 449, 450, 57, 451, 452, 453, 454, 455, 456, 457, 458, 52, 50, 51, 704, 705, 706, 707, 708, 606, 607, 608, 49, 1103, 1104, 1105, 1106, 1107, 1108, 1109, 1110, 1140, 1141, 1142, 1143, 1144, 1145, 1146, 1147, 1148, 1149, 1150, 1151, 1152, 1164, 1165, 1166, 1167, 1168, 1169, 1170, 1171] (by decide +kernel) (by decide +kernel)
set_option maxRecDepth 20000 in
theorem gL_law_X6_free : GoodIn wsL_law (wsV RL 82 RX6 yX6_free wsX6_free) := goodIn_app (goodIn_of _ (by decide +kernel)) ggL_law_X6_free
set_option maxRecDepth 20000 in
theorem ggL_law_X7_free : GoodIn wsL_law wsX7_free := goodIn_r _ [712, 497, 699, 676, 126, 115, 381, 463, 464, 465, 5, 466, 150, 151, 152, 681, 682, 683, 684, 584, 585, 586, 587, 386, 685, 686, 687, 688, 588, 589, 590, 552, 553, 554, 471, 472, 473, 474, 475, 476, 477, 478, 125, 479, 480, 481, 482, 483, 484, 485, 486, 555, 556, 557, 558, 713, 714, 715, 716, 116, 617, 618, 619, 1111, 1112, 1113, 1114, 1115, 1116, 1117, 1118, 1119, 1120, 1121, 1122, 1123, 1124, 1125, 1126, 1127, 1128, 1129, 1130, 1131, 1132, 1133, 1134, 1135, 1136, 1137, 1138, 1139] (by decide +kernel) (by decide +kernel)
set_option maxRecDepth 20000 in
theorem gL_law_X7_free : GoodIn wsL_law (wsV RL 85 RX7 yX7_free wsX7_free) := goodIn_app (goodIn_of _ (by decide +kernel)) ggL_law_X7_free
set_option maxRecDepth 20000 in
theorem ggL_law_X6_hopes : GoodIn wsL_law wsX6_hopes := goodIn_r _ [720, 16, 492, 693, 721, 722, 443, 444, 445, 15, 446, 53, 723, 724, 2, 725, 726, 727, 728, 729, 57, 451, 452, 453, 454, 455, 456, 457, 458, 52, 50, 51, 730, 731, 732, 733, 25, 734, 37, 634, 639, 640, 641, 24, 642, 83, 84, 78, 643, 644, 645, 646, 82, 647, 648, 79, 80, 81, 649, 568, 569, 570, 44, 544, 261, 262, 263, 264, 265, 571, 541, 542, 543, 650, 651, 652, 653, 654, 655, 656, 657, 658, 659, 660, 661, 77, 662, 663, 664, 665, 666, 667, 668, 669, 670, 704, 705, 706, 707, 708, 606, 607, 608, 49, 735, 736, 737, 738, 739, 740, 741, 742, 743, 744, 745, 746, 747, 748, 749, 750, 751, 752, 753, 754, 755, 756, 757, 758, 1103, 1104, 1105, 1106, 1107, 1108, 1109, 1110, 1140, 1141, 1142, 1143, 1144, 1145, 1146, 1147, 1148, 1149, 1150, 1151, 1152, 1164, 1165, 1166, 1167, 1168, 1169, 1170, 1171] (by decide +kernel) (by decide +kernel)
set_option maxRecDepth 20000 in
theorem gL_law_X6_hopes : GoodIn wsL_law (wsV RL 86 RX6 yX6_hopes wsX6_hopes) := goodIn_app (goodIn_of _ (by decide +kernel)) ggL_law_X6_hopes
set_option maxRecDepth 20000 in
theorem ggL_law_X7_hopes : GoodIn wsL_law wsX7_hopes := goodIn_r _ [762, 497, 699, 115, 127, 676, 126, 763, 463, 464, 465, 5, 466, 150, 151, 152, 475, 476, 477, 478, 125, 479, 480, 481, 482, 483, 484, 485, 486, 681, 682, 683, 684, 584, 585, 586, 587, 386, 685, 686, 687, 688, 588, 589, 590, 552, 553, 554, 555, 556, 557, 558, 713, 714, 715, 716, 116, 617, 618, 619, 764, 765, 766, 767, 768, 769, 770, 1111, 1112, 1113, 1114, 1115, 1116, 1117, 1118, 1119, 1120, 1121, 1122, 1123, 1124, 1125, 1126, 1127, 1128, 1129, 1130, 1131, 1132, 1133, 1134, 1135, 1136, 1137, 1138, 1139] (by decide +kernel) (by decide +kernel)
set_option maxRecDepth 20000 in
theorem gL_law_X7_hopes : GoodIn wsL_law (wsV RL 90 RX7 yX7_hopes wsX7_hopes) := goodIn_app (goodIn_of _ (by decide +kernel)) ggL_law_X7_hopes
set_option maxRecDepth 20000 in
theorem ggL_law_X6_without : GoodIn wsL_law wsX6_without := goodIn_r _ [774, 29, 16, 775, 776, 2, 777, 636, 637, 638, 723, 724, 725, 778, 779, 780, 28, 781, 88, 782, 783, 784, 568, 569, 15, 570, 44, 544, 261, 262, 263, 264, 265, 571, 541, 542, 543, 785, 786, 787, 788, 789, 790, 757, 791, 792, 793, 794, 795, 796, 797, 798, 799, 1103, 1104, 1105, 1106, 1107, 1108, 1109, 1110, 1172, 1173, 1140, 1141, 1142, 1143, 1144, 1145, 1146, 1147, 1148, 1149, 1150, 1151, 1152] (by decide +kernel) (by decide +kernel)
set_option maxRecDepth 20000 in
theorem gL_law_X6_without : GoodIn wsL_law (wsV RL 91 RX6 yX6_without wsX6_without) := goodIn_app (goodIn_of _ (by decide +kernel)) ggL_law_X6_without
set_option maxRecDepth 20000 in
theorem ggL_law_X7_without : GoodIn wsL_law wsX7_without := goodIn_r _ [803, 804, 805, 5, 806, 677, 678, 679, 680, 150, 151, 152, 807, 808, 809, 810, 811, 115, 128, 584, 585, 586, 587, 386, 555, 556, 557, 558, 812, 813, 814, 815, 129, 816, 817, 818, 819, 820, 821, 822, 823, 1111, 1112, 1113, 1114, 1115, 1116, 1117, 1118, 1119, 1120, 1121, 1122, 1123, 1124, 1125, 1126, 1127, 1128, 1129, 1130, 1131, 1132, 1133, 1134, 1135, 1136, 1137, 1138, 1139] (by decide +kernel) (by decide +kernel)
set_option maxRecDepth 20000 in
theorem gL_law_X7_without : GoodIn wsL_law (wsV RL 95 RX7 yX7_without wsX7_without) := goodIn_app (goodIn_of _ (by decide +kernel)) ggL_law_X7_without
set_option maxRecDepth 20000 in
theorem ggL_law_X6_mend : GoodIn wsL_law wsX6_mend := goodIn_r _ [827, 693, 29, 16, 828, 829, 775, 776, 2, 777, 636, 637, 638, 778, 779, 780, 28, 781, 88, 782, 783, 784, 568, 569, 15, 570, 44, 544, 261, 262, 263, 264, 265, 571, 541, 542, 543, 785, 786, 787, 788, 789, 790, 757, 791, 796, 797, 798, 799, 830, 831, 832, 833, 90, 834, 835, 836, 837, 838, 839, 840, 841, 842, 843, 1103, 1104, 1105, 1106, 1107, 1108, 1109, 1110, 1140, 1141, 1142, 1143, 1144, 1145, 1146, 1147, 1148, 1149, 1150, 1151, 1152, 1172, 1173] (by decide +kernel) (by decide +kernel)
set_option maxRecDepth 20000 in
theorem gL_law_X6_mend : GoodIn wsL_law (wsV RL 96 RX6 yX6_mend wsX6_mend) := goodIn_app (goodIn_of _ (by decide +kernel)) ggL_law_X6_mend
set_option maxRecDepth 20000 in
theorem ggL_law_X7_mend : GoodIn wsL_law wsX7_mend := goodIn_r _ [847, 699, 115, 848, 811, 849, 128, 381, 804, 805, 5, 806, 677, 678, 679, 680, 150, 151, 152, 807, 808, 809, 810, 584, 585, 586, 587, 386, 555, 556, 557, 558, 812, 813, 814, 815, 129, 816, 817, 818, 819, 820, 821, 822, 823, 549, 550, 551, 552, 553, 554, 850, 851, 852, 853, 1111, 1112, 1113, 1114, 1115, 1116, 1117, 1118, 1119, 1120, 1121, 1122, 1123, 1124, 1125, 1126, 1127, 1128, 1129, 1130, 1131, 1132, 1133, 1134, 1135, 1136, 1137, 1138, 1139] (by decide +kernel) (by decide +kernel)
set_option maxRecDepth 20000 in
theorem gL_law_X7_mend : GoodIn wsL_law (wsV RL 99 RX7 yX7_mend wsX7_mend) := goodIn_app (goodIn_of _ (by decide +kernel)) ggL_law_X7_mend
set_option maxRecDepth 20000 in
theorem ggL_law_X6_old : GoodIn wsL_law wsX6_old := goodIn_r _ [857, 33, 16, 858, 429, 264, 2, 265, 859, 860, 861, 32, 862, 94, 104, 101, 863, 864, 865, 866, 867, 868, 869, 96, 95, 870, 871, 872, 873, 874, 263, 875, 261, 262, 876, 877, 878, 879, 99, 98, 100, 880, 881, 882, 883, 102, 884, 885, 886, 887, 103, 888, 175, 176, 177, 889, 890, 891, 892, 893, 790, 757, 791, 894, 895, 896, 897, 898, 899, 900, 901, 902, 903, 904, 905, 906, 907, 908, 909, 910, 911, 912, 1103, 1104, 1105, 1106, 1107, 1108, 1109, 1110, 1174, 1175, 1176, 1177, 1178, 1179, 1180, 1181, 1182, 1183, 1140, 1141, 1142, 1143, 1144, 1145, 1146, 1147, 1148, 1149, 1150, 1151, 1152] (by decide +kernel) (by decide +kernel)
set_option maxRecDepth 20000 in
theorem gL_law_X6_old : GoodIn wsL_law (wsV RL 100 RX6 yX6_old wsX6_old) := goodIn_app (goodIn_of _ (by decide +kernel)) ggL_law_X6_old
set_option maxRecDepth 20000 in
theorem ggL_law_X7_old : GoodIn wsL_law wsX7_old := goodIn_r _ [916, 434, 675, 917, 130, 131, 150, 151, 5, 152, 918, 919, 920, 921, 115, 116, 386, 617, 618, 619, 922, 923, 924, 925, 926, 927, 928, 929, 1111, 1112, 1113, 1114, 1115, 1116, 1117, 1118, 1119, 1120, 1121, 1122, 1123, 1124, 1125, 1126, 1127, 1128, 1129, 1130, 1131, 1132, 1133, 1134, 1135, 1136, 1137, 1138, 1139] (by decide +kernel) (by decide +kernel)
set_option maxRecDepth 20000 in
theorem gL_law_X7_old : GoodIn wsL_law (wsV RL 103 RX7 yX7_old wsX7_old) := goodIn_app (goodIn_of _ (by decide +kernel)) ggL_law_X7_old
set_option maxRecDepth 20000 in
theorem ggL_law_X6_reform : GoodIn wsL_law wsX6_reform := goodIn_r _ [933, 16, 491, 443, 444, 445, 15, 446, 53, 934, 935, 936, 2, 937, 938, 939, 940, 941, 428, 439, 942, 873, 874, 263, 875, 261, 262, 540, 541, 542, 543, 44, 544, 264, 265, 943, 944, 945, 946, 947, 948, 601, 602, 603, 49, 48, 571, 1103, 1104, 1105, 1106, 1107, 1108, 1109, 1110, 1140, 1141, 1142, 1143, 1144, 1145, 1146, 1147, 1148, 1149, 1150, 1151, 1152] (by decide +kernel) (by decide +kernel)
set_option maxRecDepth 20000 in
theorem gL_law_X6_reform : GoodIn wsL_law (wsV RL 104 RX6 yX6_reform wsX6_reform) := goodIn_app (goodIn_of _ (by decide +kernel)) ggL_law_X6_reform
set_option maxRecDepth 20000 in
theorem ggL_law_X7_reform : GoodIn wsL_law wsX7_reform := goodIn_r _ [952, 953, 116, 115, 463, 464, 465, 5, 466, 150, 151, 152, 555, 556, 557, 558, 386, 954, 955, 956, 957, 958, 959, 960, 1111, 1112, 1113, 1114, 1115, 1116, 1117, 1118, 1119, 1120, 1121, 1122, 1123, 1124, 1125, 1126, 1127, 1128, 1129, 1130, 1131, 1132, 1133, 1134, 1135, 1136, 1137, 1138, 1139] (by decide +kernel) (by decide +kernel)
set_option maxRecDepth 20000 in
theorem gL_law_X7_reform : GoodIn wsL_law (wsV RL 107 RX7 yX7_reform wsX7_reform) := goodIn_app (goodIn_of _ (by decide +kernel)) ggL_law_X7_reform
set_option maxRecDepth 20000 in
theorem ggL_law_X6_nicknames : GoodIn wsL_law wsX6_nicknames := goodIn_r _ [964, 16, 492, 693, 491, 829, 25, 439, 634, 635, 694, 443, 444, 445, 15, 446, 53, 723, 724, 2, 725, 639, 640, 641, 24, 642, 83, 84, 78, 643, 644, 645, 646, 82, 647, 648, 79, 80, 81, 649, 568, 569, 570, 44, 544, 261, 262, 263, 264, 265, 571, 541, 542, 543, 650, 651, 652, 653, 654, 655, 656, 657, 658, 659, 660, 661, 77, 662, 663, 664, 665, 666, 667, 668, 669, 670, 965, 966, 967, 968, 969, 970, 875, 1103, 1104, 1105, 1106, 1107, 1108, 1109, 1110, 1140, 1141, 1142, 1143, 1144, 1145, 1146, 1147, 1148, 1149, 1150, 1151, 1152, 1164, 1165, 1166, 1167, 1168, 1169, 1170, 1171] (by decide +kernel) (by decide +kernel)
set_option maxRecDepth 20000 in
theorem gL_law_X6_nicknames : GoodIn wsL_law (wsV RL 108 RX6 yX6_nicknames wsX6_nicknames) := goodIn_app (goodIn_of _ (by decide +kernel)) ggL_law_X6_nicknames
set_option maxRecDepth 20000 in
theorem ggL_law_X7_nicknames : GoodIn wsL_law wsX7_nicknames := goodIn_r _ [974, 497, 699, 116, 848, 381, 386, 132, 115, 463, 464, 465, 5, 466, 150, 151, 152, 552, 553, 554, 617, 618, 619, 580, 581, 582, 583, 584, 585, 586, 587, 588, 589, 590, 555, 556, 557, 558, 1111, 1112, 1113, 1114, 1115, 1116, 1117, 1118, 1119, 1120, 1121, 1122, 1123, 1124, 1125, 1126, 1127, 1128, 1129, 1130, 1131, 1132, 1133, 1134, 1135, 1136, 1137, 1138, 1139] (by decide +kernel) (by decide +kernel)
set_option maxRecDepth 20000 in
theorem gL_law_X7_nicknames : GoodIn wsL_law (wsV RL 111 RX7 yX7_nicknames wsX7_nicknames) := goodIn_app (goodIn_of _ (by decide +kernel)) ggL_law_X7_nicknames
set_option maxRecDepth 20000 in
theorem ggL_law_X6_page : GoodIn wsL_law wsX6_page := goodIn_r _ [978, 16, 947, 491, 723, 724, 2, 725, 624, 606, 607, 15, 608, 53, 49, 979, 980, 981, 982, 571, 541, 542, 543, 44, 544, 261, 262, 263, 264, 265, 983, 984, 985, 986, 987, 988, 989, 990, 1103, 1104, 1105, 1106, 1107, 1108, 1109, 1110, 1140, 1141, 1142, 1143, 1144, 1145, 1146, 1147, 1148, 1149, 1150, 1151, 1152] (by decide +kernel) (by decide +kernel)
set_option maxRecDepth 20000 in
theorem gL_law_X6_page : GoodIn wsL_law (wsV RL 112 RX6 yX6_page wsX6_page) := goodIn_app (goodIn_of _ (by decide +kernel)) ggL_law_X6_page
set_option maxRecDepth 20000 in
theorem ggL_law_X7_page : GoodIn wsL_law wsX7_page := goodIn_r _ [994, 115, 995, 116, 386, 150, 151, 5, 152, 617, 618, 619, 555, 556, 557, 558, 1111, 1112, 1113, 1114, 1115, 1116, 1117, 1118, 1119, 1120, 1121, 1122, 1123, 1124, 1125, 1126, 1127, 1128, 1129, 1130, 1131, 1132, 1133, 1134, 1135, 1136, 1137, 1138, 1139] (by decide +kernel) (by decide +kernel)
set_option maxRecDepth 20000 in
theorem gL_law_X7_page : GoodIn wsL_law (wsV RL 115 RX7 yX7_page wsX7_page) := goodIn_app (goodIn_of _ (by decide +kernel)) ggL_law_X7_page
set_option maxRecDepth 20000 in
theorem ggL_law_X6_sheet : GoodIn wsL_law wsX6_sheet := goodIn_r _ [999, 35, 1000, 1001, 2, 1002, 1003, 1004, 1005, 1006, 1007, 1008, 39, 1009, 109, 110, 108, 1103, 1104, 1105, 1106, 1107, 1108, 1109, 1110, 1184, 1185, 1186] (by decide +kernel) (by decide +kernel)
set_option maxRecDepth 20000 in
theorem gL_law_X6_sheet : GoodIn wsL_law (wsV RL 116 RX6 yX6_sheet wsX6_sheet) := goodIn_app (goodIn_of _ (by decide +kernel)) ggL_law_X6_sheet
set_option maxRecDepth 20000 in
theorem ggL_law_X7_sheet : GoodIn wsL_law wsX7_sheet := goodIn_r _ [1013, 953, 121, 122, 123, 1014, 1015, 5, 1016, 150, 151, 152, 1111, 1112, 1113, 1114, 1115, 1116, 1117, 1118, 1119, 1120, 1121, 1122, 1123, 1124, 1125, 1126, 1127, 1128, 1129, 1130, 1131, 1132, 1133, 1134, 1135, 1136, 1137, 1138, 1139] (by decide +kernel) (by decide +kernel)
set_option maxRecDepth 20000 in
theorem gL_law_X7_sheet : GoodIn wsL_law (wsV RL 119 RX7 yX7_sheet wsX7_sheet) := goodIn_app (goodIn_of _ (by decide +kernel)) ggL_law_X7_sheet
set_option maxRecDepth 20000 in
theorem ggL_law_X6_tear : GoodIn wsL_law wsX6_tear := goodIn_r _ [1020, 35, 1021, 1000, 1001, 2, 1002, 1103, 1104, 1105, 1106, 1107, 1108, 1109, 1110, 1184, 1185, 1186] (by decide +kernel) (by decide +kernel)
set_option maxRecDepth 20000 in
theorem gL_law_X6_tear : GoodIn wsL_law (wsV RL 120 RX6 yX6_tear wsX6_tear) := goodIn_app (goodIn_of _ (by decide +kernel)) ggL_law_X6_tear
set_option maxRecDepth 20000 in
theorem ggL_law_X7_tear : GoodIn wsL_law wsX7_tear := goodIn_r _ [1025, 121, 1014, 1015, 5, 1016, 953, 150, 151, 152, 1111, 1112, 1113, 1114, 1115, 1116, 1117, 1118, 1119, 1120, 1121, 1122, 1123, 1124, 1125, 1126, 1127, 1128, 1129, 1130, 1131, 1132, 1133, 1134, 1135, 1136, 1137, 1138, 1139] (by decide +kernel) (by decide +kernel)
set_option maxRecDepth 20000 in
theorem gL_law_X7_tear : GoodIn wsL_law (wsV RL 123 RX7 yX7_tear wsX7_tear) := goodIn_app (goodIn_of _ (by decide +kernel)) ggL_law_X7_tear
set_option maxRecDepth 20000 in
theorem ggL_law_X6_lay : GoodIn wsL_law wsX6_lay := goodIn_r _ [1029, 35, 1000, 1001, 2, 1002, 1030, 1031, 1032, 39, 1033, 110, 1034, 1035, 1036, 1037, 1038, 1039, 1040, 1041, 109, 108, 1103, 1104, 1105, 1106, 1107, 1108, 1109, 1110, 1184, 1185, 1186] (by decide +kernel) (by decide +kernel)
set_option maxRecDepth 20000 in
theorem gL_law_X6_lay : GoodIn wsL_law (wsV RL 124 RX6 yX6_lay wsX6_lay) := goodIn_app (goodIn_of _ (by decide +kernel)) ggL_law_X6_lay
set_option maxRecDepth 20000 in
theorem ggL_law_X7_lay : GoodIn wsL_law wsX7_lay := goodIn_r _ [1045, 121, 122, 123, 1014, 1015, 5, 1016, 953, 150, 151, 152, 1111, 1112, 1113, 1114, 1115, 1116, 1117, 1118, 1119, 1120, 1121, 1122, 1123, 1124, 1125, 1126, 1127, 1128, 1129, 1130, 1131, 1132, 1133, 1134, 1135, 1136, 1137, 1138, 1139] (by decide +kernel) (by decide +kernel)
set_option maxRecDepth 20000 in
theorem gL_law_X7_lay : GoodIn wsL_law (wsV RL 127 RX7 yX7_lay wsX7_lay) := goodIn_app (goodIn_of _ (by decide +kernel)) ggL_law_X7_lay
set_option maxRecDepth 20000 in
theorem ggL_law_X6_copy : GoodIn wsL_law wsX6_copy := goodIn_r _ [1049, 35, 1050, 1051, 1052, 175, 176, 177, 1000, 1001, 2, 1002, 1030, 1031, 1032, 39, 1033, 110, 1034, 1035, 1036, 1037, 1103, 1104, 1105, 1106, 1107, 1108, 1109, 1110, 1184, 1185, 1186] (by decide +kernel) (by decide +kernel)
set_option maxRecDepth 20000 in
theorem gL_law_X6_copy : GoodIn wsL_law (wsV RL 128 RX6 yX6_copy wsX6_copy) := goodIn_app (goodIn_of _ (by decide +kernel)) ggL_law_X6_copy
set_option maxRecDepth 20000 in
theorem ggL_law_X7_copy : GoodIn wsL_law wsX7_copy := goodIn_r _ [1056, 121, 122, 123, 1014, 1015, 5, 1016, 953, 150, 151, 152, 1111, 1112, 1113, 1114, 1115, 1116, 1117, 1118, 1119, 1120, 1121, 1122, 1123, 1124, 1125, 1126, 1127, 1128, 1129, 1130, 1131, 1132, 1133, 1134, 1135, 1136, 1137, 1138, 1139] (by decide +kernel) (by decide +kernel)
set_option maxRecDepth 20000 in
theorem gL_law_X7_copy : GoodIn wsL_law (wsV RL 132 RX7 yX7_copy wsX7_copy) := goodIn_app (goodIn_of _ (by decide +kernel)) ggL_law_X7_copy
set_option maxRecDepth 20000 in
theorem ggL_law_X6_hope : GoodIn wsL_law wsX6_hope := goodIn_r _ [1060, 35, 1050, 16, 721, 1051, 1000, 1001, 2, 1002, 1003, 1004, 1005, 1030, 1031, 1032, 39, 1033, 110, 1034, 1035, 1036, 1037, 1061, 1062, 1063, 1064, 108, 637, 638, 1065, 318, 319, 15, 320, 56, 54, 55, 1103, 1104, 1105, 1106, 1107, 1108, 1109, 1110, 1184, 1185, 1186, 1140, 1141, 1142, 1143, 1144, 1145, 1146, 1147, 1148, 1149, 1150, 1151, 1152] (by decide +kernel) (by decide +kernel)
set_option maxRecDepth 20000 in
theorem gL_law_X6_hope : GoodIn wsL_law (wsV RL 133 RX6 yX6_hope wsX6_hope) := goodIn_app (goodIn_of _ (by decide +kernel)) ggL_law_X6_hope
set_option maxRecDepth 20000 in
theorem ggL_law_X7_hope : GoodIn wsL_law wsX7_hope := goodIn_r _ [1069, 953, 1070, 763, 121, 122, 123, 115, 1014, 1015, 5, 1016, 150, 151, 152, 677, 678, 679, 680, 420, 421, 422, 423, 1111, 1112, 1113, 1114, 1115, 1116, 1117, 1118, 1119, 1120, 1121, 1122, 1123, 1124, 1125, 1126, 1127, 1128, 1129, 1130, 1131, 1132, 1133, 1134, 1135, 1136, 1137, 1138, 1139] (by decide +kernel) (by decide +kernel)
set_option maxRecDepth 20000 in
theorem gL_law_X7_hope : GoodIn wsL_law (wsV RL 136 RX7 yX7_hope wsX7_hope) := goodIn_app (goodIn_of _ (by decide +kernel)) ggL_law_X7_hope
set_option maxRecDepth 20000 in
theorem ggL_law_X6_keep : GoodIn wsL_law wsX6_keep := goodIn_r _ [1074, 17, 13, 14, 15, 16, 947, 1075, 1076, 2, 1077, 40, 41, 42, 43, 11, 12, 36, 44, 45, 46, 47, 48, 49, 50, 51, 52, 53, 54, 55, 56, 57, 406, 171, 172, 173, 174, 175, 176, 177, 1103, 1104, 1105, 1106, 1107, 1108, 1109, 1110, 1140, 1141, 1142, 1143, 1144, 1145, 1146, 1147, 1148, 1149, 1150, 1151, 1152] (by decide +kernel) (by decide +kernel)
set_option maxRecDepth 20000 in
theorem gL_law_X6_keep : GoodIn wsL_law (wsV RL 137 RX6 yX6_keep wsX6_keep) := goodIn_app (goodIn_of _ (by decide +kernel)) ggL_law_X6_keep
set_option maxRecDepth 20000 in
theorem ggL_law_X7_keep : GoodIn wsL_law wsX7_keep := goodIn_r _ [1081, 117, 115, 150, 151, 5, 152, 1082, 1083, 1084, 1085, 116, 1111, 1112, 1113, 1114, 1115, 1116, 1117, 1118, 1119, 1120, 1121, 1122, 1123, 1124, 1125, 1126, 1127, 1128, 1129, 1130, 1131, 1132, 1133, 1134, 1135, 1136, 1137, 1138, 1139] (by decide +kernel) (by decide +kernel)
set_option maxRecDepth 20000 in
theorem gL_law_X7_keep : GoodIn wsL_law (wsV RL 140 RX7 yX7_keep wsX7_keep) := goodIn_app (goodIn_of _ (by decide +kernel)) ggL_law_X7_keep
set_option maxRecDepth 20000 in
theorem ggL_law_X6_back : GoodIn wsL_law wsX6_back := goodIn_r _ [1089, 17, 16, 947, 1075, 1076, 2, 1077, 406, 171, 172, 15, 173, 44, 174, 175, 176, 177, 46, 47, 48, 49, 50, 51, 52, 53, 54, 55, 56, 57, 1103, 1104, 1105, 1106, 1107, 1108, 1109, 1110, 1140, 1141, 1142, 1143, 1144, 1145, 1146, 1147, 1148, 1149, 1150, 1151, 1152] (by decide +kernel) (by decide +kernel)
set_option maxRecDepth 20000 in
theorem gL_law_X6_back : GoodIn wsL_law (wsV RL 141 RX6 yX6_back wsX6_back) := goodIn_app (goodIn_of _ (by decide +kernel)) ggL_law_X6_back
set_option maxRecDepth 20000 in
theorem ggL_law_X7_back : GoodIn wsL_law wsX7_back := goodIn_r _ [1093, 117, 115, 150, 151, 5, 152, 1082, 1083, 1084, 1085, 116, 1111, 1112, 1113, 1114, 1115, 1116, 1117, 1118, 1119, 1120, 1121, 1122, 1123, 1124, 1125, 1126, 1127, 1128, 1129, 1130, 1131, 1132, 1133, 1134, 1135, 1136, 1137, 1138, 1139] (by decide +kernel) (by decide +kernel)
set_option maxRecDepth 20000 in
theorem gL_law_X7_back : GoodIn wsL_law (wsV RL 144 RX7 yX7_back wsX7_back) := goodIn_app (goodIn_of _ (by decide +kernel)) ggL_law_X7_back
set_option maxRecDepth 20000 in
theorem ggL_law_X6_count : GoodIn wsL_law wsX6_count := goodIn_r _ [1097, 16, 947, 828, 721, 1098, 21, 137, 35, 1021, 1103, 1104, 1105, 1106, 1107, 1108, 1109, 1110, 1140, 1141, 1142, 1143, 1144, 1145, 1146, 1147, 1148, 1149, 1150, 1151, 1152, 1153, 1154, 1155, 1156, 1157, 1158, 1159, 1160, 1161, 1162, 1163, 1184, 1185, 1186] (by decide +kernel) (by decide +kernel)
set_option maxRecDepth 20000 in
theorem gL_law_X6_count : GoodIn wsL_law (wsV RL 145 RX6 yX6_count wsX6_count) := goodIn_app (goodIn_of _ (by decide +kernel)) ggL_law_X6_count
set_option maxRecDepth 20000 in
theorem ggL_law_X7_count : GoodIn wsL_law wsX7_count := goodIn_r _ [1102, 115, 148, 121, 122, 1111, 1112, 1113, 1114, 1115, 1116, 1117, 1118, 1119, 1120, 1121, 1122, 1123, 1124, 1125, 1126, 1127, 1128, 1129, 1130, 1131, 1132, 1133, 1134, 1135, 1136, 1137, 1138, 1139] (by decide +kernel) (by decide +kernel)
set_option maxRecDepth 20000 in
theorem gL_law_X7_count : GoodIn wsL_law (wsV RL 148 RX7 yX7_count wsX7_count) := goodIn_app (goodIn_of _ (by decide +kernel)) ggL_law_X7_count
abbrev vwCl : List vw_C := [(RX0, TX0, 8), (RX1, TX1, 10), (RX2, TX2, 2), (RX3, TX3, 11), (RX4, TX4, 3), (RX5, TX5, 13), (RX6, TX6, 8), (RX7, TX7, 29)]
