/-! ===== what a constructor does ===== -/
abbrev zMC (l : Launch) (D : va_G) (c : Nat → ClassId) (y : MethodName) (cc : ByteArray) (maxL : Nat) (rm : Room) (b : Nat) (wc : va_W) (B : (Nat → Nat → Nat) → va_W) (mc ms : Nat) : Prop := ∀ sz : Nat, Met l y (zW y cc maxL none) rm (va_Pc [.ref b] (zPreW D c wc sz)) (va_Qv (fun _ : Nat → Nat → Nat => True) (fun u t => va_P D vwCl (B u) t.heap ∧ va_D (va_A wc sz) (B u)) (va_A wc sz)) mc ms (va_A wc sz)
def zMK (y : MethodName) (cc : ByteArray) (maxL : Nat) (n : Nat) : Prop := (Cond.instanceMethod y ∈ zT ∧ Cond.initialized y.cls ∈ zT ∧ Cond.code y cc maxL none ∈ zT) ∧ zMD y n ∧ y.name = "<init>"
theorem zmapsome (w : va_W) (x : Nat × va_E) : (List.range w.length).map (fun i => (w ++ [x])[i]?) = w.map some := by
  apply List.ext_getElem?
  intro i
  by_cases h : i < w.length
  · rw [List.getElem?_map, List.getElem?_range h, List.getElem?_map]
    simp [List.getElem?_append_left h, List.getElem?_eq_getElem h]
  · rw [List.getElem?_map, List.getElem?_map, List.getElem?_eq_none (by simp; omega), List.getElem?_eq_none (by omega)]
    rfl
theorem zndr (n : Nat) : va_nd (List.range n) = true := by
  have h : ∀ (l : List Nat), l.Nodup → va_nd l = true := by
    intro l
    induction l with
    | nil => intro _; rfl
    | cons a t ih =>
      intro h
      have h2 := List.nodup_cons.mp h
      show (decide (a ∉ t) && va_nd t) = true
      rw [ih h2.2]
      simp [h2.1]
  exact h _ List.nodup_range
theorem zs0 {A A' B : va_W} {k : Nat} {x y : Nat × va_E} (hA : A[k]? = some y) (h : A.set k x = A') : (A ++ B).set k x = A' ++ B := zsl (List.getElem?_eq_some_iff.mp hA).1 h
theorem zsheets (a b d : Nat) : va_up (va_up (va_up (fun _ => none) (0 : Int32).toNatClampNeg (some a)) (1 : Int32).toNatClampNeg (some b)) (2 : Int32).toNatClampNeg (some d) = (fun i => if i < 3 then some ([a, b, d].getD i 0) else none) := by
  funext i
  match i with
  | 0 => rfl
  | 1 => rfl
  | 2 => rfl
  | k + 3 =>
    rw [if_neg (by omega)]
    unfold va_up
    rw [if_neg (by show ¬ k + 3 = 2; omega), if_neg (by show ¬ k + 3 = 1; omega), if_neg (by show ¬ k + 3 = 0; omega)]
/-! ===== an array of sixteen rows of five ints: the heap behind it in a closed form ===== -/
abbrev zgO (cA : ClassId) (h i : Nat) : Cell := arrV cA 16 (fun j => va_rf (if j < i then some (h + 1 + j) else none))
abbrev zgR (ci : ClassId) : Cell := arrV ci 5 (fun _ => .int 0)
/-- 'H', the outer array with its first i places laid, and these i rows -/
def zgA (H : Heap) (cA ci : ClassId) (i : Nat) : Heap := H.push (zgO cA H.size i) ++ Array.replicate i (zgR ci)
/-- 'T' with another heap and another count of slots -/
def zgW (T : State) (H : Heap) (n : Nat) : State := { T with heap := H, slotsUsed := n }
def zgT (T : State) (cA ci : ClassId) (i : Nat) : State := zgW T (zgA T.heap cA ci i) (T.slotsUsed + (16 + 5 * i))
theorem zgO_lay (cA : ClassId) (h i : Nat) : (zgO cA h i).setSlot i (.ref (h + 1 + i)) = zgO cA h (i + 1) := by
  rw [arrV_store]
  refine congrArg (arrV cA 16) (funext fun j => ?_)
  rcases Nat.lt_trichotomy j i with q | q | q
  · simp only [updV, if_neg (Nat.ne_of_lt q), if_pos q, if_pos (Nat.lt_succ_of_lt q)]
  · subst q
    simp only [updV, if_pos (Nat.lt_succ_self j), if_true, va_rf]
  · simp only [updV, if_neg (Nat.ne_of_gt q), if_neg (Nat.lt_asymm q), if_neg (show ¬ j < i + 1 by omega)]
theorem zgO_none (cA : ClassId) (h : Nat) : ({ cls := cA, slots := Array.replicate 16 Value.null, vm := .none } : Cell) = zgO cA h 0 := by
  rw [arrV_new]
  refine congrArg (arrV cA 16) (funext fun j => ?_)
  rw [if_neg (Nat.not_lt_zero j)]
  rfl
section ZGA
variable (H : Heap) (cA ci : ClassId) (i : Nat)
theorem zgA_size : (zgA H cA ci i).size = H.size + (1 + i) := by
  simp only [zgA, Array.size_append, Array.size_push, Array.size_replicate]
  omega
theorem zgA_old {q : Nat} (hq : q < H.size) : (zgA H cA ci i)[q]? = H[q]? := by
  rw [zgA, Array.getElem?_append_left (by rw [Array.size_push]; omega), Array.getElem?_push, if_neg (Nat.ne_of_lt hq)]
theorem zgA_out : (zgA H cA ci i)[H.size]? = some (zgO cA H.size i) := by
  rw [zgA, Array.getElem?_append_left (by rw [Array.size_push]; omega), Array.getElem?_push, if_pos rfl]
theorem zgA_row {j : Nat} (hj : j < i) : (zgA H cA ci i)[H.size + 1 + j]? = some (zgR ci) := by
  rw [zgA, Array.getElem?_append_right (by rw [Array.size_push]; omega), Array.size_push, Nat.add_sub_cancel_left, Array.getElem?_replicate, if_pos hj]
theorem zgA_more : ((zgA H cA ci i).push (zgR ci)).setIfInBounds H.size (zgO cA H.size (i + 1)) = zgA H cA ci (i + 1) := by
  have h1 : (H.push (zgO cA H.size i)).setIfInBounds H.size (zgO cA H.size (i + 1)) = H.push (zgO cA H.size (i + 1)) := by
    apply Array.ext_getElem?
    intro q
    rw [Array.getElem?_setIfInBounds, Array.getElem?_push, Array.getElem?_push, Array.size_push, if_pos (Nat.lt_succ_self _)]
    by_cases c : H.size = q
    · rw [if_pos c, if_pos c.symm]
    · rw [if_neg c, if_neg (Ne.symm c), if_neg (Ne.symm c)]
  rw [zgA, Array.push_append, Array.setIfInBounds_append_left (by rw [Array.size_push]; omega), h1, ← Array.replicate_succ]
  rfl
end ZGA
theorem zgT_start (T : State) (cA ci : ClassId) : T.pushCell (zgO cA T.heap.size 0) = zgT T cA ci 0 := by
  have h : T.heap.push (zgO cA T.heap.size 0) = zgA T.heap cA ci 0 := by
    rw [zgA, Array.replicate_zero, Array.append_empty]
  show zgW T (T.heap.push (zgO cA T.heap.size 0)) (T.slotsUsed + (zgO cA T.heap.size 0).slots.size) = _
  rw [h, arrV_size]
  rfl
theorem zgT_more (T : State) (cA ci : ClassId) (i : Nat) : ((zgT T cA ci i).pushCell (zgR ci)).setCell T.heap.size ((zgO cA T.heap.size i).setSlot i (.ref (T.heap.size + 1 + i))) = zgT T cA ci (i + 1) := by
  rw [zgO_lay]
  show zgW T (((zgA T.heap cA ci i).push (zgR ci)).setIfInBounds T.heap.size (zgO cA T.heap.size (i + 1))) (T.slotsUsed + (16 + 5 * i) + (zgR ci).slots.size) = zgW T (zgA T.heap cA ci (i + 1)) (T.slotsUsed + (16 + 5 * (i + 1)))
  rw [zgA_more, arrV_size, show T.slotsUsed + (16 + 5 * i) + 5 = T.slotsUsed + (16 + 5 * (i + 1)) by omega]
theorem zgT_top (T : State) (f : JFrame) (cA ci : ClassId) (i : Nat) : zgT (T.setTop f) cA ci i = (zgT T cA ci i).setTop f := rfl
theorem zgT_j (T : State) (cA ci : ClassId) (i : Nat) : (zgT T cA ci i).topJava? = T.topJava? := rfl
section ZGP
variable {E : CtlPost} {e : Env}
/-- a counted loop whose states are known one by one -/
theorem zg_for {f : Nat → PUnit → Sem (ForInStep PUnit)} (S : Nat → State) {N : Nat} {Q : PUnit → Pre} (hs : ∀ (i : Nat) (d : Bool) (acts : List Action) (Q' : ForInStep PUnit → Pre), i < N → (∀ d' acts', Q' (.yield PUnit.unit) d' acts' (S (i + 1))) → wp (f i PUnit.unit) Q' E e d acts (S i)) (hq : ∀ d' acts', Q PUnit.unit d' acts' (S N)) : ∀ (n i : Nat) (d : Bool) (acts : List Action), i + n = N → wp (forIn (List.range' i n) PUnit.unit f) Q E e d acts (S i)
  | 0, i, d, acts, h => by
    have e1 : i = N := h
    subst e1
    exact hq d acts
  | n + 1, i, d, acts, h => by
    rw [List.range'_succ, List.forIn_cons, wp_bind']
    exact hs i d acts _ (by omega) (fun d' acts' => zg_for S hs hq n (i + 1) d' acts' (by omega))
variable {d : Bool} {acts : List Action}
theorem zg_five {u : State} {ci cc : ClassId} {k0 : Class} (hk : u.vm.classes[ci]? = some k0) (hkind : k0.kind = .array cc .int) (hl : e.platform.arrayLengthLimit = 2147483645) (hh : e.platform.maxHeapBytes = 536870912) (h1 : u.heap.size + 1 ≤ e.platform.maxCells) (h2 : u.slotsUsed + 5 ≤ e.platform.maxSlots) {Q : Addr → Pre} (hq : ∀ acts', Q u.heap.size d acts' (u.pushCell (zgR ci))) : wp (multianewarray.make ci [5]) Q E e d acts u := by
  have h : wp (Jvm.newArray ci 5 (.int 0)) Q E e d acts u := W.newArray_of hk hkind (by rw [hl]; decide) (by rw [hh]; decide) h1 h2 rfl (fun acts' => by rw [arrV_new]; exact hq acts')
  rw [multianewarray.make, W.ite, if_neg (show ¬ (5 : Int32) < 0 by decide)]
  dsimp only
  rw [wp_bind', W.theClass]
  refine ⟨k0, hk, ?_⟩
  rw [hkind]
  exact h
theorem zg_make {T : State} {cA ci cc : ClassId} {kA k0 : Class} (hkA : T.vm.classes[cA]? = some kA) (hkindA : kA.kind = .array ci (.array .int)) (hk0 : T.vm.classes[ci]? = some k0) (hkind0 : k0.kind = .array cc .int) (hl : e.platform.arrayLengthLimit = 2147483645) (hh : e.platform.maxHeapBytes = 536870912) (h1 : T.heap.size + 17 ≤ e.platform.maxCells) (h2 : T.slotsUsed + 96 ≤ e.platform.maxSlots) {Q : Addr → Pre} (hq : ∀ d' acts', Q T.heap.size d' acts' (zgT T cA ci 16)) : wp (multianewarray.make cA [16, 5]) Q E e d acts T := by
  rw [multianewarray.make, W.ite, if_neg (show ¬ (16 : Int32) < 0 by decide)]
  dsimp only
  rw [wp_bind', W.theClass]
  refine ⟨kA, hkA, ?_⟩
  rw [hkindA]
  dsimp only
  rw [wp_bind']
  refine W.newArray_of (howMany := 16) hkA hkindA (by rw [hl]; decide) (by rw [hh]; decide) (by omega) (by omega) rfl (fun acts' => ?_)
  rw [zgO_none cA T.heap.size, zgT_start T cA ci]
  rw [W.ite, if_neg (by decide), wp_bind', Std.Legacy.Range.forIn_eq_forIn_range']
  refine zg_for (N := 16) (zgT T cA ci) (fun i d2 acts2 Q' hi hn => ?_) (fun d2 acts2 => hq d2 acts2) 16 0 d acts' rfl
  rw [wp_bind']
  have hz : (zgT T cA ci i).heap.size = T.heap.size + (1 + i) := zgA_size T.heap cA ci i
  have hu : (zgT T cA ci i).slotsUsed = T.slotsUsed + (16 + 5 * i) := rfl
  refine zg_five (u := zgT T cA ci i) hk0 hkind0 hl hh (by omega) (by omega) (fun acts3 => ?_)
  rw [wp_bind', W.writeLoc]
  have hr : T.heap.size < (zgT T cA ci i).heap.size := by omega
  refine ⟨zgO cA T.heap.size i, (State.heap_pushCell_of_lt _ _ hr).trans (zgA_out T.heap cA ci i), nofun, by rw [arrV_size]; exact hi, ?_, ?_⟩
  · have hv : (zgT T cA ci i).vm = T.vm := rfl
    simp [State.fitsSlot, State.slotType?, arrV, hv, hkA, hkindA, fits]
  · rw [wp_pure', hz, ← Nat.add_assoc, zgT_more]
    exact hn _ _
theorem zg_sem {T : State} {g : JFrame} (ht : T.topJava?.isSome) {vm1 : Vm} {index : Nat} {cA ci cc : ClassId} {kA k0 : Class} {rest : List Value} (hr : (Jvm.resolveClass g.method.cls index).Gives e.toSetting T.vm (.ok cA) vm1) (hn : vm1.classes.size = T.vm.classes.size) (hkA : vm1.classes[cA]? = some kA) (hkindA : kA.kind = .array ci (.array .int)) (hk0 : vm1.classes[ci]? = some k0) (hkind0 : k0.kind = .array cc .int) (hl : e.platform.arrayLengthLimit = 2147483645) (hh : e.platform.maxHeapBytes = 536870912) (h1 : T.heap.size + 17 ≤ e.platform.maxCells) (h2 : T.slotsUsed + 96 ≤ e.platform.maxSlots) (hst : g.stack = .int 5 :: .int 16 :: rest) {Q : Unit → Pre} (hq : ∀ d' acts', Q () d' acts' ((zgT (T.setVm vm1) cA ci 16).setTop { g with stack := .ref T.heap.size :: rest })) : wp (multianewarray.sem index 2) Q E e d acts (T.setTop g) := by
  have hp : ∀ {Q2 : List Value → Pre} {d2 : Bool} {acts2 : List Action}, Q2 [.int 16, .int 5] true acts2 ((T.setVm vm1).setTop { g with stack := rest }) → wp (Jvm.popN 2) Q2 E e d2 acts2 ((T.setVm vm1).setTop g) := fun h => (popN_top (args := [.int 16, .int 5]) (s := T.setVm vm1) ht hst).mpr h
  rw [multianewarray.sem, wp_bind', W.resolveClassAt_links (t := T.setTop g) (State.method?_setTop g ht) hr (Nat.le_of_eq hn), wp_bind']
  refine hp ?_
  simp only [List.mapM_cons, List.mapM_nil, wp_bind', wp_pure']
  refine zg_make (T := (T.setVm vm1).setTop { g with stack := rest }) hkA hkindA hk0 hkind0 hl hh h1 h2 (fun d2 acts2 => ?_)
  rw [wp_bind', W.mark, W.pushRef, zgT_top]
  refine ⟨_, State.topJava?_setTop' _ (by rw [zgT_j]; exact ht), ?_⟩
  rw [State.setTop_setTop]
  exact hq _ _
end ZGP
section ZGS
variable {p : Program} {l : Launch} {e : Env} {R : Room} {s : State} {m : MethodId} {args : Array Value} {below : List Frame} {meth : Method} {c0 : Code} {T : State} {locs : List Loc} {cells slots : Nat}
theorem zg_stand (X : Stand p l e R s m args below meth c0 T locs cells slots) (cA ci : ClassId) : ∀ i, Stand p l e R s m args below meth c0 (zgT T cA ci i) locs (cells + (1 + i)) (slots + (16 + 5 * i))
  | 0 => by
    have h := X.pushed (zgO cA T.heap.size 0)
    rw [arrV_size, zgT_start T cA ci] at h
    exact h
  | i + 1 => by
    have h := (zg_stand X cA ci i).pushed (zgR ci)
    have ho : ((zgT T cA ci i).pushCell (zgR ci)).heap[T.heap.size]? = some (zgO cA T.heap.size i) := (State.heap_pushCell_of_lt _ _ (by show T.heap.size < (zgA T.heap cA ci i).size; rw [zgA_size]; omega)).trans (zgA_out T.heap cA ci i)
    have h2 := (h.stored ho i (.ref (T.heap.size + 1 + i))).dropFresh (fun x hx => by rw [List.mem_singleton.mp hx]; exact X.heapGrown)
    rw [zgT_more, arrV_size] at h2
    exact h2
theorem zg_step (X : Stand p l e R s m args below meth c0 T locs cells slots) (hexec : p.tables.exec = Jvm.exec) {own : String} {index : Nat} (hown : s.vm.findClass own = some m.cls) (hlink : (Cond.classLink own index "[[I").before args s = true) {cA ci cc : ClassId} {kA k0 : Class} (hfA : s.vm.findClass "[[I" = some cA) (hkA : s.vm.classes[cA]? = some kA) (hkindA : kA.kind = .array ci (.array .int)) (hk0 : s.vm.classes[ci]? = some k0) (hkind0 : k0.kind = .array cc .int) {pc : Nat} {ls : Array Slot} {rest : List Value} (hdg : decode c0.code pc = .ok (.multianewarray index 2, 4)) (hcells : cells + 17 ≤ R.cells) (hslots : slots + 96 ≤ R.slots) : ∃ V : State, V.heap = zgA T.heap cA ci 16 ∧ Stand p l e R s m args below meth c0 V locs (cells + 17) (slots + 96) ∧ ∀ t, Steps p.tables e below (V.setTop (F0 m (pc + 4) ls (.ref T.heap.size :: rest))) t → Steps p.tables e below (T.setTop (F0 m pc ls (.int 5 :: .int 16 :: rest))) t := by
  obtain ⟨cB, hfB, hcl⟩ := Cond.classLink_spec hown hlink e.platform (by rw [X.admits.platform])
  obtain rfl : cA = cB := Option.some.inj (hfA.symm.trans hfB)
  have N := State.classEntry (e := e) X.warmed hcl
  have Y := X.noted N.2.1
  obtain ⟨kA2, hkA2, eA⟩ := N.2.1.alike.2.2 _ _ hkA
  obtain ⟨k02, hk02, e0⟩ := N.2.1.alike.2.2 _ _ hk0
  obtain ⟨r1, r2⟩ := X.roomAbove hcells hslots
  have Z := zg_stand Y cA ci 16
  refine ⟨zgT (T.setVm (T.vm.noted m.cls index (.cls cA))) cA ci 16, rfl, Z, fun t ht => ?_⟩
  jvm_step X.here [hexec, hdg]
  refine zg_sem (g := F0 m pc ls (.int 5 :: .int 16 :: rest)) X.here.top N.1 (Vm.size_noted _ _ _ _) hkA2 (by rw [eA]; exact hkindA) hk02 (by rw [e0]; exact hkind0) (Launch.admits_arrayLengthLimit X.admits) (Launch.admits_maxHeapBytes X.admits) r1 r2 rfl (fun d2 acts2 acts3 => ?_)
  simp [jvm, Z.here.top]
  exact ht
end ZGS
section ZNW
variable {p : Program} {l : Launch} {e : Env} {R : Room} {s : State} {m : MethodId} {args : Array Value} {below : List Frame} {meth : Method} {c0 : Code} {H : Heap} {locs : List Loc} {cells slots : Nat} {Q : State → Prop}
variable {cc : ByteArray} {pc : Nat} {ls : Array Slot} {rest : List Value} {D : va_G} {c : Nat → ClassId} {A : Nat → Prop} {a : Nat} {ws : va_W} {H0 : Heap}
theorem zobj {own : String} {idx nL : Nat} (S : CallFix p m c0 cc nL s args zT own) (hlink : Cond.methodLink own idx Lib.objectInit ∈ zT) (hinst : Cond.instanceMethod Lib.objectInit ∈ zT) (hcode : Cond.code Lib.objectInit ⟨#[0xb1]⟩ 1 none ∈ zT) (hl : ls.size = nL) (hfr : 1 ≤ R.frames) (hlo : (rest.map fun v => v.category).sum + 12 ≤ R.locals) (hd : decode cc pc = .ok (.invokespecial idx, 3)) (kk : W p l e R s m args below meth c0 H locs cells slots Q (F0 m (pc + 3) ls rest)) : W p l e R s m args below meth c0 H locs cells slots Q (F0 m pc ls (.ref a :: rest)) := by
  obtain ⟨hx, hb, hml, hown, hts⟩ := S
  refine W.objInit hx hb hown (hts _ hlink) (hts _ hinst) (hts _ hcode) rfl (by rw [hml]; exact hl) rfl hd hfr (by show 2 * 0 + _ + 12 ≤ _; omega) ?_
  exact W.eq rfl kk
theorem znai {n : Int32} {N' : Nat} (hx : p.tables.exec = Jvm.exec) (hb : c0.code = cc) (hts : ∀ w ∈ zT, w.before args s = true) (harr : Cond.arrayClass .int ∈ zT) (hE : zE D c s) (hP : va_P D vwCl ws H) (hD : va_D A ws) (hS : va_S A H0 H locs) (hA : ∀ q, H0.size ≤ q → A q) (hn : ¬ n < 0) (hN : n.toNatClampNeg = N') (hbytes : N' * 4 ≤ 536870912) (hcells : cells + 1 ≤ R.cells) (hslots : slots + N' ≤ R.slots) (hdg : decode cc pc = .ok (.newarray .int, 2)) (kk : ∀ (q : Nat) (H1 : Heap), va_P D vwCl (ws ++ [(q, .inl (c 0, N', .inl (fun _ => 0)))]) H1 → va_D A (ws ++ [(q, .inl (c 0, N', .inl (fun _ => 0)))]) → va_S A H0 H1 locs → W p l e R s m args below meth c0 H1 locs (cells + 1) (slots + N') Q (F0 m (pc + 2) ls (.ref q :: rest))) : W p l e R s m args below meth c0 H locs cells slots Q (F0 m pc ls (.int n :: rest)) := by
  refine va_newa (atype := .int) (ty := .int) hx hb (hts _ harr) rfl hE.1 hP hD hS hA (a0 := (N', .inl (fun _ => 0))) (fun cA => rfl) hn hN hbytes hcells hslots hdg (fun q cA H1 hK hP1 hD1 hS1 => ?_)
  have e1 : cA = c 0 := Option.some.inj (((hK.2 6 _ rfl).2 : s.vm.findClass _ = some cA).symm.trans ((hE.1.2 0 _ rfl).2 : s.vm.findClass _ = some (c 0)))
  subst e1
  exact kk q H1 hP1 hD1 hS1
theorem znal {n : Int32} {N' : Nat} (hx : p.tables.exec = Jvm.exec) (hb : c0.code = cc) (hts : ∀ w ∈ zT, w.before args s = true) (harr : Cond.arrayClass .long ∈ zT) (hE : zE D c s) (hP : va_P D vwCl ws H) (hD : va_D A ws) (hS : va_S A H0 H locs) (hA : ∀ q, H0.size ≤ q → A q) (hn : ¬ n < 0) (hN : n.toNatClampNeg = N') (hbytes : N' * 8 ≤ 536870912) (hcells : cells + 1 ≤ R.cells) (hslots : slots + N' ≤ R.slots) (hdg : decode cc pc = .ok (.newarray .long, 2)) (kk : ∀ (q : Nat) (H1 : Heap), va_P D vwCl (ws ++ [(q, .inl (c 1, N', .inr (.inl (fun _ => 0))))]) H1 → va_D A (ws ++ [(q, .inl (c 1, N', .inr (.inl (fun _ => 0))))]) → va_S A H0 H1 locs → W p l e R s m args below meth c0 H1 locs (cells + 1) (slots + N') Q (F0 m (pc + 2) ls (.ref q :: rest))) : W p l e R s m args below meth c0 H locs cells slots Q (F0 m pc ls (.int n :: rest)) := by
  refine va_newa (atype := .long) (ty := .long) hx hb (hts _ harr) rfl hE.1 hP hD hS hA (a0 := (N', .inr (.inl (fun _ => 0)))) (fun cA => rfl) hn hN hbytes hcells hslots hdg (fun q cA H1 hK hP1 hD1 hS1 => ?_)
  have e1 : cA = c 1 := Option.some.inj (((hK.2 6 _ rfl).2 : s.vm.findClass _ = some cA).symm.trans ((hE.1.2 1 _ rfl).2 : s.vm.findClass _ = some (c 1)))
  subst e1
  exact kk q H1 hP1 hD1 hS1
theorem znaz {n : Int32} {N' : Nat} (hx : p.tables.exec = Jvm.exec) (hb : c0.code = cc) (hts : ∀ w ∈ zT, w.before args s = true) (harr : Cond.arrayClass .boolean ∈ zT) (hE : zE D c s) (hP : va_P D vwCl ws H) (hD : va_D A ws) (hS : va_S A H0 H locs) (hA : ∀ q, H0.size ≤ q → A q) (hn : ¬ n < 0) (hN : n.toNatClampNeg = N') (hbytes : N' * 1 ≤ 536870912) (hcells : cells + 1 ≤ R.cells) (hslots : slots + N' ≤ R.slots) (hdg : decode cc pc = .ok (.newarray .boolean, 2)) (kk : ∀ (q : Nat) (H1 : Heap), va_P D vwCl (ws ++ [(q, .inl (c 2, N', .inl (fun _ => 0)))]) H1 → va_D A (ws ++ [(q, .inl (c 2, N', .inl (fun _ => 0)))]) → va_S A H0 H1 locs → W p l e R s m args below meth c0 H1 locs (cells + 1) (slots + N') Q (F0 m (pc + 2) ls (.ref q :: rest))) : W p l e R s m args below meth c0 H locs cells slots Q (F0 m pc ls (.int n :: rest)) := by
  refine va_newa (atype := .boolean) (ty := .boolean) hx hb (hts _ harr) rfl hE.1 hP hD hS hA (a0 := (N', .inl (fun _ => 0))) (fun cA => rfl) hn hN hbytes hcells hslots hdg (fun q cA H1 hK hP1 hD1 hS1 => ?_)
  have e1 : cA = c 2 := Option.some.inj (((hK.2 6 _ rfl).2 : s.vm.findClass _ = some cA).symm.trans ((hE.1.2 2 _ rfl).2 : s.vm.findClass _ = some (c 2)))
  subst e1
  exact kk q H1 hP1 hD1 hS1
theorem znaq {C : String} (t0 : Nat) {n : Int32} {N' : Nat} {own : String} {index nL : Nat} (S : CallFix p m c0 cc nL s args zT own) (hcl : Cond.classLink own index C ∈ zT) (hover : va_AO C s) (ht : (zTy c)[t0]? = some (c t0, .object C)) (hE : zE D c s) (hP : va_P D vwCl ws H) (hD : va_D A ws) (hS : va_S A H0 H locs) (hA : ∀ q, H0.size ≤ q → A q) (hn : ¬ n < 0) (hN : n.toNatClampNeg = N') (hbytes : N' * 4 ≤ 536870912) (hcells : cells + 1 ≤ R.cells) (hslots : slots + N' ≤ R.slots) (hdg : decode cc pc = .ok (.anewarray index, 3)) (kk : ∀ (q : Nat) (H1 : Heap), va_P D vwCl (ws ++ [(q, .inl (c t0, N', .inr (.inr (.inr (.inr (fun _ => none))))))]) H1 → va_D A (ws ++ [(q, .inl (c t0, N', .inr (.inr (.inr (.inr (fun _ => none))))))]) → va_S A H0 H1 locs → W p l e R s m args below meth c0 H1 locs (cells + 1) (slots + N') Q (F0 m (pc + 3) ls (.ref q :: rest))) : W p l e R s m args below meth c0 H locs cells slots Q (F0 m pc ls (.int n :: rest)) := by
  obtain ⟨hx, hb, hml, hown, hts⟩ := S
  refine va_newq hx hb hown (hts _ hcl) hover hE.1 hP hD hS hA hn hN hbytes hcells hslots hdg (fun q cA H1 hK hP1 hD1 hS1 => ?_)
  obtain ⟨_, _, _, _, _, h1⟩ := ((hK.2 6 _ rfl).2 : va_RA s cA (.object C))
  obtain ⟨_, _, _, _, _, h2⟩ := ((hE.1.2 t0 _ ht).2 : va_RA s (c t0) (.object C))
  have e1 : cA = c t0 := Option.some.inj (h1.symm.trans h2)
  subst e1
  exact kk q H1 hP1 hD1 hS1
theorem zpuf {own ref C : String} {T : u_T} {N ci index : Nat} {nL : Nat} (S : CallFix p m c0 cc nL s args zT own) (hin : ∀ w ∈ u_ws C T N, w ∈ zT) {ty0 : Nat → FieldType} (hty : ∀ k, k < N → parseFieldDescriptor (T k).2.2.1 = some (ty0 k)) (hnm : ∀ a, a < N → ∀ b, b < N → a ≠ b → (T a).2.1 ≠ (T b).2.1) (hE : zE D c s) (hmn : meth.name = "<init>") (hP : va_P D vwCl ws H) (hD : va_D A ws) (hS : va_S A H0 H locs) (q0 k : Nat) {ty : FieldType} (wn : va_W) {fs : List Value} {v : Value} (he : ws[q0]? = some (a, .inr (ci, fs))) (hc : vwCl[ci]? = some (C, T, N)) (hk : k < N) (hlink : Cond.fieldLink own index ref (T k).2.1 (T k).2.2.1 ∈ zT) (href : (T k).1 = ref) (hfin : (T k).2.2.2 = true) (hdecl : (T k).1 = own) (hd : parseFieldDescriptor (T k).2.2.1 = some ty) (hn : narrow ty v = v) (hfit : fits ty v = true) (hl : k < fs.length) (hw : ws.set q0 (a, .inr (ci, fs.set k v)) = wn) (hdg : decode cc pc = .ok (.putfield index, 3))
    (kk : ∀ (H1 : Heap) (locs1 : List Loc), va_P D vwCl wn H1 → va_D A wn → va_S A H0 H1 locs1 → W p l e R s m args below meth c0 H1 locs1 cells slots Q (F0 m (pc + 3) ls rest)) : W p l e R s m args below meth c0 H locs cells slots Q (F0 m pc ls (v :: .ref a :: rest)) :=
  va_putF S.1 S.2.1 S.2.2.2.2 hin ty0 hty hnm S.2.2.2.1 hE.1 hP hD hS q0 he hc k hk (S.2.2.2.2 _ hlink) (fun x hx => href ▸ hx) hfin hmn hdecl hd hn hfit hl hdg (fun H1 locs1 hP1 hD1 hS1 => kk H1 locs1 (hw ▸ hP1) (hw ▸ hD1) hS1)
theorem znew {own C : String} {T : u_T} {N ci index nL : Nat} (S : CallFix p m c0 cc nL s args zT own) (hin : ∀ w ∈ u_ws C T N, w ∈ zT) {ty : Nat → FieldType} (hty : ∀ k, k < N → parseFieldDescriptor (T k).2.2.1 = some (ty k)) (hcl : Cond.classLink own index C ∈ zT) (hinst : Cond.instantiable C N ∈ zT) (hini : Cond.initialized C ∈ zT) (hE : zE D c s) (hP : va_P D vwCl ws H) (hD : va_D A ws) (hS : va_S A H0 H locs) (hA : ∀ q, H0.size ≤ q → A q) (hc : vwCl[ci]? = some (C, T, N)) {fs : List Value} (hfs : ∀ j, j < N → defaultValue (ty j) = vp_V fs j) (hcells : cells + 1 ≤ R.cells) (hslots : slots + N ≤ R.slots) (hdg : decode cc pc = .ok (.new index, 3)) (kk : ∀ (q : Nat) (H1 : Heap), va_P D vwCl (ws ++ [(q, .inr (ci, fs))]) H1 → va_D A (ws ++ [(q, .inr (ci, fs))]) → va_S A H0 H1 locs → W p l e R s m args below meth c0 H1 locs (cells + 1) (slots + N) Q (F0 m (pc + 3) ls (.ref q :: rest))) : W p l e R s m args below meth c0 H locs cells slots Q (F0 m pc ls rest) :=
  va_new S.1 S.2.1 S.2.2.2.2 hin ty hty S.2.2.2.1 (S.2.2.2.2 _ hcl) (S.2.2.2.2 _ hinst) (S.2.2.2.2 _ hini) hE.1 hP hD hS hA hc hfs hcells hslots hdg kk
theorem zastq (hx : p.tables.exec = Jvm.exec) (hb : c0.code = cc) (hE : zE D c s) (hP : va_P D vwCl ws H) (hD : va_D A ws) (hS : va_S A H0 H locs) (q0 t0 qk ci : Nat) {r : vw_C} {n v : Nat} {vs : List Value} {f g : Nat → Option Nat} (wn : va_W) (ha : ws[q0]? = some (a, .inl (c t0, n, .inr (.inr (.inr (.inr f)))))) (ht : (zTy c)[t0]? = some (c t0, .object r.1)) (hv : ws[qk]? = some (v, .inr (ci, vs))) (hc : vwCl[ci]? = some r) {i : Int32} (hw : ws.set q0 (a, .inl (c t0, n, .inr (.inr (.inr (.inr g))))) = wn) (hg : va_up f i.toNatClampNeg (some v) = g) (hin : vp_in i n) (hdg : decode cc pc = .ok (.aastore, 1)) (kk : ∀ (H1 : Heap) (locs1 : List Loc), va_P D vwCl wn H1 → va_D A wn → va_S A H0 H1 locs1 → W p l e R s m args below meth c0 H1 locs1 cells slots Q (F0 m (pc + 1) ls rest)) : W p l e R s m args below meth c0 H locs cells slots Q (F0 m pc ls (.ref v :: .int i :: .ref a :: rest)) := by
  subst hg
  exact va_astq hx hb hE.1 hP hD hS q0 t0 qk ci ha ht hv hc hin hdg (fun H1 locs1 hP1 hD1 hS1 => kk H1 locs1 (hw ▸ hP1) (hw ▸ hD1) hS1)
/-- the call of a constructor on the cell made last -/
theorem zini {y : MethodName} {bytes : ByteArray} {maxL nL index mc ms : Nat} {rm : Room} {own : String} {b : Nat} {x : va_E} {B : (Nat → Nat → Nat) → va_W} (S : CallFix p m c0 cc nL s args zT own) (hM : zMC l D c y bytes maxL rm b [(b, x)] B mc ms) (mi : zMK y bytes maxL 0) (hlink : Cond.methodLink own index y ∈ zT ∨ ∃ host, (own, index, y, host) ∈ zNl) (hR : rm.frames + 1 ≤ R.frames ∧ 8 + (maxL + 11) + rm.locals ≤ R.locals) (hrm : rm.cells = mc ∧ rm.slots = ms) (hP : va_P D vwCl (ws ++ [(b, x)]) H) (hD : va_D A (ws ++ [(b, x)])) (hS : va_S A s.heap H locs) (hA : ∀ q, s.heap.size ≤ q → A q) (hE : zE D c s) (hX : zX c A s s.heap) (hl : ls.size = nL) (hW : (rest.map fun v => v.category).sum ≤ 8) (hdg : decode cc pc = .ok (.invokespecial index, 3)) (hf : cells + mc ≤ R.cells ∧ slots + ms ≤ R.slots)
    (kk : ∀ (u : Nat → Nat → Nat) (H1 : Heap) (locs1 : List Loc), va_P D vwCl (ws ++ B u) H1 → va_D A (ws ++ B u) → va_S A s.heap H1 locs1 → W p l e R s m args below meth c0 H1 locs1 (cells + mc) (slots + ms) Q (F0 m (pc + 3) ls rest)) : W p l e R s m args below meth c0 H locs cells slots Q (F0 m pc ls (.ref b :: rest)) := by
  have hts := S.2.2.2.2
  have hC : [ws.length].map (fun i => (ws ++ [(b, x)])[i]?) = [(b, x)].map some := by simp
  have hPc : va_P D vwCl [(b, x)] H := zpsub hP hC
  have hDc0 : va_D (fun _ => True) [(b, x)] := (hD.sub [ws.length] rfl hC).weaken (fun _ _ _ _ => trivial)
  have hFc := va_free (wc := [(b, x)]) hD hS hA [ws.length] hC
  have hpre : PreS s H (va_Pc [.ref b] (zPreW D c [(b, x)] H.size)) [.ref b] := ⟨zblindW, fun U hU hW => ⟨rfl, by rw [hU], by rw [hU]; exact hPc, hE.warm hW, hDc0, by rw [hU]; exact ((hX.kept hS.2.1).warm hW).narrow hFc⟩⟩
  have hrun : va_Run p l e R s m args below meth c0 H locs cells slots mc ms (F0 m pc ls (.ref b :: rest)) rest (va_Qv (fun _ : Nat → Nat → Nat => True) (fun u t => va_P D vwCl (B u) t.heap ∧ va_D (va_A [(b, x)] H.size) (B u)) (va_A [(b, x)] H.size) [Value.ref b].toArray) (va_A [(b, x)] H.size) := by
    rcases hlink with hlink | ⟨host, hlink⟩
    · exact va_runI (As := []) (rest := rest) S (hM H.size) ⟨callB_of 0 hts (zG mi.1.2.2) rfl hrm.1 hrm.2 (hts _ mi.1.2.1) (hts _ hlink) mi.2.1 hR, mi.2.2, hts _ mi.1.1⟩ hpre rfl rfl hl rfl (lv_room hW) hdg hf
    · exact va_runIN (As := []) (rest := rest) S (hM H.size) ⟨va_cnB 0 hts (zG mi.1.2.2) rfl hrm.1 hrm.2 (hE.2 _ hlink) (hts _ mi.1.2.1) mi.2.1 hR, mi.2.2, hts _ mi.1.1⟩ hpre rfl rfl hl rfl (lv_room hW) hdg hf
  refine va_callv hrun hS (fun q _ h => hFc q h) hFc (fun u t H1 locs1 ht hvm hw hBB hz1 hk1 hS1 => ?_)
  obtain ⟨hP1, hD1⟩ := hBB
  rw [ht] at hP1
  obtain ⟨hP2, hD2⟩ := va_join (wr := ws) hP hD [ws.length] (List.range ws.length) hC (zmapsome ws (b, x)) (zndr _) (fun i hi h => by simp at hi h; omega) hk1 hFc hP1 hD1
  exact kk u H1 locs1 hP2 hD2 hS1
theorem zmna {own : String} {index nL : Nat} (S : CallFix p m c0 cc nL s args zT own) (hcl : Cond.classLink own index "[[I" ∈ zT) (hE : zE D c s) (hX : zX c A s s.heap) (hP : va_P D vwCl ws H) (hD : va_D A ws) (hS : va_S A s.heap H locs) (hA : ∀ q, s.heap.size ≤ q → A q) (hcells : cells + 17 ≤ R.cells) (hslots : slots + 96 ≤ R.slots) (hdg : decode cc pc = .ok (.multianewarray index 2, 4)) (kk : ∀ (q : Nat) (r : Nat → Nat) (H1 : Heap), va_P D vwCl (ws ++ wG c q r (fun _ _ => 0)) H1 → va_D A (ws ++ wG c q r (fun _ _ => 0)) → va_S A s.heap H1 locs → W p l e R s m args below meth c0 H1 locs (cells + 17) (slots + 96) Q (F0 m (pc + 4) ls (.ref q :: rest))) : W p l e R s m args below meth c0 H locs cells slots Q (F0 m pc ls (.int 5 :: .int 16 :: rest)) := by
  intro T hT X
  subst hT
  obtain ⟨kA, hkA, hkindA⟩ := hX.2.2.2.2.2.2
  obtain ⟨_, k0, hk0, cc0, hkind0⟩ := (hE.1.2 0 _ rfl).1 0 (fun _ => .null)
  have hfA : s.vm.findClass "[[I" = some (c 5) := (hE.1.2 5 _ rfl).2
  obtain ⟨V, hV, Y, step⟩ := zg_step X S.1 S.2.2.2.1 (S.2.2.2.2 _ hcl) hfA hkA hkindA hk0 hkind0 (pc := pc) (ls := ls) (rest := rest) (by rw [S.2.1]; exact hdg) hcells hslots
  have hg : s.heap.size ≤ T.heap.size := hS.1
  have hlt : ∀ (k : Nat) (x : Nat × va_E), ws[k]? = some x → x.1 < T.heap.size := fun k x hx => (hP k x hx).lt
  -- the seventeen new blocks, by their places
  have hnew : ∀ (k : Nat) (x : Nat × va_E), (wG c T.heap.size (fun i => T.heap.size + 1 + i) (fun _ _ => 0))[k]? = some x → x.1 = T.heap.size + k ∧ va_at D vwCl x (zgA T.heap (c 5) (c 0) 16) := fun k x hx => by
    have hk : k < 17 := by
      have h := (List.getElem?_eq_some_iff.mp hx).1
      simpa [wG] using h
    match k, hk, hx with
    | 0, _, hx =>
      obtain rfl := Option.some.inj hx
      exact ⟨rfl, zgA_out T.heap (c 5) (c 0) 16⟩
    | j + 1, hj, hx =>
      rw [Nat.add_comm j 1, wG_r (show j < 16 by omega)] at hx
      obtain rfl := Option.some.inj hx
      exact ⟨by show T.heap.size + 1 + j = T.heap.size + (j + 1); omega, zgA_row T.heap (c 5) (c 0) 16 (show j < 16 by omega)⟩
  have hP1 : va_P D vwCl (ws ++ wG c T.heap.size (fun i => T.heap.size + 1 + i) (fun _ _ => 0)) V.heap := by
    rw [hV]
    exact (hP.kept (fun k x hx => zgA_old T.heap (c 5) (c 0) 16 (hlt k x hx))).app (fun k x hx => (hnew k x hx).2)
  have hside : ∀ (k : Nat) (x : Nat × va_E), (ws ++ wG c T.heap.size (fun i => T.heap.size + 1 + i) (fun _ _ => 0))[k]? = some x → ws[k]? = some x ∨ (ws.length ≤ k ∧ x.1 = T.heap.size + (k - ws.length)) := fun k x hx => by
    rw [List.getElem?_append] at hx
    split at hx
    · exact Or.inl hx
    · exact Or.inr ⟨by omega, (hnew _ x hx).1⟩
  have hD1 : va_D A (ws ++ wG c T.heap.size (fun i => T.heap.size + 1 + i) (fun _ _ => 0)) := by
    refine ⟨fun i j x y hx hy hxy => ?_, fun k x hx => ?_⟩
    · rcases hside i x hx, hside j y hy with ⟨a1 | a1, a2 | a2⟩
      · exact hD.1 i j x y a1 a2 hxy
      · have := hlt i x a1
        omega
      · have := hlt j y a2
        omega
      · omega
    · rcases hside k x hx with a1 | a1
      · exact hD.2 k x a1
      · exact hA _ (by omega)
  have hS1 : va_S A s.heap V.heap locs := by
    rw [hV]
    exact ⟨by rw [zgA_size]; omega, fun q h1 h2 => (zgA_old T.heap (c 5) (c 0) 16 (by omega)).trans (hS.2.1 q h1 h2), hS.2.2⟩
  obtain ⟨t, t1, t2⟩ := kk T.heap.size _ V.heap hP1 hD1 hS1 V rfl Y
  exact ⟨t, step t t1, t2⟩
theorem zRC {wc : va_W} {sz : Nat} {B : (Nat → Nat → Nat) → va_W} (u : Nat → Nat → Nat) (hAe : A = va_A wc sz) (hQ : Q = MQ below (va_Qv (fun _ : Nat → Nat → Nat => True) (fun u t => va_P D vwCl (B u) t.heap ∧ va_D A (B u)) A) args s cells slots A) (hx : p.tables.exec = Jvm.exec) (hb : c0.code = cc) (hr : meth.sig.returnType = none) (hlk : meth.locks = false) (hP : va_P D vwCl (B u) H) (hD : va_D A (B u)) (hS : va_S A s.heap H locs) (hdg : decode cc pc = .ok (.return_, 1)) : W p l e R s m args below meth c0 H locs cells slots Q (F0 m pc ls []) := by
  subst hQ
  exact W.vret hx hb hr (fun t ht _ => ⟨⟨u, rfl, trivial, by rw [ht]; exact hP, hD⟩, hS.F ht⟩) hS.2.2 hdg hlk
end ZNW
def zNums : Nat → Nat → Int32
  | 0 => fun _ => 0
  | k + 1 => upd (zNums k) (Int32.ofNat k).toNatClampNeg (Int32.ofNat (k + 1))
def zLanes : Nat → Nat → Int32
  | 0 => fun _ => 0
  | k + 1 => upd (zLanes k) (Int32.ofNat k).toNatClampNeg (-1)
def zRow0 : Nat → Int32 := upd (zNums 26) (37 : Int32).toNatClampNeg 3
