/-! ===== what a constructor does ===== -/
abbrev zMC (l : Launch) (D : va_G) (c : Nat → ClassId) (y : MethodName) (cc : ByteArray) (maxL : Nat) (rm : Room) (b : Nat) (wc : va_W) (B : (Nat → Nat → Nat) → va_W) (mc ms : Nat) : Prop := ∀ sz : Nat, Met l y (zW y cc maxL none) rm (va_Pc [.ref b] (zPreW D c wc sz)) (va_Qv (fun _ : Nat → Nat → Nat => True) (fun u t => va_P D vwCl (B u) t.heap ∧ va_D (va_A wc sz) (B u)) (va_A wc sz)) mc ms (va_A wc sz)
def zMK (y : MethodName) (cc : ByteArray) (maxL : Nat) (n : Nat) : Prop := (Cond.instanceMethod y ∈ zT ∧ Cond.initialized y.cls ∈ zT ∧ Cond.code y cc maxL none ∈ zT) ∧ zMD y n ∧ y.name = "<init>"
theorem zmapsome (w : va_W) (x : Nat × va_E) : (List.range w.length).map (fun i => (w ++ [x])[i]?) = w.map some := by
  apply List.ext_getElem?
  intro i
  by_cases h : i < w.length
  · rw [List.getElem?_map, List.getElem?_range h, List.getElem?_map]
    simp [List.getElem?_append_left h, List.getElem?_eq_getElem h]
  · rw [List.getElem?_map, List.getElem?_map, List.getElem?_eq_none (by simp; omega), List.getElem?_eq_none (by omega)]
    rfl
theorem zndr (n : Nat) : va_nd (List.range n) = true := by
  have h : ∀ (l : List Nat), l.Nodup → va_nd l = true := by
    intro l
    induction l with
    | nil => intro _; rfl
    | cons a t ih =>
      intro h
      have h2 := List.nodup_cons.mp h
      show (decide (a ∉ t) && va_nd t) = true
      rw [ih h2.2]
      simp [h2.1]
  exact h _ List.nodup_range
theorem zs0 {A A' B : va_W} {k : Nat} {x y : Nat × va_E} (hA : A[k]? = some y) (h : A.set k x = A') : (A ++ B).set k x = A' ++ B := zsl (List.getElem?_eq_some_iff.mp hA).1 h
theorem zsheets (a b d : Nat) : va_up (va_up (va_up (fun _ => none) (0 : Int32).toNatClampNeg (some a)) (1 : Int32).toNatClampNeg (some b)) (2 : Int32).toNatClampNeg (some d) = (fun i => if i < 3 then some ([a, b, d].getD i 0) else none) := by
  funext i
  match i with
  | 0 => rfl
  | 1 => rfl
  | 2 => rfl
  | k + 3 =>
    rw [if_neg (by omega)]
    unfold va_up
    rw [if_neg (by show ¬ k + 3 = 2; omega), if_neg (by show ¬ k + 3 = 1; omega), if_neg (by show ¬ k + 3 = 0; omega)]
/-! ===== an array of sixteen rows of five ints: 'multianewarray' as the model runs it ===== -/
def zmO (cA : ClassId) (h i : Nat) : Cell := arrV cA 16 (fun j => va_rf (if j < i then some (h + 1 + j) else none))
def zmI (c0 : ClassId) : Cell := arrV c0 5 (fun _ => .int 0)
theorem zmO_s (cA : ClassId) (h i : Nat) : (zmO cA h i).setSlot i (.ref (h + 1 + i)) = zmO cA h (i + 1) := by
  unfold zmO
  rw [arrV_store]
  refine congrArg (arrV cA 16) (funext fun j => ?_)
  unfold updV
  by_cases e : j = i
  · rw [if_pos e, if_pos (by omega), e]
    rfl
  · rw [if_neg e]
    show va_rf (if j < i then some (h + 1 + j) else none) = va_rf (if j < i + 1 then some (h + 1 + j) else none)
    by_cases q : j < i
    · rw [if_pos q, if_pos (by omega)]
    · rw [if_neg q, if_neg (by omega)]
/-- the state when 'i' rows lie in the outer array -/
def zmF (T : State) (cA c0 : ClassId) : Nat → State
  | 0 => T.pushCell (zmO cA T.heap.size 0)
  | i + 1 => ((zmF T cA c0 i).pushCell (zmI c0)).setCell T.heap.size (zmO cA T.heap.size (i + 1))
theorem zmF_1 (T : State) (cA c0 : ClassId) : ∀ i, (zmF T cA c0 i).heap.size = T.heap.size + 1 + i ∧ (zmF T cA c0 i).heap[T.heap.size]? = some (zmO cA T.heap.size i) ∧ (zmF T cA c0 i).vm = T.vm ∧ (zmF T cA c0 i).slotsUsed = T.slotsUsed + 16 + 5 * i
  | 0 => ⟨by simp [zmF], by simp [zmF], rfl, by simp [zmF, zmO, arrV_size]⟩
  | i + 1 => by
    obtain ⟨a, b, d, u⟩ := zmF_1 T cA c0 i
    have hlt : T.heap.size < (zmF T cA c0 i).heap.size := by omega
    have hb : ((zmF T cA c0 i).pushCell (zmI c0)).heap[T.heap.size]? = some (zmO cA T.heap.size i) := by
      rw [State.heap_pushCell_of_lt (h := hlt)]
      exact b
    refine ⟨?_, State.heap_setCell_self hb, ?_, ?_⟩
    · simp [zmF, State.setCell, a]
      omega
    · simp [zmF, d]
    · simp [zmF, u, zmI, arrV_size]
      omega
theorem zmF_old (T : State) (cA c0 : ClassId) {a : Nat} (ha : a < T.heap.size) : ∀ i, (zmF T cA c0 i).heap[a]? = T.heap[a]?
  | 0 => State.heap_pushCell_of_lt _ _ ha
  | i + 1 => by
    have f1 := (zmF_1 T cA c0 i).1
    show (((zmF T cA c0 i).pushCell (zmI c0)).setCell T.heap.size _).heap[a]? = _
    rw [State.heap_setCell_other (Nat.ne_of_gt ha), State.heap_pushCell_of_lt (h := show a < (zmF T cA c0 i).heap.size by omega)]
    exact zmF_old T cA c0 ha i
theorem zmF_in (T : State) (cA c0 : ClassId) : ∀ i j, j < i → (zmF T cA c0 i).heap[T.heap.size + 1 + j]? = some (zmI c0)
  | 0, _, h => absurd h (Nat.not_lt_zero _)
  | i + 1, j, h => by
    have f1 := (zmF_1 T cA c0 i).1
    show (((zmF T cA c0 i).pushCell (zmI c0)).setCell T.heap.size _).heap[T.heap.size + 1 + j]? = _
    rw [State.heap_setCell_other (show T.heap.size ≠ T.heap.size + 1 + j by omega)]
    by_cases e : j = i
    · rw [e, ← f1]
      exact State.heap_pushCell_size _ _
    · rw [State.heap_pushCell_of_lt (h := show T.heap.size + 1 + j < (zmF T cA c0 i).heap.size by omega)]
      exact zmF_in T cA c0 i j (by omega)
theorem zmF_top (T : State) (f : JFrame) (cA c0 : ClassId) : ∀ i, zmF (T.setTop f) cA c0 i = (zmF T cA c0 i).setTop f
  | 0 => rfl
  | i + 1 => by simp only [zmF, zmF_top T f cA c0 i, State.heap_setTop, State.pushCell_setTop, State.setCell_setTop]
section ZMN
variable {E : CtlPost} {e : Env} {d : Bool} {acts : List Action} {s : State}
theorem zm_new {c comp : ClassId} {k : Class} {type : FieldType} {len : Nat} {init : Value} (hk : s.vm.classes[c]? = some k) (hkind : k.kind = .array comp type) (hlimit : ¬ len > e.platform.arrayLengthLimit) (hheap : ¬ len * componentBytes type > e.platform.maxHeapBytes) (hfit : fits type init = true) (hdef : init.isDefault = true) {Q : Addr → Pre} (h1 : s.heap.size < e.platform.maxCells) (h2 : s.slotsUsed + len ≤ e.platform.maxSlots) (hq : Q s.heap.size d acts (s.pushCell (arrV c len (fun _ => init)))) : wp (Jvm.newArray c len init) Q E e d acts s := by
  rw [← arrV_new] at hq
  have hfits : ∀ i v, (Array.replicate len init)[i]? = some v → s.fitsSlot c .none i v = true := by
    intro i v hv
    rw [Array.getElem?_replicate] at hv
    by_cases q : i < len
    · rw [if_pos q] at hv
      cases hv
      simp [State.fitsSlot, State.slotType?, hk, hkind, hfit]
    · rw [if_neg q] at hv
      cases hv
  have hda : allocActs (Array.replicate len init) s.heap.size acts = acts := by
    have hall : ((Array.replicate len init).all (·.isDefault)) = true := by
      rw [Array.all_replicate]
      split <;> simp [hdef]
    unfold allocActs
    rw [if_pos hall]
  simp only [Jvm.newArray, Jvm.arrayFits, wp_bind', W.ask, W.ite, hlimit, if_false, wp_pure', W.theClass, hk, hkind, hheap, W.alloc, W.stop, Option.some.injEq, exists_eq_left', Array.size_replicate, hda]
  rw [if_neg (by omega)]
  exact ⟨h1, h2, hfits, hq⟩
theorem zm_row {c0 cc : ClassId} {k0 : Class} (hk : s.vm.classes[c0]? = some k0) (hkind : k0.kind = .array cc .int) (hl : ¬ 5 > e.platform.arrayLengthLimit) (hh : ¬ 5 * 4 > e.platform.maxHeapBytes) (h1 : s.heap.size < e.platform.maxCells) (h2 : s.slotsUsed + 5 ≤ e.platform.maxSlots) {Q : Addr → Pre} (hq : Q s.heap.size d acts (s.pushCell (zmI c0))) : wp (multianewarray.make c0 [5]) Q E e d acts s := by
  rw [multianewarray.make]
  simp only [wp_bind', W.ite, show ¬ (5 : Int32) < 0 by decide, if_false, wp_pure', W.theClass, hk, hkind, Option.some.injEq, exists_eq_left']
  exact zm_new hk hkind hl hh rfl rfl h1 h2 hq
theorem zm_make {cA c0 cc : ClassId} {kA k0 : Class} (hkA : s.vm.classes[cA]? = some kA) (hkindA : kA.kind = .array c0 (.array .int)) (hk0 : s.vm.classes[c0]? = some k0) (hkind0 : k0.kind = .array cc .int) (hl : ¬ 16 > e.platform.arrayLengthLimit) (hh : ¬ 64 > e.platform.maxHeapBytes) (hc : s.heap.size + 17 ≤ e.platform.maxCells) (hs : s.slotsUsed + 96 ≤ e.platform.maxSlots) {Q : Addr → Pre} (hq : ∀ d' acts', Q s.heap.size d' acts' (zmF s cA c0 16)) : wp (multianewarray.make cA [16, 5]) Q E e d acts s := by
  rw [multianewarray.make]
  simp only [wp_bind', W.ite, show ¬ (16 : Int32) < 0 by decide, if_false, wp_pure', W.theClass, hkA, hkindA, Option.some.injEq, exists_eq_left']
  refine zm_new (len := 16) hkA hkindA hl hh rfl rfl (by omega) (by omega) ?_
  rw [show ((16 : Int32) == 0) = false from rfl]
  rw [if_neg (by decide), wp_bind', Std.Legacy.Range.forIn_eq_forIn_range']
  show wp (forIn (List.range' 0 16 1) PUnit.unit _) _ E e d acts _
  refine wp_forIn_inv (fun rest s' => ∃ i, i ≤ 16 ∧ rest = List.range' i (16 - i) ∧ s' = zmF s cA c0 i) _ _ ⟨0, Nat.zero_le _, rfl, rfl⟩ ?_ ?_
  · rintro x rest s' d' acts' Q' ⟨i, hi, hr, rfl⟩ hnext
    have hlt : i < 16 := by
      by_cases q : i < 16
      · exact q
      · rw [show 16 - i = 0 by omega] at hr
        cases hr
    rw [show 16 - i = (16 - (i + 1)) + 1 by omega, List.range'_succ] at hr
    obtain ⟨rfl, hr2⟩ := List.cons.inj hr
    obtain ⟨f1, f2, f3, f4⟩ := zmF_1 s cA c0 x
    simp only [wp_bind']
    refine zm_row (by rw [f3]; exact hk0) hkind0 (by omega) (by omega) (by rw [f1]; omega) (by rw [f4]; omega) ?_
    simp only [wp_bind', W.writeLoc, wp_pure']
    refine ⟨zmO cA s.heap.size x, by rw [State.heap_pushCell_of_lt (h := show s.heap.size < (zmF s cA c0 x).heap.size by omega)]; exact f2, by simp [zmO, arrV], by rw [show (zmO cA s.heap.size x).slots.size = 16 from arrV_size _ _ _]; exact hlt, ?_, hnext _ _ _ ⟨x + 1, hlt, hr2, ?_⟩⟩
    · simp [zmO, arrV, State.fitsSlot, State.slotType?, f3, hkA, hkindA, fits]
    · rw [f1, zmO_s]
      rfl
  · rintro s' d' acts' ⟨i, hi, hr, rfl⟩
    have hi16 : i = 16 := by
      by_cases q : i < 16
      · rw [show 16 - i = (16 - (i + 1)) + 1 by omega, List.range'_succ] at hr
        cases hr
      · omega
    subst hi16
    simp only [wp_pure']
    exact hq _ _
end ZMN
section ZMS
variable {p : Program} {l : Launch} {e : Env} {R : Room} {s : State} {m : MethodId} {args : Array Value} {below : List Frame} {meth : Method} {c0 : Code} {T : State} {locs : List Loc} {cells slots : Nat}
theorem zm_fill (X : Stand p l e R s m args below meth c0 T locs cells slots) (cA ci : ClassId) : ∀ i, Stand p l e R s m args below meth c0 (zmF T cA ci i) (locs ++ (List.range i).map fun j => ⟨T.heap.size, j⟩) (cells + 1 + i) (slots + 16 + 5 * i)
  | 0 => by
    have h := X.pushed (zmO cA T.heap.size 0)
    rw [show (zmO cA T.heap.size 0).slots.size = 16 from arrV_size _ _ _] at h
    simpa [zmF] using h
  | i + 1 => by
    have Xi := zm_fill X cA ci i
    obtain ⟨f1, f2, f3, f4⟩ := zmF_1 T cA ci i
    have hcell : ((zmF T cA ci i).pushCell (zmI ci)).heap[T.heap.size]? = some (zmO cA T.heap.size i) := by
      rw [State.heap_pushCell_of_lt (h := show T.heap.size < (zmF T cA ci i).heap.size by omega)]
      exact f2
    have h := (Xi.pushed (zmI ci)).stored hcell i (.ref (T.heap.size + 1 + i))
    rw [show (zmI ci).slots.size = 5 from arrV_size _ _ _, zmO_s] at h
    rw [List.range_succ, List.map_append, ← List.append_assoc, show slots + 16 + 5 * (i + 1) = slots + 16 + 5 * i + 5 by omega]
    exact h
theorem zm_step (X : Stand p l e R s m args below meth c0 T locs cells slots) (hexec : p.tables.exec = Jvm.exec) {own : String} {index : Nat} (hown : s.vm.findClass own = some m.cls) (hclink : (Cond.classLink own index "[[I").before args s = true) {cA ci cc : ClassId} {kA k0 : Class} (hfA : s.vm.findClass "[[I" = some cA) (hkA : s.vm.classes[cA]? = some kA) (hkindA : kA.kind = .array ci (.array .int)) (hk0 : s.vm.classes[ci]? = some k0) (hkind0 : k0.kind = .array cc .int) {g : JFrame} (hg : g.method = m) (hdg : decode c0.code g.pc = .ok (.multianewarray index 2, 4)) {rest : List Value} (hstack : g.stack = .int 5 :: .int 16 :: rest) (hcells : cells + 17 ≤ R.cells) (hslots : slots + 96 ≤ R.slots) :
    ∃ vm₁ : Vm, Stand p l e R s m args below meth c0 (zmF (T.setVm vm₁) cA ci 16) locs (cells + 17) (slots + 96) ∧ ∀ target, Steps p.tables e below ((zmF (T.setVm vm₁) cA ci 16).setTop { g with pc := g.pc + 4, stack := .ref T.heap.size :: rest }) target → Steps p.tables e below (T.setTop g) target := by
  subst hg
  have hpl : e.platform.magicAccessors = ({} : Platform).magicAccessors := by rw [X.admits.platform]
  obtain ⟨c9, hfc9, hcl⟩ := Cond.classLink_spec hown hclink e.platform hpl
  cases hfA.symm.trans hfc9
  obtain ⟨hg₁, hwarm₁, hready₁⟩ := State.classEntry (e := e) X.warmed hcl
  generalize T.vm.noted g.method.cls index (.cls cA) = vm₁ at hg₁ hwarm₁ hready₁
  have hal : s.vm.Alike vm₁ := hwarm₁.alike
  obtain ⟨kA₁, hkA₁, heA⟩ := hal.2.2 _ _ hkA
  obtain ⟨k0₁, hk0₁, he0⟩ := hal.2.2 _ _ hk0
  have hkindA₁ : kA₁.kind = .array ci (.array .int) := by rw [heA]; exact hkindA
  have hkind0₁ : k0₁.kind = .array cc .int := by rw [he0]; exact hkind0
  have X₁ := X.noted hwarm₁
  have XF := zm_fill X₁ cA ci 16
  obtain ⟨hr1, hr2⟩ := X.roomAbove hcells hslots
  refine ⟨vm₁, XF.dropFresh (fun x hx => ?_), fun target hrest => ?_⟩
  · obtain ⟨j, -, rfl⟩ := List.mem_map.mp hx
    exact X.heapGrown
  · have hl1 : ¬ 16 > e.platform.arrayLengthLimit := by rw [Launch.admits_arrayLengthLimit X.admits]; omega
    have hh1 : ¬ 64 > e.platform.maxHeapBytes := by rw [Launch.admits_maxHeapBytes X.admits]; omega
    jvm_step X.here [hexec, hdg]
    simp only [multianewarray.sem, wp_bind', W.resolveClassAt_links (State.method?_setTop g X.here.top) hg₁]
    rw [W.popN, if_neg (by decide)]
    refine ⟨g, State.topJava?_setTop' (s := T.setVm vm₁) g X.here.top, [.int 16, .int 5], rest, rfl, hstack, ?_⟩
    simp only [List.mapM_cons, List.mapM_nil, wp_bind', wp_pure']
    refine zm_make (kA := kA₁) (k0 := k0₁) (c0 := ci) (cc := cc) hkA₁ hkindA₁ hk0₁ hkind0₁ hl1 hh1 (by show T.heap.size + 17 ≤ _; omega) (by show T.slotsUsed + 96 ≤ _; omega) (fun d' acts' => ?_)
    have eS : ((T.setTop g).setVm vm₁).setTop { g with stack := rest } = (T.setVm vm₁).setTop { g with stack := rest } := by
      show ((T.setVm vm₁).setTop g).setTop _ = _
      rw [State.setTop_setTop]
    rw [eS, zmF_top]
    simp only [wp_bind', W.mark, W.pushRef, State.topJava?_setTop' _ XF.here.top, Option.some.injEq, exists_eq_left', State.setTop_setTop, State.heap_setTop]
    intro acts
    simp [jvm, XF.here.top]
    exact hrest
end ZMS
section ZNW
variable {p : Program} {l : Launch} {e : Env} {R : Room} {s : State} {m : MethodId} {args : Array Value} {below : List Frame} {meth : Method} {c0 : Code} {H : Heap} {locs : List Loc} {cells slots : Nat} {Q : State → Prop}
variable {cc : ByteArray} {pc : Nat} {ls : Array Slot} {rest : List Value} {D : va_G} {c : Nat → ClassId} {A : Nat → Prop} {a : Nat} {ws : va_W} {H0 : Heap}
theorem zobj {own : String} {idx nL : Nat} (S : CallFix p m c0 cc nL s args zT own) (hlink : Cond.methodLink own idx Lib.objectInit ∈ zT) (hinst : Cond.instanceMethod Lib.objectInit ∈ zT) (hcode : Cond.code Lib.objectInit ⟨#[0xb1]⟩ 1 none ∈ zT) (hl : ls.size = nL) (hfr : 1 ≤ R.frames) (hlo : (rest.map fun v => v.category).sum + 12 ≤ R.locals) (hd : decode cc pc = .ok (.invokespecial idx, 3)) (kk : W p l e R s m args below meth c0 H locs cells slots Q (F0 m (pc + 3) ls rest)) : W p l e R s m args below meth c0 H locs cells slots Q (F0 m pc ls (.ref a :: rest)) := by
  obtain ⟨hx, hb, hml, hown, hts⟩ := S
  refine W.objInit hx hb hown (hts _ hlink) (hts _ hinst) (hts _ hcode) rfl (by rw [hml]; exact hl) rfl hd hfr (by show 2 * 0 + _ + 12 ≤ _; omega) ?_
  exact W.eq rfl kk
theorem znai {n : Int32} {N' : Nat} (hx : p.tables.exec = Jvm.exec) (hb : c0.code = cc) (hts : ∀ w ∈ zT, w.before args s = true) (harr : Cond.arrayClass .int ∈ zT) (hE : zE D c s) (hP : va_P D vwCl ws H) (hD : va_D A ws) (hS : va_S A H0 H locs) (hA : ∀ q, H0.size ≤ q → A q) (hn : ¬ n < 0) (hN : n.toNatClampNeg = N') (hbytes : N' * 4 ≤ 536870912) (hcells : cells + 1 ≤ R.cells) (hslots : slots + N' ≤ R.slots) (hdg : decode cc pc = .ok (.newarray .int, 2)) (kk : ∀ (q : Nat) (H1 : Heap), va_P D vwCl (ws ++ [(q, .inl (c 0, N', .inl (fun _ => 0)))]) H1 → va_D A (ws ++ [(q, .inl (c 0, N', .inl (fun _ => 0)))]) → va_S A H0 H1 locs → W p l e R s m args below meth c0 H1 locs (cells + 1) (slots + N') Q (F0 m (pc + 2) ls (.ref q :: rest))) : W p l e R s m args below meth c0 H locs cells slots Q (F0 m pc ls (.int n :: rest)) := by
  refine va_newa (atype := .int) (ty := .int) hx hb (hts _ harr) rfl hE.1 hP hD hS hA (a0 := (N', .inl (fun _ => 0))) (fun cA => rfl) hn hN hbytes hcells hslots hdg (fun q cA H1 hK hP1 hD1 hS1 => ?_)
  have e1 : cA = c 0 := Option.some.inj (((hK.2 6 _ rfl).2 : s.vm.findClass _ = some cA).symm.trans ((hE.1.2 0 _ rfl).2 : s.vm.findClass _ = some (c 0)))
  subst e1
  exact kk q H1 hP1 hD1 hS1
theorem znal {n : Int32} {N' : Nat} (hx : p.tables.exec = Jvm.exec) (hb : c0.code = cc) (hts : ∀ w ∈ zT, w.before args s = true) (harr : Cond.arrayClass .long ∈ zT) (hE : zE D c s) (hP : va_P D vwCl ws H) (hD : va_D A ws) (hS : va_S A H0 H locs) (hA : ∀ q, H0.size ≤ q → A q) (hn : ¬ n < 0) (hN : n.toNatClampNeg = N') (hbytes : N' * 8 ≤ 536870912) (hcells : cells + 1 ≤ R.cells) (hslots : slots + N' ≤ R.slots) (hdg : decode cc pc = .ok (.newarray .long, 2)) (kk : ∀ (q : Nat) (H1 : Heap), va_P D vwCl (ws ++ [(q, .inl (c 1, N', .inr (.inl (fun _ => 0))))]) H1 → va_D A (ws ++ [(q, .inl (c 1, N', .inr (.inl (fun _ => 0))))]) → va_S A H0 H1 locs → W p l e R s m args below meth c0 H1 locs (cells + 1) (slots + N') Q (F0 m (pc + 2) ls (.ref q :: rest))) : W p l e R s m args below meth c0 H locs cells slots Q (F0 m pc ls (.int n :: rest)) := by
  refine va_newa (atype := .long) (ty := .long) hx hb (hts _ harr) rfl hE.1 hP hD hS hA (a0 := (N', .inr (.inl (fun _ => 0)))) (fun cA => rfl) hn hN hbytes hcells hslots hdg (fun q cA H1 hK hP1 hD1 hS1 => ?_)
  have e1 : cA = c 1 := Option.some.inj (((hK.2 6 _ rfl).2 : s.vm.findClass _ = some cA).symm.trans ((hE.1.2 1 _ rfl).2 : s.vm.findClass _ = some (c 1)))
  subst e1
  exact kk q H1 hP1 hD1 hS1
theorem znaz {n : Int32} {N' : Nat} (hx : p.tables.exec = Jvm.exec) (hb : c0.code = cc) (hts : ∀ w ∈ zT, w.before args s = true) (harr : Cond.arrayClass .boolean ∈ zT) (hE : zE D c s) (hP : va_P D vwCl ws H) (hD : va_D A ws) (hS : va_S A H0 H locs) (hA : ∀ q, H0.size ≤ q → A q) (hn : ¬ n < 0) (hN : n.toNatClampNeg = N') (hbytes : N' * 1 ≤ 536870912) (hcells : cells + 1 ≤ R.cells) (hslots : slots + N' ≤ R.slots) (hdg : decode cc pc = .ok (.newarray .boolean, 2)) (kk : ∀ (q : Nat) (H1 : Heap), va_P D vwCl (ws ++ [(q, .inl (c 2, N', .inl (fun _ => 0)))]) H1 → va_D A (ws ++ [(q, .inl (c 2, N', .inl (fun _ => 0)))]) → va_S A H0 H1 locs → W p l e R s m args below meth c0 H1 locs (cells + 1) (slots + N') Q (F0 m (pc + 2) ls (.ref q :: rest))) : W p l e R s m args below meth c0 H locs cells slots Q (F0 m pc ls (.int n :: rest)) := by
  refine va_newa (atype := .boolean) (ty := .boolean) hx hb (hts _ harr) rfl hE.1 hP hD hS hA (a0 := (N', .inl (fun _ => 0))) (fun cA => rfl) hn hN hbytes hcells hslots hdg (fun q cA H1 hK hP1 hD1 hS1 => ?_)
  have e1 : cA = c 2 := Option.some.inj (((hK.2 6 _ rfl).2 : s.vm.findClass _ = some cA).symm.trans ((hE.1.2 2 _ rfl).2 : s.vm.findClass _ = some (c 2)))
  subst e1
  exact kk q H1 hP1 hD1 hS1
theorem znaq {C : String} (t0 : Nat) {n : Int32} {N' : Nat} {own : String} {index nL : Nat} (S : CallFix p m c0 cc nL s args zT own) (hcl : Cond.classLink own index C ∈ zT) (hover : va_AO C s) (ht : (zTy c)[t0]? = some (c t0, .object C)) (hE : zE D c s) (hP : va_P D vwCl ws H) (hD : va_D A ws) (hS : va_S A H0 H locs) (hA : ∀ q, H0.size ≤ q → A q) (hn : ¬ n < 0) (hN : n.toNatClampNeg = N') (hbytes : N' * 4 ≤ 536870912) (hcells : cells + 1 ≤ R.cells) (hslots : slots + N' ≤ R.slots) (hdg : decode cc pc = .ok (.anewarray index, 3)) (kk : ∀ (q : Nat) (H1 : Heap), va_P D vwCl (ws ++ [(q, .inl (c t0, N', .inr (.inr (.inr (.inr (fun _ => none))))))]) H1 → va_D A (ws ++ [(q, .inl (c t0, N', .inr (.inr (.inr (.inr (fun _ => none))))))]) → va_S A H0 H1 locs → W p l e R s m args below meth c0 H1 locs (cells + 1) (slots + N') Q (F0 m (pc + 3) ls (.ref q :: rest))) : W p l e R s m args below meth c0 H locs cells slots Q (F0 m pc ls (.int n :: rest)) := by
  obtain ⟨hx, hb, hml, hown, hts⟩ := S
  refine va_newq hx hb hown (hts _ hcl) hover hE.1 hP hD hS hA hn hN hbytes hcells hslots hdg (fun q cA H1 hK hP1 hD1 hS1 => ?_)
  obtain ⟨_, _, _, _, _, h1⟩ := ((hK.2 6 _ rfl).2 : va_RA s cA (.object C))
  obtain ⟨_, _, _, _, _, h2⟩ := ((hE.1.2 t0 _ ht).2 : va_RA s (c t0) (.object C))
  have e1 : cA = c t0 := Option.some.inj (h1.symm.trans h2)
  subst e1
  exact kk q H1 hP1 hD1 hS1
theorem zpuf {own ref C : String} {T : u_T} {N ci index : Nat} {nL : Nat} (S : CallFix p m c0 cc nL s args zT own) (hin : ∀ w ∈ u_ws C T N, w ∈ zT) {ty0 : Nat → FieldType} (hty : ∀ k, k < N → parseFieldDescriptor (T k).2.2.1 = some (ty0 k)) (hnm : ∀ a, a < N → ∀ b, b < N → a ≠ b → (T a).2.1 ≠ (T b).2.1) (hE : zE D c s) (hmn : meth.name = "<init>") (hP : va_P D vwCl ws H) (hD : va_D A ws) (hS : va_S A H0 H locs) (q0 k : Nat) {ty : FieldType} (wn : va_W) {fs : List Value} {v : Value} (he : ws[q0]? = some (a, .inr (ci, fs))) (hc : vwCl[ci]? = some (C, T, N)) (hk : k < N) (hlink : Cond.fieldLink own index ref (T k).2.1 (T k).2.2.1 ∈ zT) (href : (T k).1 = ref) (hfin : (T k).2.2.2 = true) (hdecl : (T k).1 = own) (hd : parseFieldDescriptor (T k).2.2.1 = some ty) (hn : narrow ty v = v) (hfit : fits ty v = true) (hl : k < fs.length) (hw : ws.set q0 (a, .inr (ci, fs.set k v)) = wn) (hdg : decode cc pc = .ok (.putfield index, 3))
    (kk : ∀ (H1 : Heap) (locs1 : List Loc), va_P D vwCl wn H1 → va_D A wn → va_S A H0 H1 locs1 → W p l e R s m args below meth c0 H1 locs1 cells slots Q (F0 m (pc + 3) ls rest)) : W p l e R s m args below meth c0 H locs cells slots Q (F0 m pc ls (v :: .ref a :: rest)) :=
  va_putF S.1 S.2.1 S.2.2.2.2 hin ty0 hty hnm S.2.2.2.1 hE.1 hP hD hS q0 he hc k hk (S.2.2.2.2 _ hlink) (fun x hx => href ▸ hx) hfin hmn hdecl hd hn hfit hl hdg (fun H1 locs1 hP1 hD1 hS1 => kk H1 locs1 (hw ▸ hP1) (hw ▸ hD1) hS1)
theorem znew {own C : String} {T : u_T} {N ci index nL : Nat} (S : CallFix p m c0 cc nL s args zT own) (hin : ∀ w ∈ u_ws C T N, w ∈ zT) {ty : Nat → FieldType} (hty : ∀ k, k < N → parseFieldDescriptor (T k).2.2.1 = some (ty k)) (hcl : Cond.classLink own index C ∈ zT) (hinst : Cond.instantiable C N ∈ zT) (hini : Cond.initialized C ∈ zT) (hE : zE D c s) (hP : va_P D vwCl ws H) (hD : va_D A ws) (hS : va_S A H0 H locs) (hA : ∀ q, H0.size ≤ q → A q) (hc : vwCl[ci]? = some (C, T, N)) {fs : List Value} (hfs : ∀ j, j < N → defaultValue (ty j) = vp_V fs j) (hcells : cells + 1 ≤ R.cells) (hslots : slots + N ≤ R.slots) (hdg : decode cc pc = .ok (.new index, 3)) (kk : ∀ (q : Nat) (H1 : Heap), va_P D vwCl (ws ++ [(q, .inr (ci, fs))]) H1 → va_D A (ws ++ [(q, .inr (ci, fs))]) → va_S A H0 H1 locs → W p l e R s m args below meth c0 H1 locs (cells + 1) (slots + N) Q (F0 m (pc + 3) ls (.ref q :: rest))) : W p l e R s m args below meth c0 H locs cells slots Q (F0 m pc ls rest) :=
  va_new S.1 S.2.1 S.2.2.2.2 hin ty hty S.2.2.2.1 (S.2.2.2.2 _ hcl) (S.2.2.2.2 _ hinst) (S.2.2.2.2 _ hini) hE.1 hP hD hS hA hc hfs hcells hslots hdg kk
theorem zastq (hx : p.tables.exec = Jvm.exec) (hb : c0.code = cc) (hE : zE D c s) (hP : va_P D vwCl ws H) (hD : va_D A ws) (hS : va_S A H0 H locs) (q0 t0 qk ci : Nat) {r : vw_C} {n v : Nat} {vs : List Value} {f g : Nat → Option Nat} (wn : va_W) (ha : ws[q0]? = some (a, .inl (c t0, n, .inr (.inr (.inr (.inr f)))))) (ht : (zTy c)[t0]? = some (c t0, .object r.1)) (hv : ws[qk]? = some (v, .inr (ci, vs))) (hc : vwCl[ci]? = some r) {i : Int32} (hw : ws.set q0 (a, .inl (c t0, n, .inr (.inr (.inr (.inr g))))) = wn) (hg : va_up f i.toNatClampNeg (some v) = g) (hin : vp_in i n) (hdg : decode cc pc = .ok (.aastore, 1)) (kk : ∀ (H1 : Heap) (locs1 : List Loc), va_P D vwCl wn H1 → va_D A wn → va_S A H0 H1 locs1 → W p l e R s m args below meth c0 H1 locs1 cells slots Q (F0 m (pc + 1) ls rest)) : W p l e R s m args below meth c0 H locs cells slots Q (F0 m pc ls (.ref v :: .int i :: .ref a :: rest)) := by
  subst hg
  exact va_astq hx hb hE.1 hP hD hS q0 t0 qk ci ha ht hv hc hin hdg (fun H1 locs1 hP1 hD1 hS1 => kk H1 locs1 (hw ▸ hP1) (hw ▸ hD1) hS1)
/-- the call of a constructor on the cell made last -/
theorem zini {y : MethodName} {bytes : ByteArray} {maxL nL index mc ms : Nat} {rm : Room} {own : String} {b : Nat} {x : va_E} {B : (Nat → Nat → Nat) → va_W} (S : CallFix p m c0 cc nL s args zT own) (hM : zMC l D c y bytes maxL rm b [(b, x)] B mc ms) (mi : zMK y bytes maxL 0) (hlink : Cond.methodLink own index y ∈ zT ∨ ∃ host, (own, index, y, host) ∈ zNl) (hR : rm.frames + 1 ≤ R.frames ∧ 8 + (maxL + 11) + rm.locals ≤ R.locals) (hrm : rm.cells = mc ∧ rm.slots = ms) (hP : va_P D vwCl (ws ++ [(b, x)]) H) (hD : va_D A (ws ++ [(b, x)])) (hS : va_S A s.heap H locs) (hA : ∀ q, s.heap.size ≤ q → A q) (hE : zE D c s) (hX : zX c A s s.heap) (hl : ls.size = nL) (hW : (rest.map fun v => v.category).sum ≤ 8) (hdg : decode cc pc = .ok (.invokespecial index, 3)) (hf : cells + mc ≤ R.cells ∧ slots + ms ≤ R.slots)
    (kk : ∀ (u : Nat → Nat → Nat) (H1 : Heap) (locs1 : List Loc), va_P D vwCl (ws ++ B u) H1 → va_D A (ws ++ B u) → va_S A s.heap H1 locs1 → W p l e R s m args below meth c0 H1 locs1 (cells + mc) (slots + ms) Q (F0 m (pc + 3) ls rest)) : W p l e R s m args below meth c0 H locs cells slots Q (F0 m pc ls (.ref b :: rest)) := by
  have hts := S.2.2.2.2
  have hC : [ws.length].map (fun i => (ws ++ [(b, x)])[i]?) = [(b, x)].map some := by simp
  have hPc : va_P D vwCl [(b, x)] H := zpsub hP hC
  have hDc0 : va_D (fun _ => True) [(b, x)] := (hD.sub [ws.length] rfl hC).weaken (fun _ _ _ _ => trivial)
  have hFc := va_free (wc := [(b, x)]) hD hS hA [ws.length] hC
  have hpre : PreS s H (va_Pc [.ref b] (zPreW D c [(b, x)] H.size)) [.ref b] := ⟨zblindW, fun U hU hW => ⟨rfl, by rw [hU], by rw [hU]; exact hPc, hE.warm hW, hDc0, by rw [hU]; exact ((hX.kept hS.2.1).warm hW).narrow hFc⟩⟩
  have hrun : va_Run p l e R s m args below meth c0 H locs cells slots mc ms (F0 m pc ls (.ref b :: rest)) rest (va_Qv (fun _ : Nat → Nat → Nat => True) (fun u t => va_P D vwCl (B u) t.heap ∧ va_D (va_A [(b, x)] H.size) (B u)) (va_A [(b, x)] H.size) [Value.ref b].toArray) (va_A [(b, x)] H.size) := by
    rcases hlink with hlink | ⟨host, hlink⟩
    · exact va_runI (As := []) (rest := rest) S (hM H.size) ⟨callB_of 0 hts (zG mi.1.2.2) rfl hrm.1 hrm.2 (hts _ mi.1.2.1) (hts _ hlink) mi.2.1 hR, mi.2.2, hts _ mi.1.1⟩ hpre rfl rfl hl rfl (lv_room hW) hdg hf
    · exact va_runIN (As := []) (rest := rest) S (hM H.size) ⟨va_cnB 0 hts (zG mi.1.2.2) rfl hrm.1 hrm.2 (hE.2 _ hlink) (hts _ mi.1.2.1) mi.2.1 hR, mi.2.2, hts _ mi.1.1⟩ hpre rfl rfl hl rfl (lv_room hW) hdg hf
  refine va_callv hrun hS (fun q _ h => hFc q h) hFc (fun u t H1 locs1 ht hvm hw hBB hz1 hk1 hS1 => ?_)
  obtain ⟨hP1, hD1⟩ := hBB
  rw [ht] at hP1
  obtain ⟨hP2, hD2⟩ := va_join (wr := ws) hP hD [ws.length] (List.range ws.length) hC (zmapsome ws (b, x)) (zndr _) (fun i hi h => by simp at hi h; omega) hk1 hFc hP1 hD1
  exact kk u H1 locs1 hP2 hD2 hS1
theorem zmna {own : String} {index nL : Nat} (S : CallFix p m c0 cc nL s args zT own) (hcl : Cond.classLink own index "[[I" ∈ zT) (hE : zE D c s) (hX : zX c A s s.heap) (hP : va_P D vwCl ws H) (hD : va_D A ws) (hS : va_S A s.heap H locs) (hA : ∀ q, s.heap.size ≤ q → A q) (hcells : cells + 17 ≤ R.cells) (hslots : slots + 96 ≤ R.slots) (hdg : decode cc pc = .ok (.multianewarray index 2, 4)) (kk : ∀ (q : Nat) (r : Nat → Nat) (H1 : Heap), va_P D vwCl (ws ++ wG c q r (fun _ _ => 0)) H1 → va_D A (ws ++ wG c q r (fun _ _ => 0)) → va_S A s.heap H1 locs → W p l e R s m args below meth c0 H1 locs (cells + 17) (slots + 96) Q (F0 m (pc + 4) ls (.ref q :: rest))) : W p l e R s m args below meth c0 H locs cells slots Q (F0 m pc ls (.int 5 :: .int 16 :: rest)) := by
  intro T hT X
  obtain ⟨kA, hkA, hkindA⟩ := hX.2.2.2.2.2.2
  obtain ⟨_, k0, hk0, cc0, hkind0⟩ := (hE.1.2 0 _ rfl).1 0 (fun _ => .null)
  have hfA : s.vm.findClass "[[I" = some (c 5) := (hE.1.2 5 _ rfl).2
  obtain ⟨vm₁, X1, step⟩ := zm_step X S.1 S.2.2.2.1 (S.2.2.2.2 _ hcl) hfA hkA hkindA hk0 hkind0 (g := F0 m pc ls (.int 5 :: .int 16 :: rest)) rfl (by rw [S.2.1]; exact hdg) rfl hcells hslots
  have hTh : (T.setVm vm₁).heap = H := hT
  obtain ⟨f1, f2, -, -⟩ := zmF_1 (T.setVm vm₁) (c 5) (c 0) 16
  have f3 : ∀ x : Nat, x < H.size → (zmF (T.setVm vm₁) (c 5) (c 0) 16).heap[x]? = H[x]? := fun x hx => by
    rw [zmF_old (T.setVm vm₁) (c 5) (c 0) (a := x) (by rw [hTh]; exact hx) 16, hTh]
  have f4 := zmF_in (T.setVm vm₁) (c 5) (c 0) 16
  rw [hTh] at f1 f2 f4
  generalize hF : (zmF (T.setVm vm₁) (c 5) (c 0) 16).heap = F at f1 f2 f3 f4
  have hHs : s.heap.size ≤ H.size := hS.1
  have hget : ∀ (k : Nat) (x : Nat × va_E), (wG c H.size (fun i => H.size + 1 + i) (fun _ _ => 0))[k]? = some x → k < 17 ∧ x.1 = H.size + k := fun k x hx => by
    have hk : k < 17 := by
      have := (List.getElem?_eq_some_iff.mp hx).1
      simpa [wG] using this
    refine ⟨hk, ?_⟩
    by_cases c9 : k = 0
    · subst c9
      cases hx
      rfl
    · obtain ⟨j, rfl⟩ : ∃ j, k = 1 + j := ⟨k - 1, by omega⟩
      rw [wG_r (show j < 16 by omega)] at hx
      cases hx
      show H.size + 1 + j = H.size + (1 + j)
      omega
  have hP1 : va_P D vwCl (ws ++ wG c H.size (fun i => H.size + 1 + i) (fun _ _ => 0)) F := by
    refine (hP.kept (fun k x hx => f3 x.1 ((hP k x hx).lt))).app (fun k x hx => ?_)
    by_cases c9 : k = 0
    · subst c9
      cases hx
      exact f2
    · have hk := (hget k x hx).1
      obtain ⟨j, rfl⟩ : ∃ j, k = 1 + j := ⟨k - 1, by omega⟩
      rw [wG_r (show j < 16 by omega)] at hx
      cases hx
      exact f4 j (by omega)
  have hD1 : va_D A (ws ++ wG c H.size (fun i => H.size + 1 + i) (fun _ _ => 0)) := by
    have hg : ∀ (k : Nat) (x : Nat × va_E), (ws ++ wG c H.size (fun i => H.size + 1 + i) (fun _ _ => 0))[k]? = some x → (k < ws.length ∧ ws[k]? = some x ∧ x.1 < H.size) ∨ (ws.length ≤ k ∧ x.1 = H.size + (k - ws.length)) := fun k x hx => by
      by_cases hl : k < ws.length
      · rw [List.getElem?_append_left hl] at hx
        exact Or.inl ⟨hl, hx, (hP k x hx).lt⟩
      · rw [List.getElem?_append_right (by omega)] at hx
        exact Or.inr ⟨by omega, (hget _ x hx).2⟩
    refine ⟨fun i j x y hx hy hxy => ?_, fun k x hx => ?_⟩
    · rcases hg i x hx with q1 | q1 <;> rcases hg j y hy with q2 | q2
      · exact hD.1 i j x y q1.2.1 q2.2.1 hxy
      · omega
      · omega
      · omega
    · rcases hg k x hx with q1 | q1
      · exact hD.2 k x q1.2.1
      · exact hA _ (by omega)
  have hS1 : va_S A s.heap F locs := ⟨by omega, fun q h1 h2 => (f3 q (by omega)).trans (hS.2.1 q h1 h2), hS.2.2⟩
  obtain ⟨t, t1, t2⟩ := kk H.size (fun i => H.size + 1 + i) F hP1 hD1 hS1 (zmF (T.setVm vm₁) (c 5) (c 0) 16) hF X1
  refine ⟨t, step t ?_, t2⟩
  rw [show T.heap.size = H.size by rw [hT]]
  exact t1
theorem zRC {wc : va_W} {sz : Nat} {B : (Nat → Nat → Nat) → va_W} (u : Nat → Nat → Nat) (hAe : A = va_A wc sz) (hQ : Q = MQ below (va_Qv (fun _ : Nat → Nat → Nat => True) (fun u t => va_P D vwCl (B u) t.heap ∧ va_D A (B u)) A) args s cells slots A) (hx : p.tables.exec = Jvm.exec) (hb : c0.code = cc) (hr : meth.sig.returnType = none) (hlk : meth.locks = false) (hP : va_P D vwCl (B u) H) (hD : va_D A (B u)) (hS : va_S A s.heap H locs) (hdg : decode cc pc = .ok (.return_, 1)) : W p l e R s m args below meth c0 H locs cells slots Q (F0 m pc ls []) := by
  subst hQ
  exact W.vret hx hb hr (fun t ht _ => ⟨⟨u, rfl, trivial, by rw [ht]; exact hP, hD⟩, hS.F ht⟩) hS.2.2 hdg hlk
end ZNW
def zNums : Nat → Nat → Int32
  | 0 => fun _ => 0
  | k + 1 => upd (zNums k) (Int32.ofNat k).toNatClampNeg (Int32.ofNat (k + 1))
def zLanes : Nat → Nat → Int32
  | 0 => fun _ => 0
  | k + 1 => upd (zLanes k) (Int32.ofNat k).toNatClampNeg (-1)
def zRow0 : Nat → Int32 := upd (zNums 26) (37 : Int32).toNatClampNeg 3
