/-! ===== what a constructor does ===== -/
abbrev zMC (l : Launch) (D : va_G) (c : Nat → ClassId) (y : MethodName) (cc : ByteArray) (maxL : Nat) (rm : Room) (b : Nat) (wc : va_W) (B : (Nat → Nat → Nat) → va_W) (mc ms : Nat) : Prop := ∀ sz : Nat, Met l y (zW y cc maxL none) rm (va_Pc [.ref b] (zPreW D c wc sz)) (va_Qv (fun _ : Nat → Nat → Nat => True) (fun u t => va_P D vwCl (B u) t.heap ∧ va_D (va_A wc sz) (B u)) (va_A wc sz)) mc ms (va_A wc sz)
def zMK (y : MethodName) (cc : ByteArray) (maxL : Nat) (n : Nat) : Prop := (Cond.instanceMethod y ∈ zT ∧ Cond.initialized y.cls ∈ zT ∧ Cond.code y cc maxL none ∈ zT) ∧ zMD y n ∧ y.name = "<init>"
theorem zmapsome (w : va_W) (x : Nat × va_E) : (List.range w.length).map (fun i => (w ++ [x])[i]?) = w.map some := by
  apply List.ext_getElem?
  intro i
  by_cases h : i < w.length
  · rw [List.getElem?_map, List.getElem?_range h, List.getElem?_map]
    simp [List.getElem?_append_left h, List.getElem?_eq_getElem h]
  · rw [List.getElem?_map, List.getElem?_map, List.getElem?_eq_none (by simp; omega), List.getElem?_eq_none (by omega)]
    rfl
theorem zndr (n : Nat) : va_nd (List.range n) = true := by
  have h : ∀ (l : List Nat), l.Nodup → va_nd l = true := by
    intro l
    induction l with
    | nil => intro _; rfl
    | cons a t ih =>
      intro h
      have h2 := List.nodup_cons.mp h
      show (decide (a ∉ t) && va_nd t) = true
      rw [ih h2.2]
      simp [h2.1]
  exact h _ List.nodup_range
theorem zs0 {A A' B : va_W} {k : Nat} {x y : Nat × va_E} (hA : A[k]? = some y) (h : A.set k x = A') : (A ++ B).set k x = A' ++ B := zsl (List.getElem?_eq_some_iff.mp hA).1 h
theorem zsheets (a b d : Nat) : va_up (va_up (va_up (fun _ => none) (0 : Int32).toNatClampNeg (some a)) (1 : Int32).toNatClampNeg (some b)) (2 : Int32).toNatClampNeg (some d) = (fun i => if i < 3 then some ([a, b, d].getD i 0) else none) := by
  funext i
  match i with
  | 0 => rfl
  | 1 => rfl
  | 2 => rfl
  | k + 3 =>
    rw [if_neg (by omega)]
    unfold va_up
    rw [if_neg (by show ¬ k + 3 = 2; omega), if_neg (by show ¬ k + 3 = 1; omega), if_neg (by show ¬ k + 3 = 0; omega)]
section ZNW
variable {p : Program} {l : Launch} {e : Env} {R : Room} {s : State} {m : MethodId} {args : Array Value} {below : List Frame} {meth : Method} {c0 : Code} {H : Heap} {locs : List Loc} {cells slots : Nat} {Q : State → Prop}
variable {cc : ByteArray} {pc : Nat} {ls : Array Slot} {rest : List Value} {D : va_G} {c : Nat → ClassId} {A : Nat → Prop} {a : Nat} {ws : va_W} {H0 : Heap}
theorem zobj {own : String} {idx nL : Nat} (S : CallFix p m c0 cc nL s args zT own) (hlink : Cond.methodLink own idx Lib.objectInit ∈ zT) (hinst : Cond.instanceMethod Lib.objectInit ∈ zT) (hcode : Cond.code Lib.objectInit ⟨#[0xb1]⟩ 1 none ∈ zT) (hl : ls.size = nL) (hfr : 1 ≤ R.frames) (hlo : (rest.map fun v => v.category).sum + 12 ≤ R.locals) (hd : decode cc pc = .ok (.invokespecial idx, 3)) (kk : W p l e R s m args below meth c0 H locs cells slots Q (F0 m (pc + 3) ls rest)) : W p l e R s m args below meth c0 H locs cells slots Q (F0 m pc ls (.ref a :: rest)) := by
  obtain ⟨hx, hb, hml, hown, hts⟩ := S
  refine W.objInit hx hb hown (hts _ hlink) (hts _ hinst) (hts _ hcode) rfl (by rw [hml]; exact hl) rfl hd hfr (by show 2 * 0 + _ + 12 ≤ _; omega) ?_
  exact W.eq rfl kk
theorem znai {n : Int32} {N' : Nat} (hx : p.tables.exec = Jvm.exec) (hb : c0.code = cc) (hts : ∀ w ∈ zT, w.before args s = true) (harr : Cond.arrayClass .int ∈ zT) (hE : zE D c s) (hP : va_P D vwCl ws H) (hD : va_D A ws) (hS : va_S A H0 H locs) (hA : ∀ q, H0.size ≤ q → A q) (hn : ¬ n < 0) (hN : n.toNatClampNeg = N') (hbytes : N' * 4 ≤ 536870912) (hcells : cells + 1 ≤ R.cells) (hslots : slots + N' ≤ R.slots) (hdg : decode cc pc = .ok (.newarray .int, 2)) (kk : ∀ (q : Nat) (H1 : Heap), va_P D vwCl (ws ++ [(q, .inl (c 0, N', .inl (fun _ => 0)))]) H1 → va_D A (ws ++ [(q, .inl (c 0, N', .inl (fun _ => 0)))]) → va_S A H0 H1 locs → W p l e R s m args below meth c0 H1 locs (cells + 1) (slots + N') Q (F0 m (pc + 2) ls (.ref q :: rest))) : W p l e R s m args below meth c0 H locs cells slots Q (F0 m pc ls (.int n :: rest)) := by
  refine va_newa (atype := .int) (ty := .int) hx hb (hts _ harr) rfl hE.1 hP hD hS hA (a0 := (N', .inl (fun _ => 0))) (fun cA => rfl) hn hN hbytes hcells hslots hdg (fun q cA H1 hK hP1 hD1 hS1 => ?_)
  have e1 : cA = c 0 := Option.some.inj (((hK.2 6 _ rfl).2 : s.vm.findClass _ = some cA).symm.trans ((hE.1.2 0 _ rfl).2 : s.vm.findClass _ = some (c 0)))
  subst e1
  exact kk q H1 hP1 hD1 hS1
theorem znal {n : Int32} {N' : Nat} (hx : p.tables.exec = Jvm.exec) (hb : c0.code = cc) (hts : ∀ w ∈ zT, w.before args s = true) (harr : Cond.arrayClass .long ∈ zT) (hE : zE D c s) (hP : va_P D vwCl ws H) (hD : va_D A ws) (hS : va_S A H0 H locs) (hA : ∀ q, H0.size ≤ q → A q) (hn : ¬ n < 0) (hN : n.toNatClampNeg = N') (hbytes : N' * 8 ≤ 536870912) (hcells : cells + 1 ≤ R.cells) (hslots : slots + N' ≤ R.slots) (hdg : decode cc pc = .ok (.newarray .long, 2)) (kk : ∀ (q : Nat) (H1 : Heap), va_P D vwCl (ws ++ [(q, .inl (c 1, N', .inr (.inl (fun _ => 0))))]) H1 → va_D A (ws ++ [(q, .inl (c 1, N', .inr (.inl (fun _ => 0))))]) → va_S A H0 H1 locs → W p l e R s m args below meth c0 H1 locs (cells + 1) (slots + N') Q (F0 m (pc + 2) ls (.ref q :: rest))) : W p l e R s m args below meth c0 H locs cells slots Q (F0 m pc ls (.int n :: rest)) := by
  refine va_newa (atype := .long) (ty := .long) hx hb (hts _ harr) rfl hE.1 hP hD hS hA (a0 := (N', .inr (.inl (fun _ => 0)))) (fun cA => rfl) hn hN hbytes hcells hslots hdg (fun q cA H1 hK hP1 hD1 hS1 => ?_)
  have e1 : cA = c 1 := Option.some.inj (((hK.2 6 _ rfl).2 : s.vm.findClass _ = some cA).symm.trans ((hE.1.2 1 _ rfl).2 : s.vm.findClass _ = some (c 1)))
  subst e1
  exact kk q H1 hP1 hD1 hS1
theorem znaz {n : Int32} {N' : Nat} (hx : p.tables.exec = Jvm.exec) (hb : c0.code = cc) (hts : ∀ w ∈ zT, w.before args s = true) (harr : Cond.arrayClass .boolean ∈ zT) (hE : zE D c s) (hP : va_P D vwCl ws H) (hD : va_D A ws) (hS : va_S A H0 H locs) (hA : ∀ q, H0.size ≤ q → A q) (hn : ¬ n < 0) (hN : n.toNatClampNeg = N') (hbytes : N' * 1 ≤ 536870912) (hcells : cells + 1 ≤ R.cells) (hslots : slots + N' ≤ R.slots) (hdg : decode cc pc = .ok (.newarray .boolean, 2)) (kk : ∀ (q : Nat) (H1 : Heap), va_P D vwCl (ws ++ [(q, .inl (c 2, N', .inl (fun _ => 0)))]) H1 → va_D A (ws ++ [(q, .inl (c 2, N', .inl (fun _ => 0)))]) → va_S A H0 H1 locs → W p l e R s m args below meth c0 H1 locs (cells + 1) (slots + N') Q (F0 m (pc + 2) ls (.ref q :: rest))) : W p l e R s m args below meth c0 H locs cells slots Q (F0 m pc ls (.int n :: rest)) := by
  refine va_newa (atype := .boolean) (ty := .boolean) hx hb (hts _ harr) rfl hE.1 hP hD hS hA (a0 := (N', .inl (fun _ => 0))) (fun cA => rfl) hn hN hbytes hcells hslots hdg (fun q cA H1 hK hP1 hD1 hS1 => ?_)
  have e1 : cA = c 2 := Option.some.inj (((hK.2 6 _ rfl).2 : s.vm.findClass _ = some cA).symm.trans ((hE.1.2 2 _ rfl).2 : s.vm.findClass _ = some (c 2)))
  subst e1
  exact kk q H1 hP1 hD1 hS1
theorem znaq {C : String} (t0 : Nat) {n : Int32} {N' : Nat} {own : String} {index nL : Nat} (S : CallFix p m c0 cc nL s args zT own) (hcl : Cond.classLink own index C ∈ zT) (hover : va_AO C s) (ht : (zTy c)[t0]? = some (c t0, .object C)) (hE : zE D c s) (hP : va_P D vwCl ws H) (hD : va_D A ws) (hS : va_S A H0 H locs) (hA : ∀ q, H0.size ≤ q → A q) (hn : ¬ n < 0) (hN : n.toNatClampNeg = N') (hbytes : N' * 4 ≤ 536870912) (hcells : cells + 1 ≤ R.cells) (hslots : slots + N' ≤ R.slots) (hdg : decode cc pc = .ok (.anewarray index, 3)) (kk : ∀ (q : Nat) (H1 : Heap), va_P D vwCl (ws ++ [(q, .inl (c t0, N', .inr (.inr (.inr (.inr (fun _ => none))))))]) H1 → va_D A (ws ++ [(q, .inl (c t0, N', .inr (.inr (.inr (.inr (fun _ => none))))))]) → va_S A H0 H1 locs → W p l e R s m args below meth c0 H1 locs (cells + 1) (slots + N') Q (F0 m (pc + 3) ls (.ref q :: rest))) : W p l e R s m args below meth c0 H locs cells slots Q (F0 m pc ls (.int n :: rest)) := by
  obtain ⟨hx, hb, hml, hown, hts⟩ := S
  refine va_newq hx hb hown (hts _ hcl) hover hE.1 hP hD hS hA hn hN hbytes hcells hslots hdg (fun q cA H1 hK hP1 hD1 hS1 => ?_)
  obtain ⟨_, _, _, _, _, h1⟩ := ((hK.2 6 _ rfl).2 : va_RA s cA (.object C))
  obtain ⟨_, _, _, _, _, h2⟩ := ((hE.1.2 t0 _ ht).2 : va_RA s (c t0) (.object C))
  have e1 : cA = c t0 := Option.some.inj (h1.symm.trans h2)
  subst e1
  exact kk q H1 hP1 hD1 hS1
theorem zpuf {own ref C : String} {T : u_T} {N ci index : Nat} {nL : Nat} (S : CallFix p m c0 cc nL s args zT own) (hin : ∀ w ∈ u_ws C T N, w ∈ zT) {ty0 : Nat → FieldType} (hty : ∀ k, k < N → parseFieldDescriptor (T k).2.2.1 = some (ty0 k)) (hnm : ∀ a, a < N → ∀ b, b < N → a ≠ b → (T a).2.1 ≠ (T b).2.1) (hE : zE D c s) (hmn : meth.name = "<init>") (hP : va_P D vwCl ws H) (hD : va_D A ws) (hS : va_S A H0 H locs) (q0 k : Nat) {ty : FieldType} (wn : va_W) {fs : List Value} {v : Value} (he : ws[q0]? = some (a, .inr (ci, fs))) (hc : vwCl[ci]? = some (C, T, N)) (hk : k < N) (hlink : Cond.fieldLink own index ref (T k).2.1 (T k).2.2.1 ∈ zT) (href : (T k).1 = ref) (hfin : (T k).2.2.2 = true) (hdecl : (T k).1 = own) (hd : parseFieldDescriptor (T k).2.2.1 = some ty) (hn : narrow ty v = v) (hfit : fits ty v = true) (hl : k < fs.length) (hw : ws.set q0 (a, .inr (ci, fs.set k v)) = wn) (hdg : decode cc pc = .ok (.putfield index, 3))
    (kk : ∀ (H1 : Heap) (locs1 : List Loc), va_P D vwCl wn H1 → va_D A wn → va_S A H0 H1 locs1 → W p l e R s m args below meth c0 H1 locs1 cells slots Q (F0 m (pc + 3) ls rest)) : W p l e R s m args below meth c0 H locs cells slots Q (F0 m pc ls (v :: .ref a :: rest)) :=
  va_putF S.1 S.2.1 S.2.2.2.2 hin ty0 hty hnm S.2.2.2.1 hE.1 hP hD hS q0 he hc k hk (S.2.2.2.2 _ hlink) (fun x hx => href ▸ hx) hfin hmn hdecl hd hn hfit hl hdg (fun H1 locs1 hP1 hD1 hS1 => kk H1 locs1 (hw ▸ hP1) (hw ▸ hD1) hS1)
theorem znew {own C : String} {T : u_T} {N ci index nL : Nat} (S : CallFix p m c0 cc nL s args zT own) (hin : ∀ w ∈ u_ws C T N, w ∈ zT) {ty : Nat → FieldType} (hty : ∀ k, k < N → parseFieldDescriptor (T k).2.2.1 = some (ty k)) (hcl : Cond.classLink own index C ∈ zT) (hinst : Cond.instantiable C N ∈ zT) (hini : Cond.initialized C ∈ zT) (hE : zE D c s) (hP : va_P D vwCl ws H) (hD : va_D A ws) (hS : va_S A H0 H locs) (hA : ∀ q, H0.size ≤ q → A q) (hc : vwCl[ci]? = some (C, T, N)) {fs : List Value} (hfs : ∀ j, j < N → defaultValue (ty j) = vp_V fs j) (hcells : cells + 1 ≤ R.cells) (hslots : slots + N ≤ R.slots) (hdg : decode cc pc = .ok (.new index, 3)) (kk : ∀ (q : Nat) (H1 : Heap), va_P D vwCl (ws ++ [(q, .inr (ci, fs))]) H1 → va_D A (ws ++ [(q, .inr (ci, fs))]) → va_S A H0 H1 locs → W p l e R s m args below meth c0 H1 locs (cells + 1) (slots + N) Q (F0 m (pc + 3) ls (.ref q :: rest))) : W p l e R s m args below meth c0 H locs cells slots Q (F0 m pc ls rest) :=
  va_new S.1 S.2.1 S.2.2.2.2 hin ty hty S.2.2.2.1 (S.2.2.2.2 _ hcl) (S.2.2.2.2 _ hinst) (S.2.2.2.2 _ hini) hE.1 hP hD hS hA hc hfs hcells hslots hdg kk
theorem zastq (hx : p.tables.exec = Jvm.exec) (hb : c0.code = cc) (hE : zE D c s) (hP : va_P D vwCl ws H) (hD : va_D A ws) (hS : va_S A H0 H locs) (q0 t0 qk ci : Nat) {r : vw_C} {n v : Nat} {vs : List Value} {f g : Nat → Option Nat} (wn : va_W) (ha : ws[q0]? = some (a, .inl (c t0, n, .inr (.inr (.inr (.inr f)))))) (ht : (zTy c)[t0]? = some (c t0, .object r.1)) (hv : ws[qk]? = some (v, .inr (ci, vs))) (hc : vwCl[ci]? = some r) {i : Int32} (hw : ws.set q0 (a, .inl (c t0, n, .inr (.inr (.inr (.inr g))))) = wn) (hg : va_up f i.toNatClampNeg (some v) = g) (hin : vp_in i n) (hdg : decode cc pc = .ok (.aastore, 1)) (kk : ∀ (H1 : Heap) (locs1 : List Loc), va_P D vwCl wn H1 → va_D A wn → va_S A H0 H1 locs1 → W p l e R s m args below meth c0 H1 locs1 cells slots Q (F0 m (pc + 1) ls rest)) : W p l e R s m args below meth c0 H locs cells slots Q (F0 m pc ls (.ref v :: .int i :: .ref a :: rest)) := by
  subst hg
  exact va_astq hx hb hE.1 hP hD hS q0 t0 qk ci ha ht hv hc hin hdg (fun H1 locs1 hP1 hD1 hS1 => kk H1 locs1 (hw ▸ hP1) (hw ▸ hD1) hS1)
/-- the call of a constructor on the cell made last -/
theorem zini {y : MethodName} {bytes : ByteArray} {maxL nL index mc ms : Nat} {rm : Room} {own : String} {b : Nat} {x : va_E} {B : (Nat → Nat → Nat) → va_W} (S : CallFix p m c0 cc nL s args zT own) (hM : zMC l D c y bytes maxL rm b [(b, x)] B mc ms) (mi : zMK y bytes maxL 0) (hlink : Cond.methodLink own index y ∈ zT ∨ ∃ host, (own, index, y, host) ∈ zNl) (hR : rm.frames + 1 ≤ R.frames ∧ 8 + (maxL + 11) + rm.locals ≤ R.locals) (hrm : rm.cells = mc ∧ rm.slots = ms) (hP : va_P D vwCl (ws ++ [(b, x)]) H) (hD : va_D A (ws ++ [(b, x)])) (hS : va_S A s.heap H locs) (hA : ∀ q, s.heap.size ≤ q → A q) (hE : zE D c s) (hX : zX c A s s.heap) (hl : ls.size = nL) (hW : (rest.map fun v => v.category).sum ≤ 8) (hdg : decode cc pc = .ok (.invokespecial index, 3)) (hf : cells + mc ≤ R.cells ∧ slots + ms ≤ R.slots)
    (kk : ∀ (u : Nat → Nat → Nat) (H1 : Heap) (locs1 : List Loc), va_P D vwCl (ws ++ B u) H1 → va_D A (ws ++ B u) → va_S A s.heap H1 locs1 → W p l e R s m args below meth c0 H1 locs1 (cells + mc) (slots + ms) Q (F0 m (pc + 3) ls rest)) : W p l e R s m args below meth c0 H locs cells slots Q (F0 m pc ls (.ref b :: rest)) := by
  have hts := S.2.2.2.2
  have hC : [ws.length].map (fun i => (ws ++ [(b, x)])[i]?) = [(b, x)].map some := by simp
  have hPc : va_P D vwCl [(b, x)] H := zpsub hP hC
  have hDc0 : va_D (fun _ => True) [(b, x)] := (hD.sub [ws.length] rfl hC).weaken (fun _ _ _ _ => trivial)
  have hFc := va_free (wc := [(b, x)]) hD hS hA [ws.length] hC
  have hpre : PreS s H (va_Pc [.ref b] (zPreW D c [(b, x)] H.size)) [.ref b] := ⟨zblindW, fun U hU hW => ⟨rfl, by rw [hU], by rw [hU]; exact hPc, hE.warm hW, hDc0, by rw [hU]; exact ((hX.kept hS.2.1).warm hW).narrow hFc⟩⟩
  have hrun : va_Run p l e R s m args below meth c0 H locs cells slots mc ms (F0 m pc ls (.ref b :: rest)) rest (va_Qv (fun _ : Nat → Nat → Nat => True) (fun u t => va_P D vwCl (B u) t.heap ∧ va_D (va_A [(b, x)] H.size) (B u)) (va_A [(b, x)] H.size) [Value.ref b].toArray) (va_A [(b, x)] H.size) := by
    rcases hlink with hlink | ⟨host, hlink⟩
    · exact va_runI (As := []) (rest := rest) S (hM H.size) ⟨callB_of 0 hts (zG mi.1.2.2) rfl hrm.1 hrm.2 (hts _ mi.1.2.1) (hts _ hlink) mi.2.1 hR, mi.2.2, hts _ mi.1.1⟩ hpre rfl rfl hl rfl (lv_room hW) hdg hf
    · exact va_runIN (As := []) (rest := rest) S (hM H.size) ⟨va_cnB 0 hts (zG mi.1.2.2) rfl hrm.1 hrm.2 (hE.2 _ hlink) (hts _ mi.1.2.1) mi.2.1 hR, mi.2.2, hts _ mi.1.1⟩ hpre rfl rfl hl rfl (lv_room hW) hdg hf
  refine va_callv hrun hS (fun q _ h => hFc q h) hFc (fun u t H1 locs1 ht hvm hw hBB hz1 hk1 hS1 => ?_)
  obtain ⟨hP1, hD1⟩ := hBB
  rw [ht] at hP1
  obtain ⟨hP2, hD2⟩ := va_join (wr := ws) hP hD [ws.length] (List.range ws.length) hC (zmapsome ws (b, x)) (zndr _) (fun i hi h => by simp at hi h; omega) hk1 hFc hP1 hD1
  exact kk u H1 locs1 hP2 hD2 hS1
theorem zmna {own : String} {index nL : Nat} (S : CallFix p m c0 cc nL s args zT own) (hcl : Cond.classLink own index "[[I" ∈ zT) (hE : zE D c s) (hX : zX c A s s.heap) (hP : va_P D vwCl ws H) (hD : va_D A ws) (hS : va_S A s.heap H locs) (hA : ∀ q, s.heap.size ≤ q → A q) (hcells : cells + 17 ≤ R.cells) (hslots : slots + 96 ≤ R.slots) (hdg : decode cc pc = .ok (.multianewarray index 2, 4)) (kk : ∀ (q : Nat) (r : Nat → Nat) (H1 : Heap), va_P D vwCl (ws ++ wG c q r (fun _ _ => 0)) H1 → va_D A (ws ++ wG c q r (fun _ _ => 0)) → va_S A s.heap H1 locs → W p l e R s m args below meth c0 H1 locs (cells + 17) (slots + 96) Q (F0 m (pc + 4) ls (.ref q :: rest))) : W p l e R s m args below meth c0 H locs cells slots Q (F0 m pc ls (.int 5 :: .int 16 :: rest)) := by
  sorry
theorem zRC {wc : va_W} {sz : Nat} {B : (Nat → Nat → Nat) → va_W} (u : Nat → Nat → Nat) (hAe : A = va_A wc sz) (hQ : Q = MQ below (va_Qv (fun _ : Nat → Nat → Nat => True) (fun u t => va_P D vwCl (B u) t.heap ∧ va_D A (B u)) A) args s cells slots A) (hx : p.tables.exec = Jvm.exec) (hb : c0.code = cc) (hr : meth.sig.returnType = none) (hlk : meth.locks = false) (hP : va_P D vwCl (B u) H) (hD : va_D A (B u)) (hS : va_S A s.heap H locs) (hdg : decode cc pc = .ok (.return_, 1)) : W p l e R s m args below meth c0 H locs cells slots Q (F0 m pc ls []) := by
  subst hQ
  exact W.vret hx hb hr (fun t ht _ => ⟨⟨u, rfl, trivial, by rw [ht]; exact hP, hD⟩, hS.F ht⟩) hS.2.2 hdg hlk
end ZNW
def zNums : Nat → Nat → Int32
  | 0 => fun _ => 0
  | k + 1 => upd (zNums k) (Int32.ofNat k).toNatClampNeg (Int32.ofNat (k + 1))
def zLanes : Nat → Nat → Int32
  | 0 => fun _ => 0
  | k + 1 => upd (zLanes k) (Int32.ofNat k).toNatClampNeg (-1)
def zRow0 : Nat → Int32 := upd (zNums 26) (37 : Int32).toNatClampNeg 3
