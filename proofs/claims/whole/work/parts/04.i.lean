section ZZ2
variable {p : Program} {l : Launch} {e : Env} {R : Room} {s : State} {m : MethodId} {args : Array Value} {below : List Frame} {meth : Method} {c0 : Code} {H : Heap} {locs : List Loc} {cells slots : Nat} {Q : State → Prop}
variable {cc : ByteArray} {pc : Nat} {ls : Array Slot} {rest : List Value} {D : va_G} {c : Nat → ClassId} {A : Nat → Prop} {a : Nat} {ws : va_W} {H0 : Heap}
theorem zpnil : va_P D vwCl [] H := fun k q h => by simp at h
def zz_cp (sp dp n : Int32) (n0 n1 : Nat) : Bool := decide (0 ≤ sp.toInt ∧ 0 ≤ dp.toInt ∧ 0 ≤ n.toInt ∧ sp.toInt + n.toInt ≤ n0 ∧ dp.toInt + n.toInt ≤ n1)
theorem zz_nonneg {x : Int32} (h : 0 ≤ x.toInt) : ¬ x < 0 := fun q => by
  have := Int32.lt_iff_toInt_lt.mp q
  simp at this
  omega
theorem zz_clamp {x : Int32} (h : 0 ≤ x.toInt) : (x.toNatClampNeg : Int) = x.toInt := by
  unfold Int32.toNatClampNeg; omega
theorem zz_cp_1 {sp dp n : Int32} {n0 n1 : Nat} (h : zz_cp sp dp n n0 n1 = true) : ¬ sp < 0 := zz_nonneg (of_decide_eq_true h).1
theorem zz_cp_2 {sp dp n : Int32} {n0 n1 : Nat} (h : zz_cp sp dp n n0 n1 = true) : ¬ dp < 0 := zz_nonneg (of_decide_eq_true h).2.1
theorem zz_cp_3 {sp dp n : Int32} {n0 n1 : Nat} (h : zz_cp sp dp n n0 n1 = true) : ¬ n < 0 := zz_nonneg (of_decide_eq_true h).2.2.1
theorem zz_cp_4 {sp dp n : Int32} {n0 n1 : Nat} (h : zz_cp sp dp n n0 n1 = true) : sp.toNatClampNeg + n.toNatClampNeg ≤ n0 := by
  have h := of_decide_eq_true h
  have := zz_clamp h.1
  have := zz_clamp h.2.2.1
  omega
theorem zz_cp_5 {sp dp n : Int32} {n0 n1 : Nat} (h : zz_cp sp dp n n0 n1 = true) : dp.toNatClampNeg + n.toNatClampNeg ≤ n1 := by
  have h := of_decide_eq_true h
  have := zz_clamp h.2.1
  have := zz_clamp h.2.2.1
  omega
theorem zcpi (hx : p.tables.exec = Jvm.exec) (hb : c0.code = cc) (hml : c0.maxLocals = ls.size) {own : String} {index : Nat} (hown : s.vm.findClass own = some m.cls) (hlink : (Cond.methodLink own index arraycopyName).before args s = true) (hnat : (Cond.native arraycopyName).before args s = true) (hstat : (Cond.static arraycopyName).before args s = true) (hini : (Cond.initialized "java/lang/System").before args s = true) (hE : zE D c s) (hP : va_P D vwCl ws H) (hD : va_D A ws) (hS : va_S A H0 H locs) (q0 q1 : Nat) {a0 : Nat} {n0 n1 : Nat} {f g g1 : Nat → Int32} (wn : va_W) (ha0 : ws[q0]? = some (a0, .inl (c 0, n0, .inl f))) (ha1 : ws[q1]? = some (a, .inl (c 0, n1, .inl g))) (hw : ws.set q1 (a, .inl (c 0, n1, .inl g1)) = wn) {sp dp n : Int32} (hg : va_cpy f g sp.toNatClampNeg dp.toNatClampNeg n.toNatClampNeg = g1) (h1 : ¬ sp < 0) (h2 : ¬ dp < 0) (h3 : ¬ n < 0) (h4 : sp.toNatClampNeg + n.toNatClampNeg ≤ n0) (h5 : dp.toNatClampNeg + n.toNatClampNeg ≤ n1) (hframes : 1 ≤ R.frames) (hlocals : (rest.map fun v => v.category).sum + (nativeFrameWords "java/lang/System" "arraycopy" 5 + 11) ≤ R.locals) (hdg : decode cc pc = .ok (.invokestatic index, 3)) (kk : ∀ (H1 : Heap) (locs1 : List Loc), va_P D vwCl wn H1 → va_D A wn → va_S A H0 H1 locs1 → W p l e R s m args below meth c0 H1 locs1 cells slots Q (F0 m (pc + 3) ls rest)) : W p l e R s m args below meth c0 H locs cells slots Q (F0 m pc ls (.int n :: .int dp :: .ref a :: .int sp :: .ref a0 :: rest)) := by
  subst hg
  exact va_copyi hx hb hml hown hlink hnat hstat hini hE.1 hP hD hS q0 q1 0 0 ha0 ha1 rfl rfl rfl h1 h2 h3 h4 h5 (fun _ _ => rfl) hframes hlocals hdg (fun H1 locs1 hP1 hD1 hS1 => kk H1 locs1 (hw ▸ hP1) (hw ▸ hD1) hS1)
theorem zcpl (hx : p.tables.exec = Jvm.exec) (hb : c0.code = cc) (hml : c0.maxLocals = ls.size) {own : String} {index : Nat} (hown : s.vm.findClass own = some m.cls) (hlink : (Cond.methodLink own index arraycopyName).before args s = true) (hnat : (Cond.native arraycopyName).before args s = true) (hstat : (Cond.static arraycopyName).before args s = true) (hini : (Cond.initialized "java/lang/System").before args s = true) (hE : zE D c s) (hP : va_P D vwCl ws H) (hD : va_D A ws) (hS : va_S A H0 H locs) (q0 q1 : Nat) {a0 : Nat} {n0 n1 : Nat} {f g g1 : Nat → Int64} (wn : va_W) (ha0 : ws[q0]? = some (a0, .inl (c 1, n0, .inr (.inl f)))) (ha1 : ws[q1]? = some (a, .inl (c 1, n1, .inr (.inl g)))) (hw : ws.set q1 (a, .inl (c 1, n1, .inr (.inl g1))) = wn) {sp dp n : Int32} (hg : va_cpy f g sp.toNatClampNeg dp.toNatClampNeg n.toNatClampNeg = g1) (h1 : ¬ sp < 0) (h2 : ¬ dp < 0) (h3 : ¬ n < 0) (h4 : sp.toNatClampNeg + n.toNatClampNeg ≤ n0) (h5 : dp.toNatClampNeg + n.toNatClampNeg ≤ n1) (hframes : 1 ≤ R.frames) (hlocals : (rest.map fun v => v.category).sum + (nativeFrameWords "java/lang/System" "arraycopy" 5 + 11) ≤ R.locals) (hdg : decode cc pc = .ok (.invokestatic index, 3)) (kk : ∀ (H1 : Heap) (locs1 : List Loc), va_P D vwCl wn H1 → va_D A wn → va_S A H0 H1 locs1 → W p l e R s m args below meth c0 H1 locs1 cells slots Q (F0 m (pc + 3) ls rest)) : W p l e R s m args below meth c0 H locs cells slots Q (F0 m pc ls (.int n :: .int dp :: .ref a :: .int sp :: .ref a0 :: rest)) := by
  subst hg
  exact va_copyl hx hb hml hown hlink hnat hstat hini hE.1 hP hD hS q0 q1 1 1 ha0 ha1 rfl rfl rfl h1 h2 h3 h4 h5 (fun _ _ => rfl) hframes hlocals hdg (fun H1 locs1 hP1 hD1 hS1 => kk H1 locs1 (hw ▸ hP1) (hw ▸ hD1) hS1)
end ZZ2
theorem zz_out_0_4 {x : Int32} (h0 : ¬ x = 0) (h1 : ¬ x = 1) (h2 : ¬ x = 2) (h3 : ¬ x = 3) (h4 : ¬ x = 4) : x.toInt < 0 ∨ 4 < x.toInt := by
  have e0 : x.toInt ≠ 0 := fun e => h0 (Int32.toInt_inj.mp e)
  have e1 : x.toInt ≠ 1 := fun e => h1 (Int32.toInt_inj.mp e)
  have e2 : x.toInt ≠ 2 := fun e => h2 (Int32.toInt_inj.mp e)
  have e3 : x.toInt ≠ 3 := fun e => h3 (Int32.toInt_inj.mp e)
  have e4 : x.toInt ≠ 4 := fun e => h4 (Int32.toInt_inj.mp e)
  omega
