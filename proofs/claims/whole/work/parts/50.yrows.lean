/-! constructors: worlds as lists of cells, that grow -/
def yG (p : Program) (l : Launch) (e : Env) (R : Room) (s : State) (m : MethodId) (args : Array Value) (below : List Frame) (meth : Method) (c : Code) (Q : State → Prop) (nL : Nat) (D : va_G) (A : Nat → Prop) (cs sl : Nat) (ws : va_W) (pc : Nat) (lv : List (Nat × Value)) (st : List Value) : Prop :=
  ∀ (H : Heap) (locs : List Loc) (ls : Array Slot), lv_has ls nL lv → va_P D vwCl ws H → va_D A ws → va_S A s.heap H locs → W p l e R s m args below meth c H locs cs sl Q (F0 m pc ls st)
def yX (p : Program) (s : State) (m : MethodId) (args : Array Value) (meth : Method) (c : Code) (cc : ByteArray) (nL : Nat) (own : String) (D : va_G) (tys : List (ClassId × FieldType)) (A : Nat → Prop) : Prop :=
  p.tables.exec = Jvm.exec ∧ c.code = cc ∧ c.maxLocals = nL ∧ s.vm.findClass own = some m.cls ∧ (∀ k ∈ lw_g, k.before args s = true) ∧ (∀ k ∈ lw_n, va_Nw k s) ∧ va_K D vwCl tys s ∧ (∀ q, s.heap.size ≤ q → A q) ∧ meth.name = "<init>"
section YROWS
variable {p : Program} {l : Launch} {e : Env} {R : Room} {s : State} {m : MethodId} {args : Array Value} {below : List Frame} {meth : Method} {c : Code} {Q : State → Prop} {nL : Nat} {D : va_G} {A : Nat → Prop} {cc : ByteArray} {own : String} {tys : List (ClassId × FieldType)} {cs sl : Nat} {ws : va_W} {pc : Nat} {lv lv' : List (Nat × Value)} {rest st : List Value}
theorem y_iload_n (X : yX p s m args meth c cc nL own D tys A) {kk : Fin 4} {i : Nat} {v : Int32} (d : decode cc pc = .ok (.iload_n kk, 1)) (hi : (kk : Nat) = i) (j : Nat) (hj : lv[j]? = some (i, .int v)) (k : yG p l e R s m args below meth c Q nL D A cs sl ws (pc + 1) lv (.int v :: rest)) : yG p l e R s m args below meth c Q nL D A cs sl ws pc lv rest := fun H locs ls hl hP hD hS => lv_iload_n X.1 X.2.1 d hi (lv_at hl j hj) (k H locs ls hl hP hD hS)
theorem y_istore_n (X : yX p s m args meth c cc nL own D tys A) {kk : Fin 4} {i : Nat} {v : Int32} (d : decode cc pc = .ok (.istore_n kk, 1)) (hi : (kk : Nat) = i) (hn : i < nL) (hl : (i, Value.int v) :: lv.filter (fun q => !(q.1 == i) && !(q.1 + 1 == i && q.2.category == 2)) = lv') (k : yG p l e R s m args below meth c Q nL D A cs sl ws (pc + 1) lv' rest) : yG p l e R s m args below meth c Q nL D A cs sl ws pc lv (.int v :: rest) := fun H locs ls h hP hD hS => lv_istore_n X.1 X.2.1 d hi h hn hl (fun ls h => k H locs ls h hP hD hS)
theorem y_aload_n (X : yX p s m args meth c cc nL own D tys A) {kk : Fin 4} {i : Nat} {v : Nat} (d : decode cc pc = .ok (.aload_n kk, 1)) (hi : (kk : Nat) = i) (j : Nat) (hj : lv[j]? = some (i, .ref v)) (k : yG p l e R s m args below meth c Q nL D A cs sl ws (pc + 1) lv (.ref v :: rest)) : yG p l e R s m args below meth c Q nL D A cs sl ws pc lv rest := fun H locs ls hl hP hD hS => lv_aload_n X.1 X.2.1 d hi (lv_at hl j hj) (k H locs ls hl hP hD hS)
theorem y_astore_n (X : yX p s m args meth c cc nL own D tys A) {kk : Fin 4} {i : Nat} {v : Nat} (d : decode cc pc = .ok (.astore_n kk, 1)) (hi : (kk : Nat) = i) (hn : i < nL) (hl : (i, Value.ref v) :: lv.filter (fun q => !(q.1 == i) && !(q.1 + 1 == i && q.2.category == 2)) = lv') (k : yG p l e R s m args below meth c Q nL D A cs sl ws (pc + 1) lv' rest) : yG p l e R s m args below meth c Q nL D A cs sl ws pc lv (.ref v :: rest) := fun H locs ls h hP hD hS => lv_astore_n X.1 X.2.1 d hi h hn hl (fun ls h => k H locs ls h hP hD hS)
theorem y_iconst (X : yX p s m args meth c cc nL own D tys A) {n : Int} {v : Int32} (d : decode cc pc = .ok (.iconst n, 1)) (hv : Int32.ofInt n = v) (k : yG p l e R s m args below meth c Q nL D A cs sl ws (pc + 1) lv (.int v :: rest)) : yG p l e R s m args below meth c Q nL D A cs sl ws pc lv (rest) := fun H locs ls hl hP hD hS => lv_iconst X.1 X.2.1 d hv (k H locs ls hl hP hD hS)
theorem y_bipush (X : yX p s m args meth c cc nL own D tys A) {n : Int} {v : Int32} (d : decode cc pc = .ok (.bipush n, 2)) (hv : (Int8.ofInt n).toInt32 = v) (k : yG p l e R s m args below meth c Q nL D A cs sl ws (pc + 2) lv (.int v :: rest)) : yG p l e R s m args below meth c Q nL D A cs sl ws pc lv (rest) := fun H locs ls hl hP hD hS => lv_bipush X.1 X.2.1 d hv (k H locs ls hl hP hD hS)
theorem y_sipush (X : yX p s m args meth c cc nL own D tys A) {n : Int} {v : Int32} (d : decode cc pc = .ok (.sipush n, 3)) (hv : (Int16.ofInt n).toInt32 = v) (k : yG p l e R s m args below meth c Q nL D A cs sl ws (pc + 3) lv (.int v :: rest)) : yG p l e R s m args below meth c Q nL D A cs sl ws pc lv (rest) := fun H locs ls hl hP hD hS => lv_sipush X.1 X.2.1 d hv (k H locs ls hl hP hD hS)
theorem y_lconst (X : yX p s m args meth c cc nL own D tys A) {n : Fin 2} {v : Int64} (d : decode cc pc = .ok (.lconst n, 1)) (hv : Int64.ofNat (n : Nat) = v) (k : yG p l e R s m args below meth c Q nL D A cs sl ws (pc + 1) lv (.long v :: rest)) : yG p l e R s m args below meth c Q nL D A cs sl ws pc lv (rest) := fun H locs ls hl hP hD hS => lv_lconst X.1 X.2.1 d hv (k H locs ls hl hP hD hS)
theorem y_iadd (X : yX p s m args meth c cc nL own D tys A) {a b v : Int32} (d : decode cc pc = .ok (.iadd, 1)) (hv : a + b = v) (k : yG p l e R s m args below meth c Q nL D A cs sl ws (pc + 1) lv (.int v :: rest)) : yG p l e R s m args below meth c Q nL D A cs sl ws pc lv (.int b :: .int a :: rest) := fun H locs ls hl hP hD hS => lv_iadd X.1 X.2.1 d (by rw [hv]; exact k H locs ls hl hP hD hS)
theorem y_isub (X : yX p s m args meth c cc nL own D tys A) {a b v : Int32} (d : decode cc pc = .ok (.isub, 1)) (hv : a - b = v) (k : yG p l e R s m args below meth c Q nL D A cs sl ws (pc + 1) lv (.int v :: rest)) : yG p l e R s m args below meth c Q nL D A cs sl ws pc lv (.int b :: .int a :: rest) := fun H locs ls hl hP hD hS => lv_isub X.1 X.2.1 d (by rw [hv]; exact k H locs ls hl hP hD hS)
theorem y_imul (X : yX p s m args meth c cc nL own D tys A) {a b v : Int32} (d : decode cc pc = .ok (.imul, 1)) (hv : a * b = v) (k : yG p l e R s m args below meth c Q nL D A cs sl ws (pc + 1) lv (.int v :: rest)) : yG p l e R s m args below meth c Q nL D A cs sl ws pc lv (.int b :: .int a :: rest) := fun H locs ls hl hP hD hS => lv_imul X.1 X.2.1 d (by rw [hv]; exact k H locs ls hl hP hD hS)
theorem y_dup (X : yX p s m args meth c cc nL own D tys A) {a : Value} (d : decode cc pc = .ok (.dup, 1)) (ha : a.category = 1) (k : yG p l e R s m args below meth c Q nL D A cs sl ws (pc + 1) lv (a :: a :: rest)) : yG p l e R s m args below meth c Q nL D A cs sl ws pc lv (a :: rest) := fun H locs ls hl hP hD hS => lv_dup X.1 X.2.1 d ha (k H locs ls hl hP hD hS)
theorem y_goto (X : yX p s m args meth c cc nL own D tys A) {off : Int} (tgt : Nat) (d : decode cc pc = .ok (.goto off, 3)) (ht : (pc : Int) + off = (tgt : Int)) (k : yG p l e R s m args below meth c Q nL D A cs sl ws tgt lv rest) : yG p l e R s m args below meth c Q nL D A cs sl ws pc lv rest := fun H locs ls hl hP hD hS => lv_goto X.1 X.2.1 d ht (k H locs ls hl hP hD hS)
theorem y_if_eq_t (X : yX p s m args meth c cc nL own D tys A) {a : Int32} {off : Int} (tgt : Nat) (d : decode cc pc = .ok (.ifCond .eq off, 3)) (ht : (pc : Int) + off = (tgt : Int)) (ha : a = 0) (k : yG p l e R s m args below meth c Q nL D A cs sl ws tgt lv rest) : yG p l e R s m args below meth c Q nL D A cs sl ws pc lv (.int a :: rest) := fun H locs ls hl hP hD hS => lv_if_eq X.1 X.2.1 d ht (fun _ => k H locs ls hl hP hD hS) (fun h => absurd ha h)
theorem y_if_eq_f (X : yX p s m args meth c cc nL own D tys A) {a : Int32} {off : Int} (tgt : Nat) (d : decode cc pc = .ok (.ifCond .eq off, 3)) (ht : (pc : Int) + off = (tgt : Int)) (ha : ¬ a = 0) (k : yG p l e R s m args below meth c Q nL D A cs sl ws (pc + 3) lv rest) : yG p l e R s m args below meth c Q nL D A cs sl ws pc lv (.int a :: rest) := fun H locs ls hl hP hD hS => lv_if_eq X.1 X.2.1 d ht (fun h => absurd h ha) (fun _ => k H locs ls hl hP hD hS)
theorem y_mmax (X : yX p s m args meth c cc nL own D tys A) {a b v : Int32} {index : Nat} (hw : xJ own index Lib.Math.max.name Lib.Math.max.code 2 (some .int)) (hR : 1 ≤ R.frames ∧ (rest.map fun v => v.category).sum + 13 ≤ R.locals ∧ cs ≤ R.cells ∧ sl ≤ R.slots) (hv : (if a < b then b else a) = v) (d : decode cc pc = .ok (.invokestatic index, 3)) (k : yG p l e R s m args below meth c Q nL D A cs sl ws (pc + 3) lv (.int v :: rest)) : yG p l e R s m args below meth c Q nL D A cs sl ws pc lv (.int b :: .int a :: rest) := fun H locs ls hl hP hD hS => va_mmax X.1 X.2.1 (X.2.2.1.trans hl.1.symm) X.2.2.2.1 (X.2.2.2.2.1 _ hw.1) (X.2.2.2.2.1 _ hw.2.1) (X.2.2.2.2.1 _ hw.2.2.1) (X.2.2.2.2.1 _ hw.2.2.2) hR.1 hR.2.1 hR.2.2.1 hR.2.2.2 d (by rw [hv]; exact k H locs ls hl hP hD hS)
theorem y_obj (X : yX p s m args meth c cc nL own D tys A) {a index : Nat} (hw : Cond.methodLink own index Lib.objectInit ∈ lw_g) (hi : Cond.instanceMethod Lib.objectInit ∈ lw_g) (hc : Cond.code Lib.objectInit ⟨#[0xb1]⟩ 1 none ∈ lw_g) (hR : 1 ≤ R.frames ∧ (rest.map fun v => v.category).sum + 12 ≤ R.locals) (d : decode cc pc = .ok (.invokespecial index, 3)) (k : yG p l e R s m args below meth c Q nL D A cs sl ws (pc + 3) lv rest) : yG p l e R s m args below meth c Q nL D A cs sl ws pc lv (.ref a :: rest) := fun H locs ls hl hP hD hS => W.objInit X.1 X.2.1 X.2.2.2.1 (X.2.2.2.2.1 _ hw) (X.2.2.2.2.1 _ hi) (X.2.2.2.2.1 _ hc) rfl (hl.1.trans X.2.2.1.symm) rfl d hR.1 (by have := hR.2; show 2 * 0 + _ + 12 ≤ _; omega) (k H locs ls hl hP hD hS)
theorem y_get (X : yX p s m args meth c cc nL own D tys A) {C : String} {T : u_T} {N ci index : Nat} {fs : List Value} {v : Value} {a : Nat} (q0 : Nat) (he : ws[q0]? = some (a, .inr (ci, fs))) (hc : vwCl[ci]? = some (C, T, N)) (hin : ∀ k ∈ u_ws C T N, k ∈ lw_g) (i : Nat) (hi : i < N) (hw : Cond.fieldLink own index (T i).1 (T i).2.1 (T i).2.2.1 ∈ lw_g) (hv : fs[i]? = some v) (d : decode cc pc = .ok (.getfield index, 3)) (k : yG p l e R s m args below meth c Q nL D A cs sl ws (pc + 3) lv (v :: rest)) : yG p l e R s m args below meth c Q nL D A cs sl ws pc lv (.ref a :: rest) := fun H locs ls hl hP hD hS => va_get X.1 X.2.1 X.2.2.2.2.1 hin X.2.2.2.1 X.2.2.2.2.2.2.1 hP q0 he hc i hi (X.2.2.2.2.1 _ hw) (fun _ h => h) hv d (k H locs ls hl hP hD hS)
theorem y_put (X : yX p s m args meth c cc nL own D tys A) {C : String} {T : u_T} {N ci index : Nat} {fs : List Value} {v : Value} {a : Nat} {ws' : va_W} (q0 : Nat) (he : ws[q0]? = some (a, .inr (ci, fs))) (hc : vwCl[ci]? = some (C, T, N)) (hin : ∀ k ∈ u_ws C T N, k ∈ lw_g) (ty0 : Nat → FieldType) (hty : ∀ k, k < N → parseFieldDescriptor (T k).2.2.1 = some (ty0 k)) (hnm : ∀ a, a < N → ∀ b, b < N → a ≠ b → (T a).2.1 ≠ (T b).2.1) (i : Nat) (hi : i < N) (hw : Cond.fieldLink own index (T i).1 (T i).2.1 (T i).2.2.1 ∈ lw_g) (hf : (T i).2.2.2 = false) (hn : narrow (ty0 i) v = v) (hfit : fits (ty0 i) v = true) (hl0 : i < fs.length) (hs : ws.set q0 (a, .inr (ci, fs.set i v)) = ws') (d : decode cc pc = .ok (.putfield index, 3)) (k : yG p l e R s m args below meth c Q nL D A cs sl ws' (pc + 3) lv rest) : yG p l e R s m args below meth c Q nL D A cs sl ws pc lv (v :: .ref a :: rest) := fun H locs ls hl hP hD hS => va_put X.1 X.2.1 X.2.2.2.2.1 hin ty0 hty hnm X.2.2.2.1 X.2.2.2.2.2.2.1 hP hD hS q0 he hc i hi (X.2.2.2.2.1 _ hw) (fun _ h => h) hf (hty i hi) hn hfit hl0 d (fun H1 locs1 hP1 hD1 hS1 => k H1 locs1 ls hl (by rw [← hs]; exact hP1) (by rw [← hs]; exact hD1) hS1)
theorem y_putF (X : yX p s m args meth c cc nL own D tys A) {C : String} {T : u_T} {N ci index : Nat} {fs : List Value} {v : Value} {a : Nat} {ws' : va_W} (q0 : Nat) (he : ws[q0]? = some (a, .inr (ci, fs))) (hc : vwCl[ci]? = some (C, T, N)) (hin : ∀ k ∈ u_ws C T N, k ∈ lw_g) (ty0 : Nat → FieldType) (hty : ∀ k, k < N → parseFieldDescriptor (T k).2.2.1 = some (ty0 k)) (hnm : ∀ a, a < N → ∀ b, b < N → a ≠ b → (T a).2.1 ≠ (T b).2.1) (i : Nat) (hi : i < N) (hw : Cond.fieldLink own index (T i).1 (T i).2.1 (T i).2.2.1 ∈ lw_g) (hf : (T i).2.2.2 = true) (hdc : (T i).1 = own) (hn : narrow (ty0 i) v = v) (hfit : fits (ty0 i) v = true) (hl0 : i < fs.length) (hs : ws.set q0 (a, .inr (ci, fs.set i v)) = ws') (d : decode cc pc = .ok (.putfield index, 3)) (k : yG p l e R s m args below meth c Q nL D A cs sl ws' (pc + 3) lv rest) : yG p l e R s m args below meth c Q nL D A cs sl ws pc lv (v :: .ref a :: rest) := fun H locs ls hl hP hD hS => va_putF X.1 X.2.1 X.2.2.2.2.1 hin ty0 hty hnm X.2.2.2.1 X.2.2.2.2.2.2.1 hP hD hS q0 he hc i hi (X.2.2.2.2.1 _ hw) (fun _ h => h) hf X.2.2.2.2.2.2.2.2 hdc (hty i hi) hn hfit hl0 d (fun H1 locs1 hP1 hD1 hS1 => k H1 locs1 ls hl (by rw [← hs]; exact hP1) (by rw [← hs]; exact hD1) hS1)
theorem y_newa {cI : ClassId} (X : yX p s m args meth c cc nL own D tys A) {atype : ArrayType} {ty : FieldType} (t0 : Nat) (ht : tys[t0]? = some (cI, ty)) (hty : newarray.typeOf atype = ty) (hra : ∀ U : State, va_RA U cI ty → U.vm.findClass ("[" ++ ty.toString) = some cI) (hw : Cond.arrayClass ty ∈ lw_g) {n : Int32} (N' : Nat) {ws' : Nat → va_W} (ha : ∀ cA : ClassId, vp_cell cA (N', .inl (fun _ => (0 : Int32))) = arrV cA N' (fun _ => defaultValue ty)) (hn : ¬ n < 0) (hN : n.toNatClampNeg = N') (hb : N' * componentBytes ty ≤ 536870912) (hR : cs + 1 ≤ R.cells ∧ sl + N' ≤ R.slots) (hs : ∀ q, ws ++ [(q, .inl (cI, N', .inl (fun _ => 0)))] = ws' q) (d : decode cc pc = .ok (.newarray atype, 2)) (k : ∀ q, yG p l e R s m args below meth c Q nL D A (cs + 1) (sl + N') (ws' q) (pc + 2) lv (.ref q :: rest)) : yG p l e R s m args below meth c Q nL D A cs sl ws pc lv (.int n :: rest) := by
  intro H locs ls hl hP hD hS
  have hw0 := X.2.2.2.2.1 _ hw
  rw [← hty] at hw0
  refine va_newa (a0 := (N', .inl (fun _ => (0 : Int32)))) (ty := ty) X.1 X.2.1 hw0 hty X.2.2.2.2.2.2.1 hP hD hS X.2.2.2.2.2.2.2.1 ha hn hN hb hR.1 hR.2 d (fun q cA H1 hK1 hP1 hD1 hS1 => ?_)
  have h1 : va_RA s cA ty := (hK1.2 tys.length (cA, ty) (by simp)).2
  have h2 : va_RA s cI ty := (X.2.2.2.2.2.2.1.2 t0 _ ht).2
  have e : cA = cI := by
    have h3 := hra s h2
    have h4 : s.vm.findClass ("[" ++ ty.toString) = some cA := by
      subst hty
      cases atype <;> exact h1
    rw [h3] at h4
    exact (Option.some.inj h4).symm
  subst e
  rw [hs q] at hP1 hD1
  exact k q H1 locs ls hl hP1 hD1 hS1
theorem y_new (X : yX p s m args meth c cc nL own D tys A) {C : String} {T : u_T} {N ci index : Nat} {ws' : Nat → va_W} (fs : List Value) (hc : vwCl[ci]? = some (C, T, N)) (hin : ∀ k ∈ u_ws C T N, k ∈ lw_g) (ty0 : Nat → FieldType) (hty : ∀ k, k < N → parseFieldDescriptor (T k).2.2.1 = some (ty0 k)) (hcl : Cond.classLink own index C ∈ lw_g) (hit : Cond.instantiable C N ∈ lw_g) (hini : Cond.initialized C ∈ lw_g) (hfs : ∀ j, j < N → defaultValue (ty0 j) = vp_V fs j) (hR : cs + 1 ≤ R.cells ∧ sl + N ≤ R.slots) (hs : ∀ q, ws ++ [(q, .inr (ci, fs))] = ws' q) (d : decode cc pc = .ok (.new index, 3)) (k : ∀ q, yG p l e R s m args below meth c Q nL D A (cs + 1) (sl + N) (ws' q) (pc + 3) lv (.ref q :: rest)) : yG p l e R s m args below meth c Q nL D A cs sl ws pc lv rest := fun H locs ls hl hP hD hS => va_new X.1 X.2.1 X.2.2.2.2.1 hin ty0 hty X.2.2.2.1 (X.2.2.2.2.1 _ hcl) (X.2.2.2.2.1 _ hit) (X.2.2.2.2.1 _ hini) X.2.2.2.2.2.2.1 hP hD hS X.2.2.2.2.2.2.2.1 hc hfs hR.1 hR.2 d (fun q H1 hP1 hD1 hS1 => k q H1 locs ls hl (by rw [← hs]; exact hP1) (by rw [← hs]; exact hD1) hS1)
/-- a constructor's contract: the new object's cell alone comes in; what it makes comes out, at new addresses u -/
def yM (l : Launch) (y : MethodName) (cc : ByteArray) (mL : Nat) (rm : Room) (D : va_G) (tys : List (ClassId × FieldType)) (h0 : Nat) (av : List Value) (e0 : va_E) (out : (Nat → Nat) → va_W) (mc ms : Nat) : Prop :=
  ∀ sz, Met l y (.code y cc mL none :: lw_g) rm (va_Pc (.ref h0 :: av) (fun U => U.heap.size = sz ∧ va_P D vwCl [(h0, e0)] U.heap ∧ va_K D vwCl tys U ∧ ∀ k ∈ lw_n, va_Nw k U)) (va_Qv (fun _ : (Nat → Nat) => True) (fun u t => va_P D vwCl (out u) t.heap ∧ va_D (va_A [(h0, e0)] sz) (out u)) (va_A [(h0, e0)] sz)) mc ms (va_A [(h0, e0)] sz)
theorem yM_of {l : Launch} {y : MethodName} {cc : ByteArray} {mL : Nat} {rm : Room} {D : va_G} {tys : List (ClassId × FieldType)} {h0 : Nat} {e0 : va_E} {out : (Nat → Nat) → va_W} {mc ms : Nat} (av : List Value) (hy : plainName y.cls = true) (hyn : y.name = "<init>") {lv : List (Nat × Value)} (hlv : lv_args 0 (.ref h0 :: av) = lv) (hn : (lg_sl (.ref h0 :: av)).length ≤ mL)
    (body : ∀ (p : Program) (e : Env) (s : State) (m : MethodId) (args : Array Value) (below : List Frame) (meth : Method) (c : Code) (A : Nat → Prop), yX p s m args meth c cc mL y.cls D tys A → meth.sig.returnType = none → meth.locks = false → yG p l e rm s m args below meth c (MQ below (va_Qv (fun _ : (Nat → Nat) => True) (fun u t => va_P D vwCl (out u) t.heap ∧ va_D A (out u)) A) args s mc ms A) mL D A 0 0 [(h0, e0)] 0 lv []) : yM l y cc mL rm D tys h0 av e0 out mc ms := by
  intro sz
  refine Met.ofW (cc := cc) (maxL := mL) (ret := none) hy rfl ?_
  intro p e s m args below meth c s₁ B hml hv
  obtain ⟨hav, hsz, hP, hK, hN⟩ := hv
  subst hsz
  have hts := atoms_spec (ws := .code y cc mL none :: lw_g) B.pre
  have hown : s.vm.findClass y.cls = some m.cls := findClass_of_methodNamed B.named
  have hin : meth.name = "<init>" := (name_of_methodNamed B.named B.method).1.trans hyn
  have hD : va_D (va_A [(h0, e0)] s.heap.size) [(h0, e0)] := by
    refine ⟨fun i j a b hi hj _ => ?_, fun k q hq => va_A.in hq⟩
    have h1 : i < 1 := (List.getElem?_eq_some_iff.mp hi).1
    have h2 : j < 1 := (List.getElem?_eq_some_iff.mp hj).1
    omega
  have hb := body p e s m args below meth c (va_A [(h0, e0)] s.heap.size) ⟨B.exec, B.bytes, hml, hown, fun k hk => hts k (List.mem_cons_of_mem _ hk), hN, hK, fun q h => Or.inr h, hin⟩ B.returns B.notSynchronized
  have hl := lv_entry (.ref h0 :: av) (n := mL) hn
  subst hav
  rw [lg_entry_eq]
  rw [hlv] at hl
  exact hb s.heap [] _ hl hP hD va_S.rf
theorem y_vret {out : (Nat → Nat) → va_W} (X : yX p s m args meth c cc nL own D tys A) (hr : meth.sig.returnType = none) (hk : meth.locks = false) (u : Nat → Nat) (is : List Nat) (hnd : va_nd is = true) (h1 : is.filterMap (fun i => ws[i]?) = out u) (h2 : is.map (fun i => ws[i]?) = (out u).map some) (d : decode cc pc = .ok (.return_, 1)) : yG p l e R s m args below meth c (MQ below (va_Qv (fun _ : (Nat → Nat) => True) (fun u t => va_P D vwCl (out u) t.heap ∧ va_D A (out u)) A) args s cs sl A) nL D A cs sl ws pc lv [] := fun H locs ls hl hP hD hS => W.vret X.1 X.2.1 hr (fun t ht _ => ⟨⟨u, rfl, trivial, by rw [ht]; exact hP.sub is h1, hD.sub is hnd h2⟩, hS.F ht⟩) hS.2.2 d hk
def yI (own : String) (index : Nat) (y : MethodName) (cc : ByteArray) (mL : Nat) (n : Nat) : Prop := Cond.methodLink own index y ∈ lw_g ∧ Cond.instanceMethod y ∈ lw_g ∧ Cond.initialized y.cls ∈ lw_g ∧ Cond.code y cc mL none ∈ lw_g ∧ y.name = "<init>" ∧ y.cls ≠ "java/lang/invoke/MethodHandle" ∧ y.cls ≠ "java/lang/invoke/VarHandle" ∧ (parseMethodDescriptor y.desc).map (fun d => d.parameters.length) = some n
def yN (own host : String) (index : Nat) (y : MethodName) (cc : ByteArray) (mL : Nat) (n : Nat) : Prop := Cond.methodLinkNest own index y host ∈ lw_n ∧ Cond.instanceMethod y ∈ lw_g ∧ Cond.initialized y.cls ∈ lw_g ∧ Cond.code y cc mL none ∈ lw_g ∧ y.name = "<init>" ∧ y.cls ≠ "java/lang/invoke/MethodHandle" ∧ y.cls ≠ "java/lang/invoke/VarHandle" ∧ (parseMethodDescriptor y.desc).map (fun d => d.parameters.length) = some n
theorem yB_blind {sz h0 : Nat} {e0 : va_E} {av : List Value} : FrameBlind (va_Pc av (fun U => U.heap.size = sz ∧ va_P D vwCl [(h0, e0)] U.heap ∧ va_K D vwCl tys U ∧ ∀ k ∈ lw_n, va_Nw k U)) := fun a U g mk q => by
  obtain ⟨q0, qs, qP, qK, qN⟩ := q
  exact ⟨q0, qs, qP, va_K.moved (u := U) (U := U.calling g mk a) (Vm.Alike.refl U.vm) qK, fun k hk => va_Nw.same (u := U) (U := U.calling g mk a) (lw_n_on hk) rfl (qN k hk)⟩
variable {y : MethodName} {cc' : ByteArray} {mL' n' index mc ms : Nat} {rm' : Room} {As st0 : List Value} {b : Nat} {e0 : va_E} {out : (Nat → Nat) → va_W} {ws' : (Nat → Nat) → va_W}
theorem y_join {wr : va_W} {H H1 : Heap} (hP : va_P D vwCl (wr ++ [(b, e0)]) H) (hD : va_D A (wr ++ [(b, e0)])) (hF : ∀ q, va_A [(b, e0)] H.size q → A q) (hk : ∀ q : Nat, q < H.size → ¬ va_A [(b, e0)] H.size q → H1[q]? = H[q]?) {w1 : va_W} (hP1 : va_P D vwCl w1 H1) (hD1 : va_D (va_A [(b, e0)] H.size) w1) : va_P D vwCl (wr ++ w1) H1 ∧ va_D A (wr ++ w1) := by
  have hb : (wr ++ [(b, e0)])[wr.length]? = some (b, e0) := by simp
  have hin : ∀ (k : Nat) (q : Nat × va_E), wr[k]? = some q → (wr ++ [(b, e0)])[k]? = some q := fun k q hq => by
    rw [List.getElem?_append_left (List.getElem?_eq_some_iff.mp hq).1]; exact hq
  have hne : ∀ (k : Nat) (q : Nat × va_E), wr[k]? = some q → q.1 < H.size ∧ ¬ va_A [(b, e0)] H.size q.1 := by
    intro k q hq
    have hlt := (hP k q (hin k q hq)).lt
    refine ⟨hlt, fun h => ?_⟩
    rcases h with ⟨j, e1, hj⟩ | h
    · have hj0 : j < 1 := (List.getElem?_eq_some_iff.mp hj).1
      have hj1 : j = 0 := by omega
      subst hj1
      cases hj
      have := hD.1 k wr.length q (q.1, e0) (hin k q hq) hb rfl
      have hk2 := (List.getElem?_eq_some_iff.mp hq).1
      omega
    · omega
  have hDr : va_D A wr := ⟨fun i j a b hi hj h => hD.1 i j a b (hin i a hi) (hin j b hj) h, fun k q hq => hD.2 k q (hin k q hq)⟩
  refine ⟨va_P.app (fun k q hq => (hP k q (hin k q hq)).kept (hk q.1 (hne k q hq).1 (hne k q hq).2)) hP1, va_D.app hDr (hD1.weaken (fun k q _ h => hF q.1 h)) (fun i j a c hi hj hac => ?_)⟩
  exact (hne i a hi).2 (by rw [hac]; exact hD1.2 j c hj)
theorem y_freeA {wr : va_W} {H : Heap} {locs : List Loc} (X : yX p s m args meth c cc nL own D tys A) (hD : va_D A (wr ++ [(b, e0)])) (hS : va_S A s.heap H locs) : ∀ q, va_A [(b, e0)] H.size q → A q := by
  intro q h
  rcases h with ⟨j, e1, hj⟩ | h
  · have hj0 : j < 1 := (List.getElem?_eq_some_iff.mp hj).1
    have hj1 : j = 0 := by omega
    subst hj1
    cases hj
    exact hD.2 wr.length (b, e0) (by simp)
  · exact X.2.2.2.2.2.2.2.1 q (Nat.le_trans hS.1 h)
theorem y_callI {wr : va_W} (X : yX p s m args meth c cc nL own D tys A) (hM : yM l y cc' mL' rm' D tys b As e0 out mc ms) (hv : yI own index y cc' mL' n') (hR : rm'.cells = mc ∧ rm'.slots = ms ∧ (rm'.frames + 1 ≤ R.frames ∧ 8 + (mL' + 11) + rm'.locals ≤ R.locals) ∧ cs + mc ≤ R.cells ∧ sl + ms ≤ R.slots) (hn : As.length = n') (hst : st0 = As.reverse ++ .ref b :: rest) (hcat : (rest.map fun v => v.category).sum ≤ 8) (hws : wr ++ [(b, e0)] = ws) (hs : ∀ u, wr ++ out u = ws' u) (d : decode cc pc = .ok (.invokespecial index, 3)) (k : ∀ u, yG p l e R s m args below meth c Q nL D A (cs + mc) (sl + ms) (ws' u) (pc + 3) lv rest) : yG p l e R s m args below meth c Q nL D A cs sl ws pc lv st0 := by
  subst hst
  subst hws
  intro H locs ls hl hP hD hS
  obtain ⟨h1, h2, h3, h4, h5, h6, h7, h8⟩ := hv
  have hF := y_freeA X hD hS
  have hPc : va_P D vwCl [(b, e0)] H := hP.sub [wr.length] (by simp)
  refine va_callv (va_runI (Ts := lw_g) (own := own) ⟨X.1, X.2.1, X.2.2.1, X.2.2.2.1, X.2.2.2.2.1⟩ (hM H.size) ⟨callB_of n' X.2.2.2.2.1 (lw_good_code h4) rfl hR.1 hR.2.1 (X.2.2.2.2.1 _ h3) (X.2.2.2.2.1 _ h1) ⟨h6, h7, h8⟩ hR.2.2.1, h5, X.2.2.2.2.1 _ h2⟩ ⟨yB_blind, fun U hU hW => ⟨rfl, by rw [hU], by rw [hU]; exact hPc, va_K.moved hW.alike X.2.2.2.2.2.2.1, fun k hk => lw_n_warm hk hW (X.2.2.2.2.2.1 k hk)⟩⟩ rfl hn hl.1 rfl (lv_room hcat) d hR.2.2.2) hS (fun q _ h => hF q h) hF (fun u t H1 locs1 ht hvm hw hB hz hk hS1 => ?_)
  obtain ⟨hP1, hD1⟩ := hB
  rw [ht] at hP1
  obtain ⟨hP2, hD2⟩ := y_join hP hD hF hk hP1 hD1
  rw [hs u] at hP2 hD2
  exact k u H1 locs1 ls hl hP2 hD2 hS1
theorem y_callN {wr : va_W} (X : yX p s m args meth c cc nL own D tys A) (hM : yM l y cc' mL' rm' D tys b As e0 out mc ms) {host : String} (hv : yN own host index y cc' mL' n') (hR : rm'.cells = mc ∧ rm'.slots = ms ∧ (rm'.frames + 1 ≤ R.frames ∧ 8 + (mL' + 11) + rm'.locals ≤ R.locals) ∧ cs + mc ≤ R.cells ∧ sl + ms ≤ R.slots) (hn : As.length = n') (hst : st0 = As.reverse ++ .ref b :: rest) (hcat : (rest.map fun v => v.category).sum ≤ 8) (hws : wr ++ [(b, e0)] = ws) (hs : ∀ u, wr ++ out u = ws' u) (d : decode cc pc = .ok (.invokespecial index, 3)) (k : ∀ u, yG p l e R s m args below meth c Q nL D A (cs + mc) (sl + ms) (ws' u) (pc + 3) lv rest) : yG p l e R s m args below meth c Q nL D A cs sl ws pc lv st0 := by
  subst hst
  subst hws
  intro H locs ls hl hP hD hS
  obtain ⟨h1, h2, h3, h4, h5, h6, h7, h8⟩ := hv
  have hF := y_freeA X hD hS
  have hPc : va_P D vwCl [(b, e0)] H := hP.sub [wr.length] (by simp)
  refine va_callv (va_runIN (Ts := lw_g) (own := own) ⟨X.1, X.2.1, X.2.2.1, X.2.2.2.1, X.2.2.2.2.1⟩ (hM H.size) ⟨va_cnB n' X.2.2.2.2.1 (lw_good_code h4) rfl hR.1 hR.2.1 (X.2.2.2.2.2.1 _ h1) (X.2.2.2.2.1 _ h3) ⟨h6, h7, h8⟩ hR.2.2.1, h5, X.2.2.2.2.1 _ h2⟩ ⟨yB_blind, fun U hU hW => ⟨rfl, by rw [hU], by rw [hU]; exact hPc, va_K.moved hW.alike X.2.2.2.2.2.2.1, fun k hk => lw_n_warm hk hW (X.2.2.2.2.2.1 k hk)⟩⟩ rfl hn hl.1 rfl (lv_room hcat) d hR.2.2.2) hS (fun q _ h => hF q h) hF (fun u t H1 locs1 ht hvm hw hB hz hk hS1 => ?_)
  obtain ⟨hP1, hD1⟩ := hB
  rw [ht] at hP1
  obtain ⟨hP2, hD2⟩ := y_join hP hD hF hk hP1 hD1
  rw [hs u] at hP2 hD2
  exact k u H1 locs1 ls hl hP2 hD2 hS1
theorem yRA_I {cI : ClassId} : ∀ U : State, va_RA U cI .int → U.vm.findClass ("[" ++ FieldType.int.toString) = some cI := fun U h => h
theorem yRA_Z {cI : ClassId} : ∀ U : State, va_RA U cI .boolean → U.vm.findClass ("[" ++ FieldType.boolean.toString) = some cI := fun U h => h
end YROWS
theorem ky_oi : Cond.instanceMethod Lib.objectInit ∈ lw_g := lw_gT 22 (by decide +kernel) rfl
theorem ky_oc : Cond.code Lib.objectInit ⟨#[0xb1]⟩ 1 none ∈ lw_g := lw_gT 23 (by decide +kernel) rfl
theorem ky_a_int : Cond.arrayClass .int ∈ lw_g := lw_gT 67 (by decide +kernel) rfl
theorem ky_a_boolean : Cond.arrayClass .boolean ∈ lw_g := lw_gT 853 (by decide +kernel) rfl
theorem kyX0_1 : Cond.methodLink RX0 1 Lib.objectInit ∈ lw_g := lw_gT 212 (by decide +kernel) rfl
theorem kyX1_3 : Cond.methodLink RX1 3 Lib.objectInit ∈ lw_g := lw_gT 196 (by decide +kernel) rfl
theorem kyX2_3 : Cond.methodLink RX2 3 Lib.objectInit ∈ lw_g := lw_gT 29 (by decide +kernel) rfl
theorem kyX2_9 : Cond.classLink RX2 9 RX6 ∈ lw_g := lw_gT 30 (by decide +kernel) rfl
theorem kyX2_11 : yI RX2 11 yX6_init cX6_init 3 1 := ⟨lw_gT 32 (by decide +kernel) rfl, lw_gT 33 (by decide +kernel) rfl, lw_gT 3 (by decide +kernel) rfl, lw_gT 34 (by decide +kernel) rfl, rfl, by decide +kernel, by decide +kernel, by decide +kernel⟩
theorem kyX2_23 : Cond.classLink RX2 23 RX7 ∈ lw_g := lw_gT 68 (by decide +kernel) rfl
theorem kyX2_25 : yI RX2 25 yX7_init cX7_init 3 2 := ⟨lw_gT 70 (by decide +kernel) rfl, lw_gT 71 (by decide +kernel) rfl, lw_gT 4 (by decide +kernel) rfl, lw_gT 72 (by decide +kernel) rfl, rfl, by decide +kernel, by decide +kernel, by decide +kernel⟩
theorem kyX2_35 : Cond.classLink RX2 35 RX3 ∈ lw_g := lw_gT 106 (by decide +kernel) rfl
theorem kyX2_37 : yN RX2 "ChairSmells" 37 yX3_init cX3_init 1 0 := ⟨lw_nT 108 (by decide +kernel) rfl, lw_gT 109 (by decide +kernel) rfl, lw_gT 5 (by decide +kernel) rfl, lw_gT 110 (by decide +kernel) rfl, rfl, by decide +kernel, by decide +kernel, by decide +kernel⟩
theorem kyX3_3 : Cond.methodLink RX3 3 Lib.objectInit ∈ lw_g := lw_gT 111 (by decide +kernel) rfl
theorem kyX4_3 : Cond.methodLink RX4 3 Lib.objectInit ∈ lw_g := lw_gT 165 (by decide +kernel) rfl
theorem kyX5_3 : Cond.methodLink RX5 3 Lib.objectInit ∈ lw_g := lw_gT 228 (by decide +kernel) rfl
theorem kyX6_3 : Cond.methodLink RX6 3 Lib.objectInit ∈ lw_g := lw_gT 35 (by decide +kernel) rfl
theorem kyX7_1 : Cond.methodLink RX7 1 Lib.objectInit ∈ lw_g := lw_gT 73 (by decide +kernel) rfl
theorem kyX8_3 : Cond.methodLink RX8 3 Lib.objectInit ∈ lw_g := lw_gT 21 (by decide +kernel) rfl
theorem kyX8_9 : Cond.classLink RX8 9 RX2 ∈ lw_g := lw_gT 24 (by decide +kernel) rfl
theorem kyX8_11 : yN RX8 "ChairSmells" 11 yX2_init cX2_init 1 0 := ⟨lw_nT 26 (by decide +kernel) rfl, lw_gT 27 (by decide +kernel) rfl, lw_gT 2 (by decide +kernel) rfl, lw_gT 28 (by decide +kernel) rfl, rfl, by decide +kernel, by decide +kernel, by decide +kernel⟩
theorem kyX8_16 : Cond.classLink RX8 16 RX7 ∈ lw_g := lw_gT 158 (by decide +kernel) rfl
theorem kyX8_18 : yI RX8 18 yX7_init cX7_init 3 2 := ⟨lw_gT 159 (by decide +kernel) rfl, lw_gT 71 (by decide +kernel) rfl, lw_gT 4 (by decide +kernel) rfl, lw_gT 72 (by decide +kernel) rfl, rfl, by decide +kernel, by decide +kernel, by decide +kernel⟩
theorem kyX8_25 : Cond.classLink RX8 25 RX4 ∈ lw_g := lw_gT 160 (by decide +kernel) rfl
theorem kyX8_27 : yI RX8 27 yX4_init cX4_init 2 1 := ⟨lw_gT 162 (by decide +kernel) rfl, lw_gT 163 (by decide +kernel) rfl, lw_gT 6 (by decide +kernel) rfl, lw_gT 164 (by decide +kernel) rfl, rfl, by decide +kernel, by decide +kernel, by decide +kernel⟩
theorem kyX8_34 : Cond.classLink RX8 34 RX1 ∈ lw_g := lw_gT 191 (by decide +kernel) rfl
theorem kyX8_36 : yI RX8 36 yX1_init cX1_init 3 2 := ⟨lw_gT 193 (by decide +kernel) rfl, lw_gT 194 (by decide +kernel) rfl, lw_gT 8 (by decide +kernel) rfl, lw_gT 195 (by decide +kernel) rfl, rfl, by decide +kernel, by decide +kernel, by decide +kernel⟩
theorem kyX8_43 : Cond.classLink RX8 43 RX0 ∈ lw_g := lw_gT 207 (by decide +kernel) rfl
theorem kyX8_45 : yN RX8 "ChairSmells" 45 yX0_init cX0_init 1 0 := ⟨lw_nT 209 (by decide +kernel) rfl, lw_gT 210 (by decide +kernel) rfl, lw_gT 9 (by decide +kernel) rfl, lw_gT 211 (by decide +kernel) rfl, rfl, by decide +kernel, by decide +kernel, by decide +kernel⟩
theorem kyX8_50 : Cond.classLink RX8 50 RX5 ∈ lw_g := lw_gT 222 (by decide +kernel) rfl
theorem kyX8_52 : yN RX8 "ChairSmells" 52 yX5_init cX5_init 1 0 := ⟨lw_nT 225 (by decide +kernel) rfl, lw_gT 226 (by decide +kernel) rfl, lw_gT 10 (by decide +kernel) rfl, lw_gT 227 (by decide +kernel) rfl, rfl, by decide +kernel, by decide +kernel, by decide +kernel⟩
theorem kyX9_1 : Cond.methodLink RX9 1 Lib.objectInit ∈ lw_g := lw_gT 737 (by decide +kernel) rfl
theorem ky_itX9 : Cond.instantiable RX9 38 ∈ lw_g := lw_gT 733 (by decide +kernel) rfl
theorem ky_inX9 : Cond.initialized RX9 ∈ lw_g := lw_gT 11 (by decide +kernel) rfl
theorem ky_itX8 : Cond.instantiable RX8 7 ∈ lw_g := lw_gT 17 (by decide +kernel) rfl
theorem ky_inX8 : Cond.initialized RX8 ∈ lw_g := lw_gT 1 (by decide +kernel) rfl
theorem ky_itX2 : Cond.instantiable RX2 5 ∈ lw_g := lw_gT 25 (by decide +kernel) rfl
theorem ky_inX2 : Cond.initialized RX2 ∈ lw_g := lw_gT 2 (by decide +kernel) rfl
theorem ky_itX4 : Cond.instantiable RX4 7 ∈ lw_g := lw_gT 161 (by decide +kernel) rfl
theorem ky_inX4 : Cond.initialized RX4 ∈ lw_g := lw_gT 6 (by decide +kernel) rfl
theorem ky_itX1 : Cond.instantiable RX1 3 ∈ lw_g := lw_gT 192 (by decide +kernel) rfl
theorem ky_inX1 : Cond.initialized RX1 ∈ lw_g := lw_gT 8 (by decide +kernel) rfl
theorem ky_itX0 : Cond.instantiable RX0 2 ∈ lw_g := lw_gT 208 (by decide +kernel) rfl
theorem ky_inX0 : Cond.initialized RX0 ∈ lw_g := lw_gT 9 (by decide +kernel) rfl
theorem ky_itX3 : Cond.instantiable RX3 5 ∈ lw_g := lw_gT 107 (by decide +kernel) rfl
theorem ky_inX3 : Cond.initialized RX3 ∈ lw_g := lw_gT 5 (by decide +kernel) rfl
theorem ky_itX6 : Cond.instantiable RX6 7 ∈ lw_g := lw_gT 31 (by decide +kernel) rfl
theorem ky_inX6 : Cond.initialized RX6 ∈ lw_g := lw_gT 3 (by decide +kernel) rfl
theorem ky_itX7 : Cond.instantiable RX7 6 ∈ lw_g := lw_gT 69 (by decide +kernel) rfl
theorem ky_inX7 : Cond.initialized RX7 ∈ lw_g := lw_gT 4 (by decide +kernel) rfl
theorem ky_itX5 : Cond.instantiable RX5 3 ∈ lw_g := lw_gT 224 (by decide +kernel) rfl
theorem ky_inX5 : Cond.initialized RX5 ∈ lw_g := lw_gT 10 (by decide +kernel) rfl
