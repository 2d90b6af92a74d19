/-! the class's one static array -/
def xDH (j : Nat) : Int32 := if j = 0 then 0 else if j = 1 then 1 else if j = 2 then 5 else if j = 3 then 10 else 23
def xT (td : Nat) (A : Nat → Prop) (U : State) : Prop := va_Z "ChairSmells" "DIGEST_HOURS" "[I" (.ref td) A U U.heap ∧ va_T .int td 5 (fun j => .int (xDH j)) A U U.heap
def xMd (l : Launch) (y : MethodName) (cc : ByteArray) (mL : Nat) (ret : Option FieldType) (rm : Room) (D : va_G) (tys : List (ClassId × FieldType)) (A : Nat → Prop) (w : xSt → va_W) (av : List Value) (σ : xSt) (td : Nat) (Qc : Array Value → State → Outcome → State → Prop) : Prop :=
  Met l y (.code y cc mL ret :: lw_g) rm (va_Pc av (fun U => xB D tys w σ U ∧ xT td A U)) Qc 0 0 A
theorem xMd_of {l : Launch} {y : MethodName} {cc : ByteArray} {mL : Nat} {ret : Option FieldType} {rm : Room} {D : va_G} {tys : List (ClassId × FieldType)} {A : Nat → Prop} {w : xSt → va_W} {σ : xSt} {td : Nat} {Qc : Array Value → State → Outcome → State → Prop} (av : List Value) (hy : plainName y.cls = true) (hD : ∀ σ, va_D A (w σ)) {lv : List (Nat × Value)} (hlv : lv_args 0 av = lv) (hn : (lg_sl av).length ≤ mL)
    (body : ∀ (p : Program) (e : Env) (s : State) (m : MethodId) (args : Array Value) (below : List Frame) (meth : Method) (c : Code), xX p s m args c cc mL y.cls D tys A w → xT td A s → meth.sig.returnType = ret → meth.locks = false → xG p l e rm s m args below meth c (MQ below Qc args s 0 0 A) mL D A w σ 0 lv []) : xMd l y cc mL ret rm D tys A w av σ td Qc := by
  refine Met.ofW (cc := cc) (maxL := mL) (ret := ret) hy rfl ?_
  intro p e s m args below meth c s₁ B hml hv
  obtain ⟨hav, ⟨hP, hK, hN⟩, hT⟩ := hv
  have hts := atoms_spec (ws := .code y cc mL ret :: lw_g) B.pre
  have hown : s.vm.findClass y.cls = some m.cls := findClass_of_methodNamed B.named
  have X : xX p s m args c cc mL y.cls D tys A w := ⟨B.exec, B.bytes, hml, hown, fun k hk => hts k (List.mem_cons_of_mem _ hk), hN, hK, hD⟩
  have hb := body p e s m args below meth c X hT B.returns B.notSynchronized
  have hl := lv_entry av (n := mL) hn
  subst hav
  rw [lg_entry_eq]
  rw [hlv] at hl
  exact hb s.heap [] _ hl hP va_S.rf
section XSTAT
variable {p : Program} {l : Launch} {e : Env} {R : Room} {s : State} {m : MethodId} {args : Array Value} {below : List Frame} {meth : Method} {c : Code} {Q : State → Prop} {nL : Nat} {D : va_G} {A : Nat → Prop} {w : xSt → va_W} {cc : ByteArray} {own : String} {tys : List (ClassId × FieldType)} {σ : xSt} {pc : Nat} {lv lv' : List (Nat × Value)} {rest st : List Value} {index td : Nat}
theorem x_gets (X : xX p s m args c cc nL own D tys A w) (hT : xT td A s) (hw : Cond.fieldLink own index "ChairSmells" "DIGEST_HOURS" "[I" ∈ lw_g) (d : decode cc pc = .ok (.getstatic index, 3)) (k : xG p l e R s m args below meth c Q nL D A w σ (pc + 3) lv (.ref td :: rest)) : xG p l e R s m args below meth c Q nL D A w σ pc lv rest := fun H locs ls hl hP hS => va_gets X.1 X.2.1 hT.1 hS X.2.2.2.1 (X.2.2.2.2.1 _ hw) (fun _ h => h) d (k H locs ls hl hP hS)
theorem x_tlen (X : xX p s m args c cc nL own D tys A w) (hT : xT td A s) (d : decode cc pc = .ok (.arraylength, 1)) (k : xG p l e R s m args below meth c Q nL D A w σ (pc + 1) lv (.int 5 :: rest)) : xG p l e R s m args below meth c Q nL D A w σ pc lv (.ref td :: rest) := fun H locs ls hl hP hS => va_tlen X.1 X.2.1 hT.2 hS (by decide) d (k H locs ls hl hP hS)
theorem x_tld (X : xX p s m args c cc nL own D tys A w) (hT : xT td A s) {i : Int32} (hin : xin i 5 = true) (d : decode cc pc = .ok (.iaload, 1)) (k : xG p l e R s m args below meth c Q nL D A w σ (pc + 1) lv (.int (xDH i.toNatClampNeg) :: rest)) : xG p l e R s m args below meth c Q nL D A w σ pc lv (.int i :: .ref td :: rest) := fun H locs ls hl hP hS => va_ti X.1 X.2.1 hT.2 hS (xin_in hin) rfl d (k H locs ls hl hP hS)
end XSTAT
theorem kgX8_337 : Cond.fieldLink RX8 337 "ChairSmells" "DIGEST_HOURS" "[I" ∈ lw_g := lw_gT 722 (by decide +kernel) rfl
