/-! The state of a world: ints, arrays, longs, by their numbers; what a method does to it is a function into Option (none: outside a row, a divisor 0, no fuel) -/
abbrev xSt : Type := (Nat → Int32) × (Nat → Nat → Int32) × (Nat → Int64)
def xI (σ : xSt) (k : Nat) : Int32 := σ.1 k
def xA (σ : xSt) (a : Nat) : Nat → Int32 := σ.2.1 a
def xL (σ : xSt) (k : Nat) : Int64 := σ.2.2 k
def xsI (σ : xSt) (k : Nat) (v : Int32) : xSt := (fun j => if j = k then v else σ.1 j, σ.2.1, σ.2.2)
def xsF (σ : xSt) (a : Nat) (f : Nat → Int32) : xSt := (σ.1, (fun b => if b = a then f else σ.2.1 b), σ.2.2)
def xsA (σ : xSt) (a i : Nat) (v : Int32) : xSt := xsF σ a (upd (xA σ a) i v)
def xsL (σ : xSt) (k : Nat) (v : Int64) : xSt := (σ.1, σ.2.1, fun j => if j = k then v else σ.2.2 j)
def xin (i : Int32) (n : Nat) : Bool := !(decide (i < 0)) && decide (i.toNatClampNeg < n)
theorem xin_in {i : Int32} {n : Nat} (h : xin i n = true) : vp_in i n := by
  unfold xin at h
  unfold vp_in
  rw [Bool.and_eq_true] at h
  obtain ⟨h1, h2⟩ := h
  have h2 := of_decide_eq_true h2
  intro q
  rcases q with q | q
  · rw [decide_eq_true q] at h1
    cases h1
  · omega
def xbit (v : Int32) : Bool := decide (v = 0) || decide (v = 1)
theorem xbit_n {v : Int32} (h : xbit v = true) : narrow .boolean (.int v) = .int v := by
  unfold xbit at h
  rw [Bool.or_eq_true] at h
  rcases h with h | h
  · rw [of_decide_eq_true h]; decide
  · rw [of_decide_eq_true h]; decide
theorem xbit_f {v : Int32} (h : xbit v = true) : fits .boolean (.int v) = true := by
  unfold xbit at h
  rw [Bool.or_eq_true] at h
  rcases h with h | h
  · rw [of_decide_eq_true h]; decide
  · rw [of_decide_eq_true h]; decide
def xck {α : Type} (b : Bool) (k : Option α) : Option α := if b = true then k else none
theorem xck_some {α : Type} {b : Bool} {k : Option α} {r : α} (h : xck b k = some r) : b = true ∧ k = some r := by
  unfold xck at h
  by_cases hb : b = true
  · rw [if_pos hb] at h; exact ⟨hb, h⟩
  · rw [if_neg hb] at h; cases h
theorem xob {α β : Type} {o : Option α} {f : α → Option β} {r : β} (h : o.bind f = some r) : ∃ x, o = some x ∧ f x = some r := by
  cases o with
  | none => cases h
  | some x => exact ⟨x, rfl, h⟩
theorem xit {α : Type} {c : Prop} [Decidable c] (hc : c) {a b r : α} (h : (if c then a else b) = r) : a = r := by rw [if_pos hc] at h; exact h
theorem xif {α : Type} {c : Prop} [Decidable c] (hc : ¬ c) {a b r : α} (h : (if c then a else b) = r) : b = r := by rw [if_neg hc] at h; exact h
def xnest : Cond → Bool
  | .fieldLinkNest .. => true
  | .methodLinkNest .. => true
  | _ => false
def lw_g : List Cond := tables_1.filter goodWord ++ k2_sels lw_privs
def lw_n : List Cond := tables_1.filter xnest
theorem lw_g_in {k : Cond} (h : k ∈ lw_g) : k ∈ lw_tbl := by
  rcases List.mem_append.mp h with h | h
  · exact List.mem_append_right _ (List.mem_filter.mp h).1
  · exact List.mem_append_left _ h
theorem lw_n_in {k : Cond} (h : k ∈ lw_n) : k ∈ lw_tbl := List.mem_append_right _ (List.mem_filter.mp h).1
theorem lw_n_on {k : Cond} (h : k ∈ lw_n) : k.onTables = true := by
  have h2 := (List.mem_filter.mp h).2
  cases k <;> first | rfl | (exact absurd h2 (by decide)) | (cases h2)
theorem lw_sel_good : ∀ k ∈ k2_sels lw_privs, goodWord k = true := by
  intro k hk
  unfold k2_sels at hk
  obtain ⟨q, -, hq⟩ := List.mem_map.mp hk
  rw [← hq]
  rfl
theorem lw_g_good {k : Cond} (h : k ∈ lw_g) : goodWord k = true := by
  rcases List.mem_append.mp h with h | h
  · exact (List.mem_filter.mp h).2
  · exact lw_sel_good k h
theorem lw_gT {k : Cond} (i : Nat) (h : tables_1[i]? = some k) (hg : goodWord k = true) : k ∈ lw_g := List.mem_append_left _ (List.mem_filter.mpr ⟨List.mem_of_getElem? h, hg⟩)
theorem lw_gS {y : MethodName} {n : Nat} (i : Nat) (h : lw_privs[i]? = some (y, n)) : Cond.selects y.cls y y ∈ lw_g := List.mem_append_right _ (List.mem_map.mpr ⟨(y, n), List.mem_of_getElem? h, rfl⟩)
theorem lw_nT {k : Cond} (i : Nat) (h : tables_1[i]? = some k) (hg : xnest k = true) : k ∈ lw_n := List.mem_filter.mpr ⟨List.mem_of_getElem? h, hg⟩
theorem lw_good_code {y : MethodName} {cc : ByteArray} {mL : Nat} {ret : Option FieldType} (h : Cond.code y cc mL ret ∈ lw_g) : GoodIn lw_g (.code y cc mL ret :: lw_g) := by
  intro k hk
  rcases List.mem_cons.mp hk with rfl | hk
  · exact ⟨h, good_of_word (lw_g_good h)⟩
  · exact ⟨hk, good_of_word (lw_g_good hk)⟩
theorem lw_n_warm {k : Cond} {s U : State} (hk : k ∈ lw_n) (hW : s.WarmedH U.vm) (h : va_Nw k s) : va_Nw k U := by
  have h2 := (List.mem_filter.mp hk).2
  cases k <;> first | exact va_Nw.warmF hW h | exact va_Nw.warmM hW h | (cases h2)
/-- the frame's judgement over a world that is a function of the state -/
def xG (p : Program) (l : Launch) (e : Env) (R : Room) (s : State) (m : MethodId) (args : Array Value) (below : List Frame) (meth : Method) (c : Code) (Q : State → Prop) (nL : Nat) (D : va_G) (A : Nat → Prop) (w : xSt → va_W) (σ : xSt) (pc : Nat) (lv : List (Nat × Value)) (st : List Value) : Prop :=
  ∀ (H : Heap) (locs : List Loc) (ls : Array Slot), lv_has ls nL lv → va_P D vwCl (w σ) H → va_S A s.heap H locs → W p l e R s m args below meth c H locs 0 0 Q (F0 m pc ls st)
def xX (p : Program) (s : State) (m : MethodId) (args : Array Value) (c : Code) (cc : ByteArray) (nL : Nat) (own : String) (D : va_G) (tys : List (ClassId × FieldType)) (A : Nat → Prop) (w : xSt → va_W) : Prop :=
  p.tables.exec = Jvm.exec ∧ c.code = cc ∧ c.maxLocals = nL ∧ s.vm.findClass own = some m.cls ∧ (∀ k ∈ lw_g, k.before args s = true) ∧ (∀ k ∈ lw_n, va_Nw k s) ∧ va_K D vwCl tys s ∧ (∀ σ, va_D A (w σ))
/-- what a method needs of its caller's state -/
def xB (D : va_G) (tys : List (ClassId × FieldType)) (w : xSt → va_W) (σ : xSt) (U : State) : Prop := va_P D vwCl (w σ) U.heap ∧ va_K D vwCl tys U ∧ ∀ k ∈ lw_n, va_Nw k U
theorem xB_blind {D : va_G} {tys : List (ClassId × FieldType)} {w : xSt → va_W} {σ : xSt} {av : List Value} : FrameBlind (va_Pc av (xB D tys w σ)) := fun a U g mk q => by
  obtain ⟨q0, qP, qK, qN⟩ := q
  exact ⟨q0, qP, va_K.moved (u := U) (U := U.calling g mk a) (Vm.Alike.refl U.vm) qK, fun k hk => va_Nw.same (u := U) (U := U.calling g mk a) (lw_n_on hk) rfl (qN k hk)⟩
def xQi (D : va_G) (A : Nat → Prop) (w : xSt → va_W) (r : Int32) (σ' : xSt) : Array Value → State → Outcome → State → Prop := va_Qi (fun (r2 : Int32) (_ : Unit) => r2 = r) (fun _ t => va_P D vwCl (w σ') t.heap) A
def xQl (D : va_G) (A : Nat → Prop) (w : xSt → va_W) (r : Int64) (σ' : xSt) : Array Value → State → Outcome → State → Prop := va_Ql (fun (r2 : Int64) (_ : Unit) => r2 = r) (fun _ t => va_P D vwCl (w σ') t.heap) A
def xQv (D : va_G) (A : Nat → Prop) (w : xSt → va_W) (σ' : xSt) : Array Value → State → Outcome → State → Prop := va_Qv (fun (_ : Unit) => True) (fun _ t => va_P D vwCl (w σ') t.heap) A
def xQr (D : va_G) (A : Nat → Prop) (w : xSt → va_W) (r : Nat) (σ' : xSt) : Array Value → State → Outcome → State → Prop := va_Qr (fun (_ : Unit) => True) (fun _ a t => a = r ∧ va_P D vwCl (w σ') t.heap) A
/-- a method's contract: from the world σ, with these arguments, to that end -/
def xM (l : Launch) (y : MethodName) (cc : ByteArray) (mL : Nat) (ret : Option FieldType) (rm : Room) (D : va_G) (tys : List (ClassId × FieldType)) (A : Nat → Prop) (w : xSt → va_W) (av : List Value) (σ : xSt) (Qc : Array Value → State → Outcome → State → Prop) : Prop :=
  Met l y (.code y cc mL ret :: lw_g) rm (va_Pc av (xB D tys w σ)) Qc 0 0 A
theorem xM_of {l : Launch} {y : MethodName} {cc : ByteArray} {mL : Nat} {ret : Option FieldType} {rm : Room} {D : va_G} {tys : List (ClassId × FieldType)} {A : Nat → Prop} {w : xSt → va_W} {σ : xSt} {Qc : Array Value → State → Outcome → State → Prop} (av : List Value) (hy : plainName y.cls = true) (hD : ∀ σ, va_D A (w σ)) {lv : List (Nat × Value)} (hlv : lv_args 0 av = lv) (hn : (lg_sl av).length ≤ mL)
    (body : ∀ (p : Program) (e : Env) (s : State) (m : MethodId) (args : Array Value) (below : List Frame) (meth : Method) (c : Code), xX p s m args c cc mL y.cls D tys A w → meth.sig.returnType = ret → meth.locks = false → xG p l e rm s m args below meth c (MQ below Qc args s 0 0 A) mL D A w σ 0 lv []) : xM l y cc mL ret rm D tys A w av σ Qc := by
  refine Met.ofW (cc := cc) (maxL := mL) (ret := ret) hy rfl ?_
  intro p e s m args below meth c s₁ B hml hv
  obtain ⟨hav, hP, hK, hN⟩ := hv
  have hts := atoms_spec (ws := .code y cc mL ret :: lw_g) B.pre
  have hown : s.vm.findClass y.cls = some m.cls := findClass_of_methodNamed B.named
  have X : xX p s m args c cc mL y.cls D tys A w := ⟨B.exec, B.bytes, hml, hown, fun k hk => hts k (List.mem_cons_of_mem _ hk), hN, hK, hD⟩
  have hb := body p e s m args below meth c X B.returns B.notSynchronized
  have hl := lv_entry av (n := mL) hn
  subst hav
  rw [lg_entry_eq]
  rw [hlv] at hl
  exact hb s.heap [] _ hl hP va_S.rf
