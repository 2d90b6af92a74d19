def xb1 {ρ : Type} (o : Option xSt) (f : xSt → Option ρ) : Option ρ := o.bind f
theorem xb1_some {ρ : Type} {o : Option xSt} {f : xSt → Option ρ} {r : ρ} (h : xb1 o f = some r) : ∃ σ, o = some σ ∧ f σ = some r := xob h
def xb2 {α ρ : Type} (o : Option (α × xSt)) (f : α → xSt → Option ρ) : Option ρ := o.bind (fun q => f q.1 q.2)
theorem xb2_some {α ρ : Type} {o : Option (α × xSt)} {f : α → xSt → Option ρ} {r : ρ} (h : xb2 o f = some r) : ∃ a σ, o = some (a, σ) ∧ f a σ = some r := by
  obtain ⟨⟨a, σ⟩, h1, h2⟩ := xob h
  exact ⟨a, σ, h1, h2⟩
def xnzI (v : Int32) : Bool := !(decide (v = 0))
def xnzL (v : Int64) : Bool := !(decide (v = 0))
theorem xnzI_n {v : Int32} (h : xnzI v = true) : ¬ v = 0 := by
  intro q
  unfold xnzI at h
  rw [decide_eq_true q] at h
  cases h
theorem xnzL_n {v : Int64} (h : xnzL v = true) : ¬ v = 0 := by
  intro q
  unfold xnzL at h
  rw [decide_eq_true q] at h
  cases h
theorem xne {a b : Int32} {z : Int} (h : ¬ a = b) (hz : b.toInt = z) : a.toInt ≠ z := fun q => h (Int32.toInt_inj.mp (q.trans hz.symm))
theorem xsw3 {a : Int32} (h0 : ¬ a = 0) (h1 : ¬ a = 1) (h2 : ¬ a = 2) : a.toInt < 0 ∨ (2 : Int) < a.toInt := by
  have q0 := xne (z := 0) h0 (by decide)
  have q1 := xne (z := 1) h1 (by decide)
  have q2 := xne (z := 2) h2 (by decide)
  omega
theorem xsw9 {a : Int32} (h0 : ¬ a = 0) (h1 : ¬ a = 1) (h2 : ¬ a = 2) (h3 : ¬ a = 3) (h4 : ¬ a = 4) (h5 : ¬ a = 5) (h6 : ¬ a = 6) (h7 : ¬ a = 7) (h8 : ¬ a = 8) : a.toInt < 0 ∨ (8 : Int) < a.toInt := by
  have q0 := xne (z := 0) h0 (by decide)
  have q1 := xne (z := 1) h1 (by decide)
  have q2 := xne (z := 2) h2 (by decide)
  have q3 := xne (z := 3) h3 (by decide)
  have q4 := xne (z := 4) h4 (by decide)
  have q5 := xne (z := 5) h5 (by decide)
  have q6 := xne (z := 6) h6 (by decide)
  have q7 := xne (z := 7) h7 (by decide)
  have q8 := xne (z := 8) h8 (by decide)
  omega
theorem xpair {a b : Nat} {σ σ' : xSt} (h : some (a, σ) = some (b, σ')) : a = b ∧ σ = σ' := by cases h; exact ⟨rfl, rfl⟩
def xcp (sp dp n : Int32) : Bool := !(decide (sp < 0)) && !(decide (dp < 0)) && !(decide (n < 0)) && decide (sp.toNatClampNeg + n.toNatClampNeg ≤ 60) && decide (dp.toNatClampNeg + n.toNatClampNeg ≤ 60)
theorem xcp_of {sp dp n : Int32} (h : xcp sp dp n = true) : ¬ sp < 0 ∧ ¬ dp < 0 ∧ ¬ n < 0 ∧ sp.toNatClampNeg + n.toNatClampNeg ≤ 60 ∧ dp.toNatClampNeg + n.toNatClampNeg ≤ 60 := by
  unfold xcp at h
  simp only [Bool.and_eq_true, Bool.not_eq_true', decide_eq_false_iff_not, decide_eq_true_eq] at h
  exact ⟨h.1.1.1.1, h.1.1.1.2, h.1.1.2, h.1.2, h.2⟩
def xJ (own : String) (index : Nat) (y : MethodName) (cc : ByteArray) (mL : Nat) (ret : Option FieldType) : Prop := Cond.methodLink own index y ∈ lw_g ∧ Cond.static y ∈ lw_g ∧ Cond.initialized "java/lang/Math" ∈ lw_g ∧ Cond.code y cc mL ret ∈ lw_g
def xJc (own : String) (index : Nat) : Prop := Cond.methodLink own index arraycopyName ∈ lw_g ∧ Cond.native arraycopyName ∈ lw_g ∧ Cond.static arraycopyName ∈ lw_g ∧ Cond.initialized "java/lang/System" ∈ lw_g
section XMORE
variable {p : Program} {l : Launch} {e : Env} {R : Room} {s : State} {m : MethodId} {args : Array Value} {below : List Frame} {meth : Method} {c : Code} {Q : State → Prop} {nL : Nat} {D : va_G} {A : Nat → Prop} {w : xSt → va_W} {cc : ByteArray} {own : String} {tys : List (ClassId × FieldType)} {σ : xSt} {pc : Nat} {lv lv' : List (Nat × Value)} {rest st : List Value} {index : Nat}
theorem x_mmax (X : xX p s m args c cc nL own D tys A w) {a b : Int32} (hw : xJ own index Lib.Math.max.name Lib.Math.max.code 2 (some .int)) (hR : 1 ≤ R.frames ∧ (rest.map fun v => v.category).sum + 13 ≤ R.locals) (d : decode cc pc = .ok (.invokestatic index, 3)) (k : xG p l e R s m args below meth c Q nL D A w σ (pc + 3) lv (.int (if a < b then b else a) :: rest)) : xG p l e R s m args below meth c Q nL D A w σ pc lv (.int b :: .int a :: rest) := fun H locs ls hl hP hS => va_mmax X.1 X.2.1 (X.2.2.1.trans hl.1.symm) X.2.2.2.1 (X.2.2.2.2.1 _ hw.1) (X.2.2.2.2.1 _ hw.2.1) (X.2.2.2.2.1 _ hw.2.2.1) (X.2.2.2.2.1 _ hw.2.2.2) hR.1 hR.2 (Nat.zero_le _) (Nat.zero_le _) d (k H locs ls hl hP hS)
theorem x_mmin (X : xX p s m args c cc nL own D tys A w) {a b : Int32} (hw : xJ own index Lib.Math.min.name Lib.Math.min.code 2 (some .int)) (hR : 1 ≤ R.frames ∧ (rest.map fun v => v.category).sum + 13 ≤ R.locals) (d : decode cc pc = .ok (.invokestatic index, 3)) (k : xG p l e R s m args below meth c Q nL D A w σ (pc + 3) lv (.int (if b < a then b else a) :: rest)) : xG p l e R s m args below meth c Q nL D A w σ pc lv (.int b :: .int a :: rest) := fun H locs ls hl hP hS => va_mmin X.1 X.2.1 (X.2.2.1.trans hl.1.symm) X.2.2.2.1 (X.2.2.2.2.1 _ hw.1) (X.2.2.2.2.1 _ hw.2.1) (X.2.2.2.2.1 _ hw.2.2.1) (X.2.2.2.2.1 _ hw.2.2.2) hR.1 hR.2 (Nat.zero_le _) (Nat.zero_le _) d (k H locs ls hl hP hS)
theorem x_mmaxL (X : xX p s m args c cc nL own D tys A w) {a b : Int64} (hw : xJ own index Lib.MathLoose.max_long.x Lib.MathLoose.max_long.code 4 (some .long)) (hR : 1 ≤ R.frames ∧ (rest.map fun v => v.category).sum + 15 ≤ R.locals) (d : decode cc pc = .ok (.invokestatic index, 3)) (k : xG p l e R s m args below meth c Q nL D A w σ (pc + 3) lv (.long (if b < a then a else b) :: rest)) : xG p l e R s m args below meth c Q nL D A w σ pc lv (.long b :: .long a :: rest) := fun H locs ls hl hP hS => va_mmax_long X.1 X.2.1 (X.2.2.1.trans hl.1.symm) X.2.2.2.1 (X.2.2.2.2.1 _ hw.1) (X.2.2.2.2.1 _ hw.2.1) (X.2.2.2.2.1 _ hw.2.2.1) (X.2.2.2.2.1 _ hw.2.2.2) hR.1 hR.2 (Nat.zero_le _) (Nat.zero_le _) d (k H locs ls hl hP hS)
theorem x_mminL (X : xX p s m args c cc nL own D tys A w) {a b : Int64} (hw : xJ own index Lib.MathLoose.min_long.x Lib.MathLoose.min_long.code 4 (some .long)) (hR : 1 ≤ R.frames ∧ (rest.map fun v => v.category).sum + 15 ≤ R.locals) (d : decode cc pc = .ok (.invokestatic index, 3)) (k : xG p l e R s m args below meth c Q nL D A w σ (pc + 3) lv (.long (if b < a then b else a) :: rest)) : xG p l e R s m args below meth c Q nL D A w σ pc lv (.long b :: .long a :: rest) := fun H locs ls hl hP hS => va_mmin_long X.1 X.2.1 (X.2.2.1.trans hl.1.symm) X.2.2.2.1 (X.2.2.2.2.1 _ hw.1) (X.2.2.2.2.1 _ hw.2.1) (X.2.2.2.2.1 _ hw.2.2.1) (X.2.2.2.2.1 _ hw.2.2.2) hR.1 hR.2 (Nat.zero_le _) (Nat.zero_le _) d (k H locs ls hl hP hS)
theorem x_zast (X : xX p s m args c cc nL own D tys A w) {a n : Nat} {cA : ClassId} {f : Nat → Int32} {i v : Int32} {σ' : xSt} (q0 t0 : Nat) (ha : (w σ)[q0]? = some (a, .inl (cA, n, .inl f))) (ht : tys[t0]? = some (cA, .boolean)) (hs : (w σ).set q0 (a, .inl (cA, n, .inl (upd f i.toNatClampNeg v))) = w σ') (hin : xin i n = true) (hz : xbit v = true) (d : decode cc pc = .ok (.bastore, 1)) (k : xG p l e R s m args below meth c Q nL D A w σ' (pc + 1) lv rest) : xG p l e R s m args below meth c Q nL D A w σ pc lv (.int v :: .int i :: .ref a :: rest) := fun H locs ls hl hP hS => va_zast X.1 X.2.1 X.2.2.2.2.2.2.1 hP (X.2.2.2.2.2.2.2 σ) hS q0 t0 ha ht (xin_in hin) d (fun H1 locs1 hP1 _ hS1 => k H1 locs1 ls hl (by
    have e : vp_nar .boolean v = v := by unfold vp_nar; rw [xbit_n hz]
    rw [e] at hP1
    rw [← hs]; exact hP1) hS1)
theorem x_aald {ad : Nat → Nat} {cI cX : ClassId} (X : xX p s m args c cc nL own D (tyC cI cX) A (wC ad cI cX)) {i : Int32} (hb : xin i 4 = true) (d : decode cc pc = .ok (.aaload, 1)) (k : xG p l e R s m args below meth c Q nL D A (wC ad cI cX) σ (pc + 1) lv (.ref (ad (37 + i.toNatClampNeg)) :: rest)) : xG p l e R s m args below meth c Q nL D A (wC ad cI cX) σ pc lv (.int i :: .ref (ad 6) :: rest) := fun H locs ls hl hP hS => va_aldq X.1 X.2.1 X.2.2.2.2.2.2.1 hP 6 1 qaS rfl (xin_in hb) d (k H locs ls hl hP hS)
theorem x_copy (X : xX p s m args c cc nL own D tys A w) (hw : xJc own index) {a0 a1 : Nat} {cA : ClassId} {f g : Nat → Int32} {sp dp n : Int32} {σ' : xSt} (q0 q1 : Nat) (ha0 : (w σ)[q0]? = some (a0, .inl (cA, 60, .inl f))) (ha1 : (w σ)[q1]? = some (a1, .inl (cA, 60, .inl g))) (hs : (w σ).set q1 (a1, .inl (cA, 60, .inl (va_cpy f g sp.toNatClampNeg dp.toNatClampNeg n.toNatClampNeg))) = w σ') (ht : tys[0]? = some (cA, .int)) (hc : xcp sp dp n = true) (hR : 1 ≤ R.frames ∧ (rest.map fun v => v.category).sum + (nativeFrameWords "java/lang/System" "arraycopy" 5 + 11) ≤ R.locals) (d : decode cc pc = .ok (.invokestatic index, 3)) (k : xG p l e R s m args below meth c Q nL D A w σ' (pc + 3) lv rest) : xG p l e R s m args below meth c Q nL D A w σ pc lv (.int n :: .int dp :: .ref a1 :: .int sp :: .ref a0 :: rest) := fun H locs ls hl hP hS => va_copyi X.1 X.2.1 (X.2.2.1.trans hl.1.symm) X.2.2.2.1 (X.2.2.2.2.1 _ hw.1) (X.2.2.2.2.1 _ hw.2.1) (X.2.2.2.2.1 _ hw.2.2.1) (X.2.2.2.2.1 _ hw.2.2.2) X.2.2.2.2.2.2.1 hP (X.2.2.2.2.2.2.2 σ) hS q0 q1 0 0 ha0 ha1 ht ht rfl (xcp_of hc).1 (xcp_of hc).2.1 (xcp_of hc).2.2.1 (xcp_of hc).2.2.2.1 (xcp_of hc).2.2.2.2 (fun _ _ => rfl) hR.1 hR.2 d (fun H1 locs1 hP1 _ hS1 => k H1 locs1 ls hl (by rw [← hs]; exact hP1) hS1)
end XMORE
theorem kvX0_16 : xJ RX0 16 Lib.MathLoose.max_long.x Lib.MathLoose.max_long.code 4 (some .long) := ⟨lw_gT 613 (by decide +kernel) rfl, lw_gT 614 (by decide +kernel) rfl, lw_gT 7 (by decide +kernel) rfl, lw_gT 615 (by decide +kernel) rfl⟩
theorem kvX0_22 : xJ RX0 22 Lib.MathLoose.min_long.x Lib.MathLoose.min_long.code 4 (some .long) := ⟨lw_gT 616 (by decide +kernel) rfl, lw_gT 617 (by decide +kernel) rfl, lw_gT 7 (by decide +kernel) rfl, lw_gT 618 (by decide +kernel) rfl⟩
theorem kvX1_81 : xJ RX1 81 Lib.Math.max.name Lib.Math.max.code 2 (some .int) := ⟨lw_gT 597 (by decide +kernel) rfl, lw_gT 167 (by decide +kernel) rfl, lw_gT 7 (by decide +kernel) rfl, lw_gT 168 (by decide +kernel) rfl⟩
theorem kvX4_9 : xJ RX4 9 Lib.Math.max.name Lib.Math.max.code 2 (some .int) := ⟨lw_gT 166 (by decide +kernel) rfl, lw_gT 167 (by decide +kernel) rfl, lw_gT 7 (by decide +kernel) rfl, lw_gT 168 (by decide +kernel) rfl⟩
theorem kvX8_281 : xJc RX8 281 := ⟨lw_gT 686 (by decide +kernel) rfl, lw_gT 688 (by decide +kernel) rfl, lw_gT 687 (by decide +kernel) rfl, lw_gT 15 (by decide +kernel) rfl⟩
theorem kvX8_287 : xJ RX8 287 Lib.Math.min.name Lib.Math.min.code 2 (some .int) := ⟨lw_gT 693 (by decide +kernel) rfl, lw_gT 694 (by decide +kernel) rfl, lw_gT 7 (by decide +kernel) rfl, lw_gT 695 (by decide +kernel) rfl⟩
