/-! ===== the pure part: what the mirrors do ===== -/
def bI (p : Prop) [Decidable p] : Int32 := if p then 1 else 0
theorem bI_t {p : Prop} [Decidable p] (h : p) : bI p = 1 := if_pos h
theorem bI_f {p : Prop} [Decidable p] (h : ¬ p) : bI p = 0 := if_neg h
theorem bI_0 {p : Prop} [Decidable p] : bI p = 0 ↔ ¬ p := by
  unfold bI
  by_cases h : p
  · rw [if_pos h]; exact ⟨fun q => absurd q (by decide), fun q => absurd h q⟩
  · rw [if_neg h]; exact ⟨fun _ => h, fun _ => rfl⟩
theorem bI_x {p : Prop} [Decidable p] : xbit (bI p) = true := by
  by_cases h : p
  · rw [bI_t h]; rfl
  · rw [bI_f h]; rfl
theorem bI_nt {p : Prop} [Decidable p] (h : ¬ p) : bI (¬ p) = 1 := bI_t h
theorem bI_nf {p : Prop} [Decidable p] (h : p) : bI (¬ p) = 0 := bI_f (fun q => q h)
def xOk {α : Type} (o : Option α) (K : α → Prop) : Prop := ∃ x, o = some x ∧ K x
theorem xOk_ret {α : Type} {x : α} {K : α → Prop} (h : K x) : xOk (some x) K := ⟨x, rfl, h⟩
theorem xck_t {α : Type} {b : Bool} {k : Option α} (h : b = true) : xck b k = k := if_pos h
theorem xck_1 {α : Type} {k : Option α} : xck true k = k := rfl
theorem i10 : ((1 : Int32) = 0) = False := eq_false (by decide)
theorem i00 : ((0 : Int32) = 0) = True := eq_true rfl
theorem i11 : ((1 : Int32) = 1) = True := eq_true rfl
theorem xOk_ck {α : Type} {b : Bool} {k : Option α} {K : α → Prop} (hb : b = true) (h : xOk k K) : xOk (xck b k) K := by rw [xck_t hb]; exact h
theorem xOk_b1 {α : Type} {o : Option xSt} {f : xSt → Option α} {K : α → Prop} (h : xOk o (fun σ => xOk (f σ) K)) : xOk (xb1 o f) K := by
  obtain ⟨σ, e, h⟩ := h
  rw [e]; exact h
theorem xOk_b2 {β α : Type} {o : Option (β × xSt)} {f : β → xSt → Option α} {K : α → Prop} (h : xOk o (fun q => xOk (f q.1 q.2) K)) : xOk (xb2 o f) K := by
  obtain ⟨q, e, h⟩ := h
  rw [e]; exact h
theorem xOk_t {α : Type} {c : Prop} [Decidable c] {a b : Option α} {K : α → Prop} (hc : c) (h : xOk a K) : xOk (if c then a else b) K := by rw [if_pos hc]; exact h
theorem xOk_f {α : Type} {c : Prop} [Decidable c] {a b : Option α} {K : α → Prop} (hc : ¬ c) (h : xOk b K) : xOk (if c then a else b) K := by rw [if_neg hc]; exact h
theorem xOk_mono {α : Type} {o : Option α} {K K' : α → Prop} (h : xOk o K) (hk : ∀ x, K x → K' x) : xOk o K' := by
  obtain ⟨x, e, h⟩ := h
  exact ⟨x, e, hk x h⟩
theorem xOk_eq {α : Type} {o : Option α} {x : α} {K : α → Prop} (e : o = some x) (h : K x) : xOk o K := ⟨x, e, h⟩
theorem xb1_s {α : Type} {σ : xSt} {f : xSt → Option α} : xb1 (some σ) f = f σ := rfl
theorem xb2_s {β α : Type} {a : β} {σ : xSt} {f : β → xSt → Option α} : xb2 (some (a, σ)) f = f a σ := rfl
theorem xI_sI {σ : xSt} {k j : Nat} {v : Int32} : xI (xsI σ k v) j = if j = k then v else xI σ j := rfl
theorem xI_sA {σ : xSt} {a i j : Nat} {v : Int32} : xI (xsA σ a i v) j = xI σ j := rfl
theorem xI_sF {σ : xSt} {a j : Nat} {f : Nat → Int32} : xI (xsF σ a f) j = xI σ j := rfl
theorem xI_sL {σ : xSt} {k j : Nat} {v : Int64} : xI (xsL σ k v) j = xI σ j := rfl
theorem xA_sI {σ : xSt} {k a : Nat} {v : Int32} : xA (xsI σ k v) a = xA σ a := rfl
theorem xA_sL {σ : xSt} {k a : Nat} {v : Int64} : xA (xsL σ k v) a = xA σ a := rfl
theorem xA_sA {σ : xSt} {a i b : Nat} {v : Int32} : xA (xsA σ a i v) b = if b = a then upd (xA σ a) i v else xA σ b := rfl
theorem xA_sF {σ : xSt} {a b : Nat} {f : Nat → Int32} : xA (xsF σ a f) b = if b = a then f else xA σ b := rfl
theorem xL_sL {σ : xSt} {k j : Nat} {v : Int64} : xL (xsL σ k v) j = if j = k then v else xL σ j := rfl
theorem xA_s1 {σ : xSt} {a i : Nat} {v : Int32} : xA (xsA σ a i v) a = upd (xA σ a) i v := by rw [xA_sA, if_pos rfl]
theorem xA_s0 {σ : xSt} {a i b : Nat} {v : Int32} (h : b ≠ a) : xA (xsA σ a i v) b = xA σ b := by rw [xA_sA, if_neg h]
theorem upd_1 {f : Nat → Int32} {k : Nat} {x : Int32} : upd f k x k = x := if_pos rfl
theorem upd_0 {f : Nat → Int32} {k j : Nat} {x : Int32} (h : j ≠ k) : upd f k x j = f j := if_neg h
theorem upd_e {f : Nat → Int32} {k j : Nat} {x : Int32} : upd f k x j = if j = k then x else f j := rfl
theorem xin_nI {n N : Nat} (h : n < N) (hN : N < 2 ^ 31) : xin (nI n) N = true := by
  unfold xin
  rw [Bool.and_eq_true]
  refine ⟨?_, ?_⟩
  · rw [Bool.not_eq_true', decide_eq_false_iff_not]; exact nI_pos (by omega)
  · rw [decide_eq_true_eq, nI_clamp (by omega)]; exact h
theorem xck_in {α : Type} {n N : Nat} {k : Option α} (h : n < N) (hN : N < 2 ^ 31) : xck (xin (nI n) N) k = k := xck_t (xin_nI h hN)
theorem xck_bI {α : Type} {p : Prop} [Decidable p] {k : Option α} : xck (xbit (bI p)) k = k := xck_t bI_x
/-- what may change: the ints of I, the arrays of A -/
def xFr (I A : List Nat) (σ σ' : xSt) : Prop := (∀ k, k ∉ I → xI σ' k = xI σ k) ∧ ∀ a, a ∉ A → xA σ' a = xA σ a
theorem xFr_rf {I A : List Nat} {σ : xSt} : xFr I A σ σ := ⟨fun _ _ => rfl, fun _ _ => rfl⟩
theorem xFr_tr {I A : List Nat} {σ σ' σ'' : xSt} (h : xFr I A σ σ') (h' : xFr I A σ' σ'') : xFr I A σ σ'' := ⟨fun k hk => (h'.1 k hk).trans (h.1 k hk), fun a ha => (h'.2 a ha).trans (h.2 a ha)⟩
theorem xFr_mono {I A I' A' : List Nat} {σ σ' : xSt} (h : xFr I A σ σ') (hI : ∀ k, k ∈ I → k ∈ I') (hA : ∀ k, k ∈ A → k ∈ A') : xFr I' A' σ σ' := ⟨fun k hk => h.1 k (fun q => hk (hI k q)), fun a ha => h.2 a (fun q => ha (hA a q))⟩
theorem xFr_sI {I A : List Nat} {σ : xSt} {k : Nat} {v : Int32} (h : k ∈ I) : xFr I A σ (xsI σ k v) := ⟨fun j hj => by rw [xI_sI, if_neg (fun q => hj (by rw [q]; exact h))], fun _ _ => rfl⟩
theorem xFr_sA {I A : List Nat} {σ : xSt} {a i : Nat} {v : Int32} (h : a ∈ A) : xFr I A σ (xsA σ a i v) := ⟨fun _ _ => rfl, fun b hb => by rw [xA_sA, if_neg (fun q => hb (by rw [q]; exact h))]⟩
theorem xFr_sF {I A : List Nat} {σ : xSt} {a : Nat} {f : Nat → Int32} (h : a ∈ A) : xFr I A σ (xsF σ a f) := ⟨fun _ _ => rfl, fun b hb => by rw [xA_sF, if_neg (fun q => hb (by rw [q]; exact h))]⟩
theorem xFr_sL {I A : List Nat} {σ : xSt} {k : Nat} {v : Int64} : xFr I A σ (xsL σ k v) := ⟨fun _ _ => rfl, fun _ _ => rfl⟩
/-! a number between bounds is a small Nat -/
theorem rngI {v lo hi : Int32} {n : Nat} (hlo : lo.toInt = 0) (hhi : hi.toInt = n) (h : lo ≤ v ∧ v ≤ hi) : ∃ j : Nat, j ≤ n ∧ v = nI j := by
  have h1 := Int32.le_iff_toInt_le.mp h.1
  refine nI_of2 hhi ?_ h.2
  intro q
  have := Int32.lt_iff_toInt_lt.mp q
  rw [Int32.toInt_zero] at this
  omega
/-! guards of the model -/
theorem m_in (F : Nat) (v a b : Int32) (σ : xSt) : mX9_in F v a b σ = some (bI (a ≤ v ∧ v ≤ b), σ) := by
  unfold mX9_in mX9_in_L14 mX9_in_L15
  by_cases h1 : v < a
  · rw [if_pos h1, bI_f (fun h => Int32.not_lt.mpr h.1 h1)]; rfl
  · rw [if_neg h1]
    by_cases h2 : b < v
    · rw [if_pos h2, bI_f (fun h => Int32.not_lt.mpr h.2 h2)]; rfl
    · rw [if_neg h2, bI_t ⟨Int32.not_lt.mp h1, Int32.not_lt.mp h2⟩]; rfl
theorem m_isText (F : Nat) (v : Int32) (σ : xSt) : mX9_isText F v σ = some (bI (0 ≤ v ∧ v ≤ 1), σ) := by unfold mX9_isText; rw [m_in, xb2_s, xck_bI]
theorem m_isHour (F : Nat) (v : Int32) (σ : xSt) : mX9_isHour F v σ = some (bI (0 ≤ v ∧ v ≤ 23), σ) := by unfold mX9_isHour; rw [m_in, xb2_s, xck_bI]
theorem m_isSix (F : Nat) (v : Int32) (σ : xSt) : mX9_isSix F v σ = some (bI (0 ≤ v ∧ v ≤ 5), σ) := by unfold mX9_isSix; rw [m_in, xb2_s, xck_bI]
theorem m_isEight (F : Nat) (v : Int32) (σ : xSt) : mX9_isEight F v σ = some (bI (0 ≤ v ∧ v ≤ 7), σ) := by unfold mX9_isEight; rw [m_in, xb2_s, xck_bI]
theorem m_isSheet (F : Nat) (v : Int32) (σ : xSt) : mX9_isSheet F v σ = some (bI (0 ≤ v ∧ v ≤ 3), σ) := by unfold mX9_isSheet; rw [m_in, xb2_s, xck_bI]
theorem m_meets (F : Nat) (v : Int32) (σ : xSt) : mX9_meets F v σ = some ((-10) - v, xsI σ 37 v) := rfl
/-! guards of the class: 'no such' -/
theorem not_rng {v : Int32} {n : Nat} {hi top : Int32} (hhi : hi.toInt = n) (htop : top.toInt = n + 1) : (0 ≤ v ∧ v ≤ hi) ↔ ¬ (v < 0) ∧ v < top := by
  rw [Int32.le_iff_toInt_le, Int32.le_iff_toInt_le, Int32.lt_iff_toInt_lt, Int32.lt_iff_toInt_lt, Int32.toInt_zero, hhi, htop]
  omega
theorem c_noSheet (F : Nat) (v : Int32) (σ : xSt) : mX8_noSheet F v σ = some (bI (¬ (0 ≤ v ∧ v ≤ 3)), σ) := by
  unfold mX8_noSheet mX8_noSheet_L9 mX8_noSheet_L14
  have e := not_rng (v := v) (n := 3) (hi := 3) (top := 4) (by decide) (by decide)
  by_cases h1 : v < 0
  · rw [if_pos h1, bI_nt (fun q => (e.mp q).1 h1)]; rfl
  · rw [if_neg h1]
    by_cases h2 : v < 4
    · rw [if_pos h2, bI_nf (e.mpr ⟨h1, h2⟩)]; rfl
    · rw [if_neg h2, bI_nt (fun q => h2 (e.mp q).2)]; rfl
theorem c_noForm (F : Nat) (v : Int32) (σ : xSt) : mX8_noForm F v σ = some (bI (¬ (0 ≤ v ∧ v ≤ 2)), σ) := by
  unfold mX8_noForm mX8_noForm_L9 mX8_noForm_L14
  have e := not_rng (v := v) (n := 2) (hi := 2) (top := 3) (by decide) (by decide)
  by_cases h1 : v < 0
  · rw [if_pos h1, bI_nt (fun q => (e.mp q).1 h1)]; rfl
  · rw [if_neg h1]
    by_cases h2 : v < 3
    · rw [if_pos h2, bI_nf (e.mpr ⟨h1, h2⟩)]; rfl
    · rw [if_neg h2, bI_nt (fun q => h2 (e.mp q).2)]; rfl
theorem c_noHour (F : Nat) (v : Int32) (σ : xSt) : mX8_noHour F v σ = some (bI (¬ (0 ≤ v ∧ v ≤ 23)), σ) := by
  unfold mX8_noHour mX8_noHour_L10 mX8_noHour_L15
  have e := not_rng (v := v) (n := 23) (hi := 23) (top := 24) (by decide) (by decide)
  by_cases h1 : v < 0
  · rw [if_pos h1, bI_nt (fun q => (e.mp q).1 h1)]; rfl
  · rw [if_neg h1]
    by_cases h2 : v < 24
    · rw [if_pos h2, bI_nf (e.mpr ⟨h1, h2⟩)]; rfl
    · rw [if_neg h2, bI_nt (fun q => h2 (e.mp q).2)]; rfl
theorem c_finding (F : Nat) (v : Int32) (σ : xSt) : mX8_finding F v σ = some ((-10) - v, xsI σ 0 v) := rfl
theorem c_noPersonNumber (F : Nat) (v : Int32) (σ : xSt) : mX8_noPersonNumber F v σ = some (bI (¬ (0 ≤ v ∧ v ≤ 7)), σ) := by
  unfold mX8_noPersonNumber mX8_noPersonNumber_L10 mX8_noPersonNumber_L15
  have e := not_rng (v := v) (n := 7) (hi := 7) (top := 8) (by decide) (by decide)
  by_cases h1 : v < 0
  · rw [if_pos h1, bI_nt (fun q => (e.mp q).1 h1)]; rfl
  · rw [if_neg h1]
    by_cases h2 : v < 8
    · rw [if_pos h2, bI_nf (e.mpr ⟨h1, h2⟩)]; rfl
    · rw [if_neg h2, bI_nt (fun q => h2 (e.mp q).2)]; rfl
theorem c_noThingNumber (F : Nat) (v : Int32) (σ : xSt) : mX8_noThingNumber F v σ = some (bI (¬ (0 ≤ v ∧ v ≤ 5)), σ) := by
  unfold mX8_noThingNumber mX8_noThingNumber_L10 mX8_noThingNumber_L15
  have e := not_rng (v := v) (n := 5) (hi := 5) (top := 6) (by decide) (by decide)
  by_cases h1 : v < 0
  · rw [if_pos h1, bI_nt (fun q => (e.mp q).1 h1)]; rfl
  · rw [if_neg h1]
    by_cases h2 : v < 6
    · rw [if_pos h2, bI_nf (e.mpr ⟨h1, h2⟩)]; rfl
    · rw [if_neg h2, bI_nt (fun q => h2 (e.mp q).2)]; rfl
theorem c_noSmells (F : Nat) (v : Int32) (σ : xSt) : mX8_noSmells F v σ = some (bI (¬ (0 ≤ v ∧ v ≤ 255)), σ) := by
  unfold mX8_noSmells mX8_noSmells_L11 mX8_noSmells_L16
  by_cases h1 : v < 0
  · rw [if_pos h1, bI_nt (fun q => Int32.not_lt.mpr q.1 h1)]; rfl
  · rw [if_neg h1]
    by_cases h2 : v ≤ 255
    · rw [if_pos h2, bI_nf ⟨Int32.not_lt.mp h1, h2⟩]; rfl
    · rw [if_neg h2, bI_nt (fun q => h2 q.2)]; rfl
theorem c_noText (F : Nat) (v : Int32) (σ : xSt) : mX8_noText F v σ = some (bI (¬ (0 ≤ v ∧ v ≤ 1)), σ) := by
  unfold mX8_noText mX8_noText_L13 mX8_noText_L14
  by_cases h1 : v = 0
  · rw [if_pos h1, bI_nf (by rw [h1]; decide)]; rfl
  · rw [if_neg h1]
    by_cases h2 : v = 1
    · rw [if_pos h2, bI_nf (by rw [h2]; decide)]; rfl
    · rw [if_neg h2, bI_nt (fun q => ?_)]
      · rfl
      · obtain ⟨j, hj, e⟩ := rngI (n := 1) (by decide) (by decide) q
        rcases (show j = 0 ∨ j = 1 by omega) with rfl | rfl
        · exact h1 e
        · exact h2 e
