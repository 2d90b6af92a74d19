def xOP (k : Nat) : Int32 := if k = 0 then 0 else 1
def xMost (k : Nat) : Int32 := if k = 0 then 20 else 8
def lnB (k : Nat) : Nat := if k = 0 then 23 else 31
def lnE (k : Nat) : Nat := if k = 0 then 6 else 8
def lnT (k : Nat) : Nat := if k = 0 then 44 else if k = 1 then 11 else 8
theorem xin_lt {i : Int32} {n : Nat} (h : xin i n = true) : i.toNatClampNeg < n := Nat.not_le.mp (fun q => xin_in h (Or.inr q))
theorem x_D {ad : Nat → Nat} {n : Nat} {ws : va_W} (hinj : ∀ i j, i < n → j < n → ad i = ad j → i = j) (h : ws.map (fun q => q.1) = (List.range n).map ad) : va_D (fun q => ∃ k, k < n ∧ q = ad k) ws := by
  have key : ∀ (i : Nat) (q : Nat × va_E), ws[i]? = some q → i < n ∧ q.1 = ad i := by
    intro i q hq
    have h1 : (ws.map (fun q => q.1))[i]? = some q.1 := by rw [List.getElem?_map, hq]; rfl
    rw [h, List.getElem?_map] at h1
    by_cases hi : i < n
    · rw [List.getElem?_range hi] at h1
      exact ⟨hi, (Option.some.inj h1).symm⟩
    · rw [List.getElem?_eq_none (by rw [List.length_range]; omega)] at h1
      cases h1
  refine ⟨fun i j a b hi hj hab => ?_, fun i q hq => ⟨i, (key i q hq).1, (key i q hq).2⟩⟩
  have h1 := key i a hi
  have h2 := key j b hj
  exact hinj i j h1.1 h2.1 (by rw [← h1.2, ← h2.2]; exact hab)
theorem x_2 {P : Nat → Prop} (h0 : P 0) (h1 : P 1) : ∀ k, k < 2 → P k := fun k hk => by
  rcases (show k = 0 ∨ k = 1 by omega) with rfl | rfl
  · exact h0
  · exact h1
theorem x_3 {P : Nat → Prop} (h0 : P 0) (h1 : P 1) (h2 : P 2) : ∀ k, k < 3 → P k := fun k hk => by
  rcases (show k = 0 ∨ k = 1 ∨ k = 2 by omega) with rfl | rfl | rfl
  · exact h0
  · exact h1
  · exact h2
theorem x_4 {P : Nat → Prop} (h0 : P 0) (h1 : P 1) (h2 : P 2) (h3 : P 3) : ∀ k, k < 4 → P k := fun k hk => by
  rcases (show k = 0 ∨ k = 1 ∨ k = 2 ∨ k = 3 by omega) with rfl | rfl | rfl | rfl
  · exact h0
  · exact h1
  · exact h2
  · exact h3
def xfX9 (ad : Nat → Nat) (σ : xSt) : List Value := [.ref (ad 1), .ref (ad 2), .int (xI σ 2), .ref (ad 3), .ref (ad 4), .ref (ad 5), .int (xI σ 6), .ref (ad 6), .ref (ad 7), .ref (ad 8), .int (xI σ 10), .ref (ad 9), .ref (ad 10), .ref (ad 11), .int (xI σ 14), .ref (ad 12), .ref (ad 13), .ref (ad 14), .ref (ad 15), .ref (ad 16), .int (xI σ 20), .int (xI σ 21), .int (xI σ 22), .int (xI σ 23), .ref (ad 17), .ref (ad 18), .ref (ad 19), .int (xI σ 27), .ref (ad 20), .ref (ad 21), .ref (ad 22), .ref (ad 23), .ref (ad 24), .ref (ad 25), .ref (ad 26), .ref (ad 27), .ref (ad 28), .int (xI σ 37)]
def xfX8 (ad : Nat → Nat) (σ : xSt) : List Value := [.ref (ad 1), .ref (ad (22 + 2)), .ref (ad 2), .ref (ad 3), .ref (ad 4), .ref (ad 6), .int (xI σ 0)]
def xfX2 (ad : Nat → Nat) (σ : xSt) : List Value := [.ref (ad (12 + 0)), .ref (ad (12 + 1)), .ref (ad (22 + 0)), .ref (ad (22 + 1)), .ref (ad 5)]
def xfX4 (ad : Nat → Nat) (σ : xSt) : List Value := [.ref (ad 1), .ref (ad 7), .int (xI σ 3), .int (xI σ 4), .int (xI σ 5), .int (xI σ 6), .int (xI σ 7)]
def xfX1 (ad : Nat → Nat) (σ : xSt) : List Value := [.ref (ad 1), .ref (ad (22 + 2)), .ref (ad 8)]
def xfX0 (ad : Nat → Nat) (σ : xSt) : List Value := [.long (xL σ 0), .long (xL σ 1)]
def xfX3 (ad : Nat → Nat) (σ : xSt) : List Value := [.ref (ad 9), .ref (ad 10), .ref (ad 11), .int (xI σ 1), .int (xI σ 2)]
def xfX6 (ad : Nat → Nat) (σ : xSt) (k : Nat) : List Value := [.int (xOP k), .ref (ad (14 + k)), .int (xI σ (10 + k)), .int (xI σ (12 + k)), .ref (ad (16 + k)), .ref (ad (18 + k)), .ref (ad (20 + k))]
def xfX7 (ad : Nat → Nat) (σ : xSt) (k : Nat) : List Value := [.int (xMost k), .ref (ad (25 + k)), .ref (ad (28 + k)), .ref (ad (31 + k)), .ref (ad (34 + k)), .int (xI σ (14 + k))]
def xfX5 (ad : Nat → Nat) (σ : xSt) (k : Nat) : List Value := [.ref (ad (41 + k)), .int (xI σ (20 + k)), .int (xI σ (24 + k))]
def wM (ad : Nat → Nat) (cI cZ : ClassId) (σ : xSt) : va_W := [(ad 0, .inr (9, xfX9 ad σ)), (ad 1, .inl (cI, 2, .inl (xA σ 0))), (ad 2, .inl (cI, 62, .inl (xA σ 1))), (ad 3, .inl (cI, 7, .inl (xA σ 3))), (ad 4, .inl (cI, 7, .inl (xA σ 4))), (ad 5, .inl (cI, 7, .inl (xA σ 5))), (ad 6, .inl (cI, 9, .inl (xA σ 7))), (ad 7, .inl (cI, 9, .inl (xA σ 8))), (ad 8, .inl (cI, 9, .inl (xA σ 9))), (ad 9, .inl (cI, 44, .inl (xA σ 11))), (ad 10, .inl (cI, 44, .inl (xA σ 12))), (ad 11, .inl (cI, 44, .inl (xA σ 13))), (ad 12, .inl (cI, 11, .inl (xA σ 15))), (ad 13, .inl (cI, 11, .inl (xA σ 16))), (ad 14, .inl (cI, 6, .inl (xA σ 17))), (ad 15, .inl (cI, 36, .inl (xA σ 18))), (ad 16, .inl (cI, 36, .inl (xA σ 19))), (ad 17, .inl (cZ, 64, .inl (xA σ 24))), (ad 18, .inl (cZ, 64, .inl (xA σ 25))), (ad 19, .inl (cI, 3, .inl (xA σ 26))), (ad 20, .inl (cI, 8, .inl (xA σ 28))), (ad 21, .inl (cI, 8, .inl (xA σ 29))), (ad 22, .inl (cI, 8, .inl (xA σ 30))), (ad 23, .inl (cI, 8, .inl (xA σ 31))), (ad 24, .inl (cZ, 4, .inl (xA σ 32))), (ad 25, .inl (cI, 4, .inl (xA σ 33))), (ad 26, .inl (cI, 4, .inl (xA σ 34))), (ad 27, .inl (cI, 240, .inl (xA σ 35))), (ad 28, .inl (cI, 60, .inl (xA σ 36)))]
def wC (ad : Nat → Nat) (cI cS : ClassId) (σ : xSt) : va_W := [(ad 0, .inr (8, xfX8 ad σ)), (ad 1, .inr (2, xfX2 ad σ)), (ad 2, .inr (4, xfX4 ad σ)), (ad 3, .inr (1, xfX1 ad σ)), (ad 4, .inr (0, xfX0 ad σ)), (ad 5, .inr (3, xfX3 ad σ)), (ad 6, .inl (cS, 4, .inr (.inr (.inr (.inr (fun i => some (ad (37 + i)))))))), (ad 7, .inl (cI, 3, .inl (xA σ 0))), (ad 8, .inl (cI, 8, .inl (xA σ 1))), (ad 9, .inl (cI, 5, .inl (xA σ 2))), (ad 10, .inl (cI, 5, .inl (xA σ 3))), (ad 11, .inl (cI, 5, .inl (xA σ 4))), (ad 12, .inr (6, xfX6 ad σ 0)), (ad 13, .inr (6, xfX6 ad σ 1)), (ad 14, .inl (cI, (lnB 0), .inl (xA σ (6 + 0)))), (ad 15, .inl (cI, (lnB 1), .inl (xA σ (6 + 1)))), (ad 16, .inl (cI, (lnE 0), .inl (xA σ (8 + 0)))), (ad 17, .inl (cI, (lnE 1), .inl (xA σ (8 + 1)))), (ad 18, .inl (cI, (lnE 0), .inl (xA σ (10 + 0)))), (ad 19, .inl (cI, (lnE 1), .inl (xA σ (10 + 1)))), (ad 20, .inl (cI, (lnE 0), .inl (xA σ (12 + 0)))), (ad 21, .inl (cI, (lnE 1), .inl (xA σ (12 + 1)))), (ad 22, .inr (7, xfX7 ad σ 0)), (ad 23, .inr (7, xfX7 ad σ 1)), (ad 24, .inr (7, xfX7 ad σ 2)), (ad 25, .inl (cI, (lnT 0), .inl (xA σ (15 + 0)))), (ad 26, .inl (cI, (lnT 1), .inl (xA σ (15 + 1)))), (ad 27, .inl (cI, (lnT 2), .inl (xA σ (15 + 2)))), (ad 28, .inl (cI, (lnT 0), .inl (xA σ (18 + 0)))), (ad 29, .inl (cI, (lnT 1), .inl (xA σ (18 + 1)))), (ad 30, .inl (cI, (lnT 2), .inl (xA σ (18 + 2)))), (ad 31, .inl (cI, (lnT 0), .inl (xA σ (21 + 0)))), (ad 32, .inl (cI, (lnT 1), .inl (xA σ (21 + 1)))), (ad 33, .inl (cI, (lnT 2), .inl (xA σ (21 + 2)))), (ad 34, .inl (cI, (lnT 0), .inl (xA σ (24 + 0)))), (ad 35, .inl (cI, (lnT 1), .inl (xA σ (24 + 1)))), (ad 36, .inl (cI, (lnT 2), .inl (xA σ (24 + 2)))), (ad 37, .inr (5, xfX5 ad σ 0)), (ad 38, .inr (5, xfX5 ad σ 1)), (ad 39, .inr (5, xfX5 ad σ 2)), (ad 40, .inr (5, xfX5 ad σ 3)), (ad 41, .inl (cI, 60, .inl (xA σ (30 + 0)))), (ad 42, .inl (cI, 60, .inl (xA σ (30 + 1)))), (ad 43, .inl (cI, 60, .inl (xA σ (30 + 2)))), (ad 44, .inl (cI, 60, .inl (xA σ (30 + 3))))]
abbrev tyM (cI cZ : ClassId) : List (ClassId × FieldType) := [(cI, .int), (cZ, .boolean)]
abbrev tyC (cI cS : ClassId) : List (ClassId × FieldType) := [(cI, .int), (cS, .object "ChairSmells$Sheet")]
section XW
variable {ad : Nat → Nat} {cI cZ cS : ClassId} {σ : xSt}
theorem wM_D (hinj : ∀ i j, i < 29 → j < 29 → ad i = ad j → i = j) : ∀ σ, va_D (fun q => ∃ k, k < 29 ∧ q = ad k) (wM ad cI cZ σ) := fun σ => x_D hinj rfl
theorem wC_D (hinj : ∀ i j, i < 45 → j < 45 → ad i = ad j → i = j) : ∀ σ, va_D (fun q => ∃ k, k < 45 ∧ q = ad k) (wC ad cI cS σ) := fun σ => x_D hinj rfl
theorem qX9 : (wM ad cI cZ σ)[0]? = some (ad 0, .inr (9, xfX9 ad σ)) := rfl
theorem pX9_2 (v : Int32) : (wM ad cI cZ σ).set 0 (ad 0, .inr (9, (xfX9 ad σ).set 2 (.int v))) = wM ad cI cZ (xsI σ 2 v) := rfl
theorem pX9_6 (v : Int32) : (wM ad cI cZ σ).set 0 (ad 0, .inr (9, (xfX9 ad σ).set 6 (.int v))) = wM ad cI cZ (xsI σ 6 v) := rfl
theorem pX9_10 (v : Int32) : (wM ad cI cZ σ).set 0 (ad 0, .inr (9, (xfX9 ad σ).set 10 (.int v))) = wM ad cI cZ (xsI σ 10 v) := rfl
theorem pX9_14 (v : Int32) : (wM ad cI cZ σ).set 0 (ad 0, .inr (9, (xfX9 ad σ).set 14 (.int v))) = wM ad cI cZ (xsI σ 14 v) := rfl
theorem pX9_20 (v : Int32) : (wM ad cI cZ σ).set 0 (ad 0, .inr (9, (xfX9 ad σ).set 20 (.int v))) = wM ad cI cZ (xsI σ 20 v) := rfl
theorem pX9_21 (v : Int32) : (wM ad cI cZ σ).set 0 (ad 0, .inr (9, (xfX9 ad σ).set 21 (.int v))) = wM ad cI cZ (xsI σ 21 v) := rfl
theorem pX9_22 (v : Int32) : (wM ad cI cZ σ).set 0 (ad 0, .inr (9, (xfX9 ad σ).set 22 (.int v))) = wM ad cI cZ (xsI σ 22 v) := rfl
theorem pX9_23 (v : Int32) : (wM ad cI cZ σ).set 0 (ad 0, .inr (9, (xfX9 ad σ).set 23 (.int v))) = wM ad cI cZ (xsI σ 23 v) := rfl
theorem pX9_27 (v : Int32) : (wM ad cI cZ σ).set 0 (ad 0, .inr (9, (xfX9 ad σ).set 27 (.int v))) = wM ad cI cZ (xsI σ 27 v) := rfl
theorem pX9_37 (v : Int32) : (wM ad cI cZ σ).set 0 (ad 0, .inr (9, (xfX9 ad σ).set 37 (.int v))) = wM ad cI cZ (xsI σ 37 v) := rfl
theorem qX8 : (wC ad cI cS σ)[0]? = some (ad 0, .inr (8, xfX8 ad σ)) := rfl
theorem pX8_6 (v : Int32) : (wC ad cI cS σ).set 0 (ad 0, .inr (8, (xfX8 ad σ).set 6 (.int v))) = wC ad cI cS (xsI σ 0 v) := rfl
theorem qX2 : (wC ad cI cS σ)[1]? = some (ad 1, .inr (2, xfX2 ad σ)) := rfl
theorem qX4 : (wC ad cI cS σ)[2]? = some (ad 2, .inr (4, xfX4 ad σ)) := rfl
theorem pX4_2 (v : Int32) : (wC ad cI cS σ).set 2 (ad 2, .inr (4, (xfX4 ad σ).set 2 (.int v))) = wC ad cI cS (xsI σ 3 v) := rfl
theorem pX4_3 (v : Int32) : (wC ad cI cS σ).set 2 (ad 2, .inr (4, (xfX4 ad σ).set 3 (.int v))) = wC ad cI cS (xsI σ 4 v) := rfl
theorem pX4_4 (v : Int32) : (wC ad cI cS σ).set 2 (ad 2, .inr (4, (xfX4 ad σ).set 4 (.int v))) = wC ad cI cS (xsI σ 5 v) := rfl
theorem pX4_5 (v : Int32) : (wC ad cI cS σ).set 2 (ad 2, .inr (4, (xfX4 ad σ).set 5 (.int v))) = wC ad cI cS (xsI σ 6 v) := rfl
theorem pX4_6 (v : Int32) : (wC ad cI cS σ).set 2 (ad 2, .inr (4, (xfX4 ad σ).set 6 (.int v))) = wC ad cI cS (xsI σ 7 v) := rfl
theorem qX1 : (wC ad cI cS σ)[3]? = some (ad 3, .inr (1, xfX1 ad σ)) := rfl
theorem qX0 : (wC ad cI cS σ)[4]? = some (ad 4, .inr (0, xfX0 ad σ)) := rfl
theorem pX0_0 (v : Int64) : (wC ad cI cS σ).set 4 (ad 4, .inr (0, (xfX0 ad σ).set 0 (.long v))) = wC ad cI cS (xsL σ 0 v) := rfl
theorem pX0_1 (v : Int64) : (wC ad cI cS σ).set 4 (ad 4, .inr (0, (xfX0 ad σ).set 1 (.long v))) = wC ad cI cS (xsL σ 1 v) := rfl
theorem qX3 : (wC ad cI cS σ)[5]? = some (ad 5, .inr (3, xfX3 ad σ)) := rfl
theorem pX3_3 (v : Int32) : (wC ad cI cS σ).set 5 (ad 5, .inr (3, (xfX3 ad σ).set 3 (.int v))) = wC ad cI cS (xsI σ 1 v) := rfl
theorem pX3_4 (v : Int32) : (wC ad cI cS σ).set 5 (ad 5, .inr (3, (xfX3 ad σ).set 4 (.int v))) = wC ad cI cS (xsI σ 2 v) := rfl
theorem qX6 : ∀ k, k < 2 → (wC ad cI cS σ)[(12 + k)]? = some (ad (12 + k), .inr (6, xfX6 ad σ k)) := x_2 rfl rfl
theorem pX6_2 (v : Int32) : ∀ k, k < 2 → (wC ad cI cS σ).set (12 + k) (ad (12 + k), .inr (6, (xfX6 ad σ k).set 2 (.int v))) = wC ad cI cS (xsI σ (10 + k) v) := x_2 rfl rfl
theorem pX6_3 (v : Int32) : ∀ k, k < 2 → (wC ad cI cS σ).set (12 + k) (ad (12 + k), .inr (6, (xfX6 ad σ k).set 3 (.int v))) = wC ad cI cS (xsI σ (12 + k) v) := x_2 rfl rfl
theorem qX7 : ∀ k, k < 3 → (wC ad cI cS σ)[(22 + k)]? = some (ad (22 + k), .inr (7, xfX7 ad σ k)) := x_3 rfl rfl rfl
theorem pX7_5 (v : Int32) : ∀ k, k < 3 → (wC ad cI cS σ).set (22 + k) (ad (22 + k), .inr (7, (xfX7 ad σ k).set 5 (.int v))) = wC ad cI cS (xsI σ (14 + k) v) := x_3 rfl rfl rfl
theorem qX5 : ∀ k, k < 4 → (wC ad cI cS σ)[(37 + k)]? = some (ad (37 + k), .inr (5, xfX5 ad σ k)) := x_4 rfl rfl rfl rfl
theorem pX5_1 (v : Int32) : ∀ k, k < 4 → (wC ad cI cS σ).set (37 + k) (ad (37 + k), .inr (5, (xfX5 ad σ k).set 1 (.int v))) = wC ad cI cS (xsI σ (20 + k) v) := x_4 rfl rfl rfl rfl
theorem pX5_2 (v : Int32) : ∀ k, k < 4 → (wC ad cI cS σ).set (37 + k) (ad (37 + k), .inr (5, (xfX5 ad σ k).set 2 (.int v))) = wC ad cI cS (xsI σ (24 + k) v) := x_4 rfl rfl rfl rfl
theorem qaX9_typed : (wM ad cI cZ σ)[1]? = some (ad 1, .inl (cI, 2, .inl (xA σ 0))) := rfl
theorem saX9_typed (f : Nat → Int32) : (wM ad cI cZ σ).set 1 (ad 1, .inl (cI, 2, .inl f)) = wM ad cI cZ (xsF σ 0 f) := rfl
theorem qaX9_texts : (wM ad cI cZ σ)[2]? = some (ad 2, .inl (cI, 62, .inl (xA σ 1))) := rfl
theorem saX9_texts (f : Nat → Int32) : (wM ad cI cZ σ).set 2 (ad 2, .inl (cI, 62, .inl f)) = wM ad cI cZ (xsF σ 1 f) := rfl
theorem qaX9_keeps : (wM ad cI cZ σ)[3]? = some (ad 3, .inl (cI, 7, .inl (xA σ 3))) := rfl
theorem saX9_keeps (f : Nat → Int32) : (wM ad cI cZ σ).set 3 (ad 3, .inl (cI, 7, .inl f)) = wM ad cI cZ (xsF σ 3 f) := rfl
theorem qaX9_noses : (wM ad cI cZ σ)[4]? = some (ad 4, .inl (cI, 7, .inl (xA σ 4))) := rfl
theorem saX9_noses (f : Nat → Int32) : (wM ad cI cZ σ).set 4 (ad 4, .inl (cI, 7, .inl f)) = wM ad cI cZ (xsF σ 4 f) := rfl
theorem qaX9_unders : (wM ad cI cZ σ)[5]? = some (ad 5, .inl (cI, 7, .inl (xA σ 5))) := rfl
theorem saX9_unders (f : Nat → Int32) : (wM ad cI cZ σ).set 5 (ad 5, .inl (cI, 7, .inl f)) = wM ad cI cZ (xsF σ 5 f) := rfl
theorem qaX9_strongs : (wM ad cI cZ σ)[6]? = some (ad 6, .inl (cI, 9, .inl (xA σ 7))) := rfl
theorem saX9_strongs (f : Nat → Int32) : (wM ad cI cZ σ).set 6 (ad 6, .inl (cI, 9, .inl f)) = wM ad cI cZ (xsF σ 7 f) := rfl
theorem qaX9_fasts : (wM ad cI cZ σ)[7]? = some (ad 7, .inl (cI, 9, .inl (xA σ 8))) := rfl
theorem saX9_fasts (f : Nat → Int32) : (wM ad cI cZ σ).set 7 (ad 7, .inl (cI, 9, .inl f)) = wM ad cI cZ (xsF σ 8 f) := rfl
theorem qaX9_soaps : (wM ad cI cZ σ)[8]? = some (ad 8, .inl (cI, 9, .inl (xA σ 9))) := rfl
theorem saX9_soaps (f : Nat → Int32) : (wM ad cI cZ σ).set 8 (ad 8, .inl (cI, 9, .inl f)) = wM ad cI cZ (xsF σ 9 f) := rfl
theorem qaX9_sitHour : (wM ad cI cZ σ)[9]? = some (ad 9, .inl (cI, 44, .inl (xA σ 11))) := rfl
theorem saX9_sitHour (f : Nat → Int32) : (wM ad cI cZ σ).set 9 (ad 9, .inl (cI, 44, .inl f)) = wM ad cI cZ (xsF σ 11 f) := rfl
theorem qaX9_sitPerson : (wM ad cI cZ σ)[10]? = some (ad 10, .inl (cI, 44, .inl (xA σ 12))) := rfl
theorem saX9_sitPerson (f : Nat → Int32) : (wM ad cI cZ σ).set 10 (ad 10, .inl (cI, 44, .inl f)) = wM ad cI cZ (xsF σ 12 f) := rfl
theorem qaX9_sitThing : (wM ad cI cZ σ)[11]? = some (ad 11, .inl (cI, 44, .inl (xA σ 13))) := rfl
theorem saX9_sitThing (f : Nat → Int32) : (wM ad cI cZ σ).set 11 (ad 11, .inl (cI, 44, .inl f)) = wM ad cI cZ (xsF σ 13 f) := rfl
theorem qaX9_winHour : (wM ad cI cZ σ)[12]? = some (ad 12, .inl (cI, 11, .inl (xA σ 15))) := rfl
theorem saX9_winHour (f : Nat → Int32) : (wM ad cI cZ σ).set 12 (ad 12, .inl (cI, 11, .inl f)) = wM ad cI cZ (xsF σ 15 f) := rfl
theorem qaX9_winThing : (wM ad cI cZ σ)[13]? = some (ad 13, .inl (cI, 11, .inl (xA σ 16))) := rfl
theorem saX9_winThing (f : Nat → Int32) : (wM ad cI cZ σ).set 13 (ad 13, .inl (cI, 11, .inl f)) = wM ad cI cZ (xsF σ 16 f) := rfl
theorem qaX9_many : (wM ad cI cZ σ)[14]? = some (ad 14, .inl (cI, 6, .inl (xA σ 17))) := rfl
theorem saX9_many (f : Nat → Int32) : (wM ad cI cZ σ).set 14 (ad 14, .inl (cI, 6, .inl f)) = wM ad cI cZ (xsF σ 17 f) := rfl
theorem qaX9_ofWhom : (wM ad cI cZ σ)[15]? = some (ad 15, .inl (cI, 36, .inl (xA σ 18))) := rfl
theorem saX9_ofWhom (f : Nat → Int32) : (wM ad cI cZ σ).set 15 (ad 15, .inl (cI, 36, .inl f)) = wM ad cI cZ (xsF σ 18 f) := rfl
theorem qaX9_howStrong : (wM ad cI cZ σ)[16]? = some (ad 16, .inl (cI, 36, .inl (xA σ 19))) := rfl
theorem saX9_howStrong (f : Nat → Int32) : (wM ad cI cZ σ).set 16 (ad 16, .inl (cI, 36, .inl f)) = wM ad cI cZ (xsF σ 19 f) := rfl
theorem qaX9_isBoth : (wM ad cI cZ σ)[17]? = some (ad 17, .inl (cZ, 64, .inl (xA σ 24))) := rfl
theorem saX9_isBoth (f : Nat → Int32) : (wM ad cI cZ σ).set 17 (ad 17, .inl (cZ, 64, .inl f)) = wM ad cI cZ (xsF σ 24 f) := rfl
theorem qaX9_isOne : (wM ad cI cZ σ)[18]? = some (ad 18, .inl (cZ, 64, .inl (xA σ 25))) := rfl
theorem saX9_isOne (f : Nat → Int32) : (wM ad cI cZ σ).set 18 (ad 18, .inl (cZ, 64, .inl f)) = wM ad cI cZ (xsF σ 25 f) := rfl
theorem qaX9_planRow : (wM ad cI cZ σ)[19]? = some (ad 19, .inl (cI, 3, .inl (xA σ 26))) := rfl
theorem saX9_planRow (f : Nat → Int32) : (wM ad cI cZ σ).set 19 (ad 19, .inl (cI, 3, .inl f)) = wM ad cI cZ (xsF σ 26 f) := rfl
theorem qaX9_smeltHour : (wM ad cI cZ σ)[20]? = some (ad 20, .inl (cI, 8, .inl (xA σ 28))) := rfl
theorem saX9_smeltHour (f : Nat → Int32) : (wM ad cI cZ σ).set 20 (ad 20, .inl (cI, 8, .inl f)) = wM ad cI cZ (xsF σ 28 f) := rfl
theorem qaX9_smeltThing : (wM ad cI cZ σ)[21]? = some (ad 21, .inl (cI, 8, .inl (xA σ 29))) := rfl
theorem saX9_smeltThing (f : Nat → Int32) : (wM ad cI cZ σ).set 21 (ad 21, .inl (cI, 8, .inl f)) = wM ad cI cZ (xsF σ 29 f) := rfl
theorem qaX9_smeltSet : (wM ad cI cZ σ)[22]? = some (ad 22, .inl (cI, 8, .inl (xA σ 30))) := rfl
theorem saX9_smeltSet (f : Nat → Int32) : (wM ad cI cZ σ).set 22 (ad 22, .inl (cI, 8, .inl f)) = wM ad cI cZ (xsF σ 30 f) := rfl
theorem qaX9_toldBy : (wM ad cI cZ σ)[23]? = some (ad 23, .inl (cI, 8, .inl (xA σ 31))) := rfl
theorem saX9_toldBy (f : Nat → Int32) : (wM ad cI cZ σ).set 23 (ad 23, .inl (cI, 8, .inl f)) = wM ad cI cZ (xsF σ 31 f) := rfl
theorem qaX9_isThere : (wM ad cI cZ σ)[24]? = some (ad 24, .inl (cZ, 4, .inl (xA σ 32))) := rfl
theorem saX9_isThere (f : Nat → Int32) : (wM ad cI cZ σ).set 24 (ad 24, .inl (cZ, 4, .inl f)) = wM ad cI cZ (xsF σ 32 f) := rfl
theorem qaX9_forms : (wM ad cI cZ σ)[25]? = some (ad 25, .inl (cI, 4, .inl (xA σ 33))) := rfl
theorem saX9_forms (f : Nat → Int32) : (wM ad cI cZ σ).set 25 (ad 25, .inl (cI, 4, .inl f)) = wM ad cI cZ (xsF σ 33 f) := rfl
theorem qaX9_sizes : (wM ad cI cZ σ)[26]? = some (ad 26, .inl (cI, 4, .inl (xA σ 34))) := rfl
theorem saX9_sizes (f : Nat → Int32) : (wM ad cI cZ σ).set 26 (ad 26, .inl (cI, 4, .inl f)) = wM ad cI cZ (xsF σ 34 f) := rfl
theorem qaX9_items : (wM ad cI cZ σ)[27]? = some (ad 27, .inl (cI, 240, .inl (xA σ 35))) := rfl
theorem saX9_items (f : Nat → Int32) : (wM ad cI cZ σ).set 27 (ad 27, .inl (cI, 240, .inl f)) = wM ad cI cZ (xsF σ 35 f) := rfl
theorem qaX9_moved : (wM ad cI cZ σ)[28]? = some (ad 28, .inl (cI, 60, .inl (xA σ 36))) := rfl
theorem saX9_moved (f : Nat → Int32) : (wM ad cI cZ σ).set 28 (ad 28, .inl (cI, 60, .inl f)) = wM ad cI cZ (xsF σ 36 f) := rfl
theorem qaX4_row : (wC ad cI cS σ)[7]? = some (ad 7, .inl (cI, 3, .inl (xA σ 0))) := rfl
theorem saX4_row (f : Nat → Int32) : (wC ad cI cS σ).set 7 (ad 7, .inl (cI, 3, .inl f)) = wC ad cI cS (xsF σ 0 f) := rfl
theorem qaX1_toldBy : (wC ad cI cS σ)[8]? = some (ad 8, .inl (cI, 8, .inl (xA σ 1))) := rfl
theorem saX1_toldBy (f : Nat → Int32) : (wC ad cI cS σ).set 8 (ad 8, .inl (cI, 8, .inl f)) = wC ad cI cS (xsF σ 1 f) := rfl
theorem qaX3_smells : (wC ad cI cS σ)[9]? = some (ad 9, .inl (cI, 5, .inl (xA σ 2))) := rfl
theorem saX3_smells (f : Nat → Int32) : (wC ad cI cS σ).set 9 (ad 9, .inl (cI, 5, .inl f)) = wC ad cI cS (xsF σ 2 f) := rfl
theorem qaX3_strengths : (wC ad cI cS σ)[10]? = some (ad 10, .inl (cI, 5, .inl (xA σ 3))) := rfl
theorem saX3_strengths (f : Nat → Int32) : (wC ad cI cS σ).set 10 (ad 10, .inl (cI, 5, .inl f)) = wC ad cI cS (xsF σ 3 f) := rfl
theorem qaX3_fasts : (wC ad cI cS σ)[11]? = some (ad 11, .inl (cI, 5, .inl (xA σ 4))) := rfl
theorem saX3_fasts (f : Nat → Int32) : (wC ad cI cS σ).set 11 (ad 11, .inl (cI, 5, .inl f)) = wC ad cI cS (xsF σ 4 f) := rfl
theorem qaX6_bytes : ∀ k, k < 2 → (wC ad cI cS σ)[(14 + k)]? = some (ad (14 + k), .inl (cI, (lnB k), .inl (xA σ (6 + k)))) := x_2 rfl rfl
theorem saX6_bytes (f : Nat → Int32) : ∀ k, k < 2 → (wC ad cI cS σ).set (14 + k) (ad (14 + k), .inl (cI, (lnB k), .inl f)) = wC ad cI cS (xsF σ (6 + k) f) := x_2 rfl rfl
theorem qaX6_first : ∀ k, k < 2 → (wC ad cI cS σ)[(16 + k)]? = some (ad (16 + k), .inl (cI, (lnE k), .inl (xA σ (8 + k)))) := x_2 rfl rfl
theorem saX6_first (f : Nat → Int32) : ∀ k, k < 2 → (wC ad cI cS σ).set (16 + k) (ad (16 + k), .inl (cI, (lnE k), .inl f)) = wC ad cI cS (xsF σ (8 + k) f) := x_2 rfl rfl
theorem qaX6_second : ∀ k, k < 2 → (wC ad cI cS σ)[(18 + k)]? = some (ad (18 + k), .inl (cI, (lnE k), .inl (xA σ (10 + k)))) := x_2 rfl rfl
theorem saX6_second (f : Nat → Int32) : ∀ k, k < 2 → (wC ad cI cS σ).set (18 + k) (ad (18 + k), .inl (cI, (lnE k), .inl f)) = wC ad cI cS (xsF σ (10 + k) f) := x_2 rfl rfl
theorem qaX6_third : ∀ k, k < 2 → (wC ad cI cS σ)[(20 + k)]? = some (ad (20 + k), .inl (cI, (lnE k), .inl (xA σ (12 + k)))) := x_2 rfl rfl
theorem saX6_third (f : Nat → Int32) : ∀ k, k < 2 → (wC ad cI cS σ).set (20 + k) (ad (20 + k), .inl (cI, (lnE k), .inl f)) = wC ad cI cS (xsF σ (12 + k) f) := x_2 rfl rfl
theorem qaX7_hours : ∀ k, k < 3 → (wC ad cI cS σ)[(25 + k)]? = some (ad (25 + k), .inl (cI, (lnT k), .inl (xA σ (15 + k)))) := x_3 rfl rfl rfl
theorem saX7_hours (f : Nat → Int32) : ∀ k, k < 3 → (wC ad cI cS σ).set (25 + k) (ad (25 + k), .inl (cI, (lnT k), .inl f)) = wC ad cI cS (xsF σ (15 + k) f) := x_3 rfl rfl rfl
theorem qaX7_things : ∀ k, k < 3 → (wC ad cI cS σ)[(28 + k)]? = some (ad (28 + k), .inl (cI, (lnT k), .inl (xA σ (18 + k)))) := x_3 rfl rfl rfl
theorem saX7_things (f : Nat → Int32) : ∀ k, k < 3 → (wC ad cI cS σ).set (28 + k) (ad (28 + k), .inl (cI, (lnT k), .inl f)) = wC ad cI cS (xsF σ (18 + k) f) := x_3 rfl rfl rfl
theorem qaX7_others : ∀ k, k < 3 → (wC ad cI cS σ)[(31 + k)]? = some (ad (31 + k), .inl (cI, (lnT k), .inl (xA σ (21 + k)))) := x_3 rfl rfl rfl
theorem saX7_others (f : Nat → Int32) : ∀ k, k < 3 → (wC ad cI cS σ).set (31 + k) (ad (31 + k), .inl (cI, (lnT k), .inl f)) = wC ad cI cS (xsF σ (21 + k) f) := x_3 rfl rfl rfl
theorem qaX7_order : ∀ k, k < 3 → (wC ad cI cS σ)[(34 + k)]? = some (ad (34 + k), .inl (cI, (lnT k), .inl (xA σ (24 + k)))) := x_3 rfl rfl rfl
theorem saX7_order (f : Nat → Int32) : ∀ k, k < 3 → (wC ad cI cS σ).set (34 + k) (ad (34 + k), .inl (cI, (lnT k), .inl f)) = wC ad cI cS (xsF σ (24 + k) f) := x_3 rfl rfl rfl
theorem qaX5_items : ∀ k, k < 4 → (wC ad cI cS σ)[(41 + k)]? = some (ad (41 + k), .inl (cI, 60, .inl (xA σ (30 + k)))) := x_4 rfl rfl rfl rfl
theorem saX5_items (f : Nat → Int32) : ∀ k, k < 4 → (wC ad cI cS σ).set (41 + k) (ad (41 + k), .inl (cI, 60, .inl f)) = wC ad cI cS (xsF σ (30 + k) f) := x_4 rfl rfl rfl rfl
theorem qaS : (wC ad cI cS σ)[6]? = some (ad 6, .inl (cS, 4, .inr (.inr (.inr (.inr (fun i => some (ad (37 + i)))))))) := rfl
end XW
