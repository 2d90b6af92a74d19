def tlv (H : Hs) (D : Dy) (t h : Nat) : Int32 := toldL (hN H t) (dayL H D t (h + 1))
def hrX (H : Hs) (D : Dy) (t x h : Nat) : Nat := (List.range' 0 8).foldl (rwX (tlv H D t h)) x
def hrY (H : Hs) (D : Dy) (t y h : Nat) : Nat := (List.range' 0 8).foldl (rwY (tlv H D t h)) y
theorem c_in22 {σm : xSt} {H : Hs} {D : Dy} (F t : Nat) (c7 : Int64 → Int64 → Int32 → xSt → Option (Int64 × xSt)) (hF : 100 ≤ F) (ht : t < hT H) : ∀ (d fu h x y : Nat) (σ : xSt), h + d = 24 → d < fu → Hse σ σm H D →
    ∃ σ', mX2_inseparable_L22 F c7 fu (lN x) (lN y) (nI t) (nI h) σ = mX2_inseparable_L133 F c7 (lN ((List.range' h d).foldl (hrX H D t) x)) (lN ((List.range' h d).foldl (hrY H D t) y)) (nI t) σ' ∧ xFr [1, 2] [2, 3, 4] σ σ' := by
  intro d
  induction d with
  | zero =>
    intro fu h x y σ e hf hH
    obtain ⟨fu, rfl⟩ : ∃ f, fu = f + 1 := ⟨fu - 1, by omega⟩
    show ∃ σ', mX2_inseparable_S22 F c7 (mX2_inseparable_L22 F c7 fu) (lN x) (lN y) (nI t) (nI h) σ = _ ∧ _
    unfold mX2_inseparable_S22
    rw [if_pos (show (24 : Int32) ≤ nI h from nI_le (a := 24) (by omega) (by omega))]
    exact ⟨σ, rfl, xFr_rf⟩
  | succ d ih =>
    intro fu h x y σ e hf hH
    obtain ⟨fu, rfl⟩ : ∃ f, fu = f + 1 := ⟨fu - 1, by omega⟩
    show ∃ σ', mX2_inseparable_S22 F c7 (mX2_inseparable_L22 F c7 fu) (lN x) (lN y) (nI t) (nI h) σ = _ ∧ _
    unfold mX2_inseparable_S22
    obtain ⟨σ1, b1, b2, b3⟩ := c_tells0 F t h hF ht (by omega) hH
    rw [if_neg (show ¬ ((24 : Int32) ≤ nI h) from nI_ge (b := 24) (by omega) (by omega)), b1, xb2_s]
    rw [show mX2_inseparable_L43 F c7 (mX2_inseparable_L22 F c7 fu) F (lN x) (lN y) (nI t) (nI h) (toldL (hN H t) (dayL H D t (h + 1))) 0 σ1 = _ from c_in43 F (tlv H D t h) (nI t) (nI h) c7 (mX2_inseparable_L22 F c7 fu) hF σ1 8 F 0 x y (by omega) (by omega)]
    unfold mX2_inseparable_L127
    obtain ⟨σ', z1, z2⟩ := ih fu (h + 1) (hrX H D t x h) (hrY H D t y h) σ1 (by omega) (by omega) (Hse_c hH b2)
    refine ⟨σ', ?_, xFr_tr b2 z2⟩
    rw [nI_1, List.range'_succ, List.foldl_cons, List.foldl_cons]
    exact z1
def thX (H : Hs) (D : Dy) (x t : Nat) : Nat := (List.range' 0 24).foldl (hrX H D t) x
def thY (H : Hs) (D : Dy) (y t : Nat) : Nat := (List.range' 0 24).foldl (hrY H D t) y
theorem c_in7 {σm : xSt} {H : Hs} {D : Dy} (F : Nat) (hF : 100 ≤ F) : ∀ (d fu t x y : Nat) (σ : xSt), t + d = hT H → d < fu → Hse σ σm H D →
    ∃ σ', mX2_inseparable_L7 F fu (lN x) (lN y) (nI t) σ = some (lN ((List.range' t d).foldl (thX H D) x) &&& (lN ((List.range' t d).foldl (thY H D) y) ^^^ (-1)), σ') ∧ xFr [1, 2] [2, 3, 4] σ σ' := by
  intro d
  induction d with
  | zero =>
    intro fu t x y σ e hf hH
    have hb1 := hH.1.1
    obtain ⟨fu, rfl⟩ : ∃ f, fu = f + 1 := ⟨fu - 1, by omega⟩
    show ∃ σ', mX2_inseparable_S7 F (mX2_inseparable_L7 F fu) (lN x) (lN y) (nI t) σ = _ ∧ _
    unfold mX2_inseparable_S7 mX2_inseparable_L139
    rw [show xI σ (12 + 0) = nI (hT H) from hH.2.1.1, if_pos (nI_le (by omega) (by omega))]
    exact ⟨σ, rfl, xFr_rf⟩
  | succ d ih =>
    intro fu t x y σ e hf hH
    have hb1 := hH.1.1
    obtain ⟨fu, rfl⟩ : ∃ f, fu = f + 1 := ⟨fu - 1, by omega⟩
    show ∃ σ', mX2_inseparable_S7 F (mX2_inseparable_L7 F fu) (lN x) (lN y) (nI t) σ = _ ∧ _
    unfold mX2_inseparable_S7
    rw [show xI σ (12 + 0) = nI (hT H) from hH.2.1.1, if_neg (nI_ge (by omega) (by omega))]
    obtain ⟨σ1, b1, b2⟩ := c_in22 F t (mX2_inseparable_L7 F fu) hF (by omega) 24 F 0 x y σ (by omega) (by omega) hH
    rw [show mX2_inseparable_L22 F (mX2_inseparable_L7 F fu) F (lN x) (lN y) (nI t) 0 σ = _ from b1]
    unfold mX2_inseparable_L133
    obtain ⟨σ', z1, z2⟩ := ih fu (t + 1) (thX H D x t) (thY H D y t) σ1 (by omega) (by omega) (Hse_c hH b2)
    refine ⟨σ', ?_, xFr_tr b2 z2⟩
    rw [nI_1, List.range'_succ, List.foldl_cons, List.foldl_cons]
    exact z1
