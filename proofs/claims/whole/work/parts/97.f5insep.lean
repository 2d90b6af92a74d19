/-! ===== pairs: what the class gathers ===== -/
theorem shlL : ∀ k, k < 63 → (1 : Int64) <<< (Int32.toInt64 (nI k) &&& 63) = lN (2 ^ k) := by decide +kernel
def inX (v : Int32) (a : Nat) (x b : Nat) : Nat := if hasB v a ∧ hasB v b then x ||| 2 ^ (8 * a + b) else x
def inY (v : Int32) (a : Nat) (y b : Nat) : Nat := if (hasB v a ↔ hasB v b) then y else y ||| 2 ^ (8 * a + b)
theorem bI_eq {p q : Prop} [Decidable p] [Decidable q] : (bI p = bI q) ↔ (p ↔ q) := by
  by_cases w : p
  · by_cases z : q
    · rw [bI_t w, bI_t z]; exact ⟨fun _ => ⟨fun _ => z, fun _ => w⟩, fun _ => rfl⟩
    · rw [bI_t w, bI_f z]; exact ⟨fun h => absurd h (by decide), fun h => absurd (h.mp w) z⟩
  · by_cases z : q
    · rw [bI_f w, bI_t z]; exact ⟨fun h => absurd h (by decide), fun h => absurd (h.mpr z) w⟩
    · rw [bI_f w, bI_f z]; exact ⟨fun _ => ⟨fun h => absurd h w, fun h => absurd h z⟩, fun _ => rfl⟩
theorem c_in56 (F a : Nat) (v v5 v6 : Int32) (c7 : Int64 → Int64 → Int32 → xSt → Option (Int64 × xSt)) (c22 : Int64 → Int64 → Int32 → Int32 → xSt → Option (Int64 × xSt)) (c43 : Int64 → Int64 → Int32 → Int32 → Int32 → Int32 → xSt → Option (Int64 × xSt)) (σ : xSt) : ∀ (d fu b x y : Nat), a < b → b + d = 8 → d < fu →
    mX2_inseparable_L56 F c7 c22 c43 fu (lN x) (lN y) v5 v6 v (nI a) (nI b) σ = mX2_inseparable_L121 F c7 c22 c43 (lN ((List.range' b d).foldl (inX v a) x)) (lN ((List.range' b d).foldl (inY v a) y)) v5 v6 v (nI a) σ := by
  intro d
  induction d with
  | zero =>
    intro fu b x y ha e h
    obtain ⟨fu, rfl⟩ : ∃ f, fu = f + 1 := ⟨fu - 1, by omega⟩
    show mX2_inseparable_S56 F c7 c22 c43 (mX2_inseparable_L56 F c7 c22 c43 fu) (lN x) (lN y) v5 v6 v (nI a) (nI b) σ = _
    unfold mX2_inseparable_S56
    rw [if_pos (show (8 : Int32) ≤ nI b from nI_le (a := 8) (by omega) (by omega))]; rfl
  | succ d ih =>
    intro fu b x y ha e h
    obtain ⟨fu, rfl⟩ : ∃ f, fu = f + 1 := ⟨fu - 1, by omega⟩
    show mX2_inseparable_S56 F c7 c22 c43 (mX2_inseparable_L56 F c7 c22 c43 fu) (lN x) (lN y) v5 v6 v (nI a) (nI b) σ = _
    unfold mX2_inseparable_S56 mX2_inseparable_L115
    have e8 : (8 : Int32) * nI a + nI b = nI (8 * a + b) := by show nI 8 * nI a + nI b = _; rw [pk_mul, nI_add]
    rw [if_neg (show ¬ ((8 : Int32) ≤ nI b) from nI_ge (b := 8) (by omega) (by omega)), c_hold, xb2_s, c_hold, xb2_s, c_hold, xb2_s, e8, shlL (8 * a + b) (by omega), fb_orL, fb_orL, nI_1, List.range'_succ, List.foldl_cons, List.foldl_cons]
    simp only [bI_eq]
    rw [← ih fu (b + 1) (inX v a x b) (inY v a y b) (by omega) (by omega) (by omega)]
    unfold inX inY
    by_cases q : (hasB v a ↔ hasB v b)
    · rw [if_pos q, if_pos q]
      by_cases q1 : hasB v a
      · rw [bI_t q1, if_neg (by decide), if_pos ⟨q1, q.mp q1⟩]
      · rw [bI_f q1, if_pos rfl, if_neg (fun w => q1 w.1)]
    · rw [if_neg q, if_neg q, if_neg (fun w => q ⟨fun _ => w.2, fun _ => w.1⟩)]
def rwX (v : Int32) (x a : Nat) : Nat := (List.range' (a + 1) (7 - a)).foldl (inX v a) x
def rwY (v : Int32) (y a : Nat) : Nat := (List.range' (a + 1) (7 - a)).foldl (inY v a) y
theorem c_in43 (F : Nat) (v v5 v6 : Int32) (c7 : Int64 → Int64 → Int32 → xSt → Option (Int64 × xSt)) (c22 : Int64 → Int64 → Int32 → Int32 → xSt → Option (Int64 × xSt)) (hF : 100 ≤ F) (σ : xSt) : ∀ (d fu a x y : Nat), a + d = 8 → d < fu →
    mX2_inseparable_L43 F c7 c22 fu (lN x) (lN y) v5 v6 v (nI a) σ = mX2_inseparable_L127 F c7 c22 (lN ((List.range' a d).foldl (rwX v) x)) (lN ((List.range' a d).foldl (rwY v) y)) v5 v6 σ := by
  intro d
  induction d with
  | zero =>
    intro fu a x y e h
    obtain ⟨fu, rfl⟩ : ∃ f, fu = f + 1 := ⟨fu - 1, by omega⟩
    show mX2_inseparable_S43 F c7 c22 (mX2_inseparable_L43 F c7 c22 fu) (lN x) (lN y) v5 v6 v (nI a) σ = _
    unfold mX2_inseparable_S43
    rw [if_pos (show (8 : Int32) ≤ nI a from nI_le (a := 8) (by omega) (by omega))]; rfl
  | succ d ih =>
    intro fu a x y e h
    obtain ⟨fu, rfl⟩ : ∃ f, fu = f + 1 := ⟨fu - 1, by omega⟩
    show mX2_inseparable_S43 F c7 c22 (mX2_inseparable_L43 F c7 c22 fu) (lN x) (lN y) v5 v6 v (nI a) σ = _
    unfold mX2_inseparable_S43
    rw [if_neg (show ¬ ((8 : Int32) ≤ nI a) from nI_ge (b := 8) (by omega) (by omega)), nI_1, c_in56 F a v v5 v6 c7 c22 (mX2_inseparable_L43 F c7 c22 fu) σ (7 - a) F (a + 1) x y (by omega) (by omega) (by omega)]
    unfold mX2_inseparable_L121
    rw [nI_1, List.range'_succ, List.foldl_cons, List.foldl_cons]
    exact ih fu (a + 1) (rwX v x a) (rwY v y a) (by omega) (by omega)
