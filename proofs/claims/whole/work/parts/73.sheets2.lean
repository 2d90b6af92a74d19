theorem le_pred {v : Int32} {n : Nat} (hn : n < 2 ^ 30) : v ≤ nI n - 1 ↔ v < nI n := by
  have h1 : (nI n - nI 1).toInt = (n : Int) - (1 : Nat) := pk_sub_toInt hn (by omega)
  have h2 : (nI n).toInt = (n : Int) := nI_toInt (by omega)
  have h3 : nI n - 1 = nI n - nI 1 := rfl
  rw [h3, Int32.le_iff_toInt_le, Int32.lt_iff_toInt_lt, h1, h2]
  omega
theorem in_lt {v : Int32} {n : Nat} (hn : n < 2 ^ 31) (h : 0 ≤ v ∧ v < nI n) : ∃ i, i < n ∧ v = nI i := by
  obtain ⟨i, hi, rfl⟩ := nI_of (x := v) (Int32.not_lt.mpr h.1)
  exact ⟨i, (nI_ltI hi hn).mp h.2, rfl⟩
theorem c_lacksItem (F k n : Nat) (hn : n ≤ 60) (v : Int32) (σ : xSt) (h : xI σ (24 + k) = nI n) : mX5_lacksItem F k v σ = some (bI (¬ (0 ≤ v ∧ v < nI n)), σ) := by
  unfold mX5_lacksItem mX5_lacksItem_L21 mX5_lacksItem_L26
  rw [h]
  by_cases h1 : v < 0
  · rw [if_pos h1, bI_nt (fun q => Int32.not_lt.mpr q.1 h1)]; rfl
  · rw [if_neg h1]
    by_cases h2 : nI n ≤ v
    · rw [if_pos h2, bI_nt (fun q => Int32.not_lt.mpr h2 q.2)]; rfl
    · have h3 : v < nI n := Int32.not_le.mp h2
      obtain ⟨i, hi, rfl⟩ := in_lt (by omega) ⟨Int32.not_lt.mp h1, h3⟩
      rw [if_neg h2, if_pos (nI_lt (by omega) (by omega)), bI_nf ⟨Int32.not_lt.mp h1, h3⟩]; rfl
/-- the finding of an item, in both: 1, 3, 2 or 0 -/
theorem cm_wrong (F : Nat) {σc σm : xSt} {k : Nat} (hk : k < 4) (hR : RSh σc σm k) (f i : Int32) : ∃ r : Nat, r < 4 ∧ mX5_wrongWith F k f i σc = some (nI r, σc) ∧ mX9_lacks F (nI k) f i σm = some (nI r, σm) ∧ (r = 0 → ∃ n i' g, n ≤ 60 ∧ i' < n ∧ i = nI i' ∧ g < 3 ∧ xI σc (24 + k) = nI n ∧ xI σc (20 + k) = nI g ∧ xA σm 33 k = nI g) := by
  unfold mX5_wrongWith mX9_lacks mX5_wrongWith_L32 mX9_lacks_L48
  have e1 := xin_nI (n := k) (N := 4) (by omega) (by omega)
  simp only [e1, nI_clamp (show k < 2 ^ 31 by omega), c_isLost, xb1_s, xb2_s, xck_1, i10, i00, i11, ↓reduceIte]
  rcases RSh_cases hR with ⟨q1, q2⟩ | ⟨q1, q2, n, g, a1, a2, a3, a4, a5, a6, a7, a8⟩
  · simp only [bI_t q1, q2, xb1_s, xb2_s, xck_1, i10, i00, i11, ↓reduceIte]
    exact ⟨1, by omega, rfl, rfl, fun h => by omega⟩
  · simp only [bI_f q1, q2, a4, a6, xb1_s, xb2_s, xck_1, i10, i00, i11, ↓reduceIte]
    by_cases h1 : nI g = f
    · simp only [h1, c_lacksItem F k n a1 i σc a3, m_in, a7, xb1_s, xb2_s, xck_1, i10, i00, i11, ↓reduceIte]
      by_cases h2 : 0 ≤ i ∧ i < nI n
      · have h3 : 0 ≤ i ∧ i ≤ nI n - 1 := ⟨h2.1, (le_pred (by omega)).mpr h2.2⟩
        simp only [bI_nf h2, bI_t h3, xb1_s, xb2_s, xck_1, i10, i00, i11, ↓reduceIte]
        obtain ⟨i', hi', e⟩ := in_lt (by omega) h2
        exact ⟨0, by omega, rfl, rfl, fun _ => ⟨n, i', g, a1, hi', e, a2, a3, h1.symm ▸ rfl, h1.symm ▸ rfl⟩⟩
      · have h3 : ¬ (0 ≤ i ∧ i ≤ nI n - 1) := fun q => h2 ⟨q.1, (le_pred (by omega)).mp q.2⟩
        simp only [bI_nt h2, bI_f h3, xb1_s, xb2_s, xck_1, i10, i00, i11, ↓reduceIte]
        exact ⟨2, by omega, rfl, rfl, fun h => by omega⟩
    · simp only [h1, xb1_s, xb2_s, xck_1, i10, i00, i11, ↓reduceIte]
      exact ⟨3, by omega, rfl, rfl, fun h => by omega⟩
theorem nI_le0 {r : Nat} (hr : r < 2 ^ 31) : (nI r ≤ 0) = (r = 0) := propext (by
  constructor
  · intro h
    rcases Nat.eq_zero_or_pos r with q | q
    · exact q
    · exact absurd h (nI_nle q hr)
  · intro h; subst h; decide)
theorem nI_eq0 {r : Nat} (hr : r < 2 ^ 31) : (nI r = 0) = (r = 0) := propext (by
  constructor
  · intro h
    rcases Nat.eq_zero_or_pos r with q | q
    · exact q
    · exact absurd h (nI_ne0 q hr)
  · intro h; subst h; rfl)
/-- the value that a form keeps -/
def sVal (g : Nat) (v : Int32) : Int32 := if g = 0 then Int8.toInt32 (Int32.toInt8 v) else if g = 1 then Int16.toInt32 (Int32.toInt16 v) else v
theorem g01 {g : Nat} (hg : g < 3) : (nI g = 0) = (g = 0) ∧ (nI g = 1) = (g = 1) := by
  rcases (show g = 0 ∨ g = 1 ∨ g = 2 by omega) with rfl | rfl | rfl
  · exact ⟨eq_true rfl ▸ (eq_true (rfl : (0 : Nat) = 0)).symm ▸ rfl, by rw [eq_false (show ¬ nI 0 = 1 by decide), eq_false (show ¬ (0 : Nat) = 1 by decide)]⟩
  · exact ⟨by rw [eq_false (show ¬ nI 1 = 0 by decide), eq_false (show ¬ (1 : Nat) = 0 by decide)], by rw [eq_true (show nI 1 = 1 from rfl), eq_true (show (1 : Nat) = 1 from rfl)]⟩
  · exact ⟨by rw [eq_false (show ¬ nI 2 = 0 by decide), eq_false (show ¬ (2 : Nat) = 0 by decide)], by rw [eq_false (show ¬ nI 2 = 1 by decide), eq_false (show ¬ (2 : Nat) = 1 by decide)]⟩
theorem c_store (F k n g i : Nat) (v : Int32) (σ : xSt) (hn : n ≤ 60) (hi : i < n) (hg : g < 3) (h1 : xI σ (24 + k) = nI n) (h2 : xI σ (20 + k) = nI g) : mX5_store F k (nI i) v σ = some (xsA σ (30 + k) i (sVal g v)) := by
  unfold mX5_store mX5_store_L39 mX5_store_L40 sVal
  have e1 := xin_nI (n := i) (N := 60) (by omega) (by omega)
  have e2 : 0 ≤ nI i ∧ nI i < nI n := ⟨nI_pos' (by omega), nI_lt hi (by omega)⟩
  simp only [c_lacksItem F k n hn _ σ h1, bI_nf e2, e1, nI_clamp (show i < 2 ^ 31 by omega), h2, (g01 hg).1, (g01 hg).2, xb1_s, xb2_s, xck_1, i10, i00, i11, ↓reduceIte]
  by_cases q : g = 0
  · simp only [q, xb1_s, xb2_s, xck_1, i10, i00, i11, ↓reduceIte]
  · by_cases q2 : g = 1
    · simp only [q2, xb1_s, xb2_s, xck_1, i10, i00, i11, ↓reduceIte]; rfl
    · simp only [q, q2, xb1_s, xb2_s, xck_1, i10, i00, i11, ↓reduceIte]
theorem m_keep (F k g i : Nat) (v : Int32) (σ : xSt) (hk : k < 4) (hi : i < 60) (hg : g < 3) (h : xA σ 33 k = nI g) : mX9_keep F (nI k) (nI i) v σ = some (xsA σ 35 (60 * k + i) (sVal g v)) := by
  unfold mX9_keep mX9_keep_L40 sVal
  have e1 := xin_nI (n := k) (N := 4) (by omega) (by omega)
  have e : (60 : Int32) * nI k + nI i = nI (60 * k + i) := by show nI 60 * nI k + nI i = _; rw [pk_mul, nI_add]
  have e2 := xin_nI (n := 60 * k + i) (N := 240) (by omega) (by omega)
  simp only [e1, e, e2, nI_clamp (show k < 2 ^ 31 by omega), nI_clamp (show 60 * k + i < 2 ^ 31 by omega), h, (g01 hg).1, (g01 hg).2, xb1_s, xb2_s, xck_1, i10, i00, i11, ↓reduceIte]
  by_cases q : g = 0
  · simp only [q, xb1_s, xb2_s, xck_1, i10, i00, i11, ↓reduceIte]
  · by_cases q2 : g = 1
    · simp only [q2, xb1_s, xb2_s, xck_1, i10, i00, i11, ↓reduceIte]; rfl
    · simp only [q, q2, xb1_s, xb2_s, xck_1, i10, i00, i11, ↓reduceIte]
/-- an item of a sheet changes in both -/
theorem Rel_item {σc σm : xSt} (hR : Rel σc σm) {k i : Nat} (hk : k < 4) (hi : i < 60) (v : Int32) (hth : ¬ xI σc (24 + k) = -1) : Rel (xsA σc (30 + k) i v) (xsA σm 35 (60 * k + i) v) := by
  refine Rel_sh hR (xFr_sA (by simp; omega)) (xFr_sA (by decide)) (fun j hj => ?_)
  by_cases hjk : j = k
  · subst hjk
    rcases RSh_cases (hR.2.2.2.2.2.1 j hj) with ⟨q1, q2⟩ | ⟨q1, q2, n, f, a1, a2, a3, a4, a5, a6, a7, a8⟩
    · exact absurd q1 hth
    · refine Or.inr ⟨n, f, a1, a2, a3, a4, by rw [xA_s0 (by decide)]; exact a5, by rw [xA_s0 (by decide)]; exact a6, by rw [xA_s0 (by decide)]; exact a7, fun z hz => ?_⟩
      rw [xA_s1, xA_s1, upd_e, upd_e]
      by_cases q : z = i
      · subst q; rw [if_pos rfl, if_pos rfl]
      · rw [if_neg q, if_neg (by omega)]; exact a8 z hz
  · refine RSh_fr (hR.2.2.2.2.2.1 j hj) rfl rfl (by rw [xA_s0 (by omega)]) (by rw [xA_s0 (by decide)]) (by rw [xA_s0 (by decide)]) (by rw [xA_s0 (by decide)]) (fun z hz => ?_)
    rw [xA_s1, upd_0 (by omega)]
theorem not_m1 {n : Nat} (h : n < 2 ^ 31) : ¬ nI n = -1 := by
  intro q
  have h1 := nI_toInt (n := n) (by omega)
  rw [q] at h1
  have : (-1 : Int32).toInt = -1 := by decide
  omega
theorem p_put (F : Nat) (hF : 5000 ≤ F) : zP_put F Rel := by
  intro σc σm hR s f i v
  unfold mX8_put mX9_put mX8_put_L14 mX9_put_L16
  by_cases h1 : 0 ≤ s ∧ s ≤ 3
  · by_cases h2 : 0 ≤ f ∧ f ≤ 2
    · simp only [c_noSheet, m_isSheet, c_noForm, m_in, bI_nf h1, bI_t h1, bI_nf h2, bI_t h2, xb1_s, xb2_s, xck_1, i10, i00, i11, ↓reduceIte]
      obtain ⟨k, hk, rfl⟩ := rngI (n := 3) (by decide) (by decide) h1
      have e1 := xin_nI (n := k) (N := 4) (by omega) (by omega)
      obtain ⟨r, hr, w1, w2, w3⟩ := cm_wrong F (by omega) (hR.2.2.2.2.2.1 k (by omega)) f i
      simp only [e1, nI_clamp (show k < 2 ^ 31 by omega), w1, w2, nI_eq0 (show r < 2 ^ 31 by omega), nI_le0 (show r < 2 ^ 31 by omega), m_meets, c_finding, xb1_s, xb2_s, xck_1, i10, i00, i11, ↓reduceIte]
      by_cases q : r = 0
      · obtain ⟨n, i', g, b1, b2, rfl, b4, b5, b6, b7⟩ := w3 q
        simp only [q, c_store F k n g i' v σc b1 b2 b4 b5 b6, m_keep F k g i' v σm (by omega) (by omega) b4 b7, xb1_s, xb2_s, xck_1, i10, i00, i11, ↓reduceIte]
        exact ⟨_, _, _, rfl, rfl, Rel_item hR (by omega) (by omega) _ (by rw [b5]; exact not_m1 (by omega))⟩
      · simp only [q, xb1_s, xb2_s, xck_1, i10, i00, i11, ↓reduceIte]
        exact ⟨_, _, _, rfl, rfl, Rel_fd hR _⟩
    · simp only [c_noSheet, m_isSheet, c_noForm, m_in, bI_nf h1, bI_t h1, bI_nt h2, bI_f h2, xb1_s, xb2_s, xck_1, i10, i00, i11, ↓reduceIte]
      exact ⟨_, _, _, rfl, rfl, hR⟩
  · simp only [c_noSheet, m_isSheet, bI_nt h1, bI_f h1, xb1_s, xb2_s, xck_1, i10, i00, i11, ↓reduceIte]
    exact ⟨_, _, _, rfl, rfl, hR⟩
theorem c_item (F k n i : Nat) (σ : xSt) (hn : n ≤ 60) (hi : i < n) (h1 : xI σ (24 + k) = nI n) : mX5_item F k (nI i) σ = some (xA σ (30 + k) i, σ) := by
  unfold mX5_item mX5_item_L18
  have e1 := xin_nI (n := i) (N := 60) (by omega) (by omega)
  have e2 : 0 ≤ nI i ∧ nI i < nI n := ⟨nI_pos' (by omega), nI_lt hi (by omega)⟩
  simp only [c_lacksItem F k n hn _ σ h1, bI_nf e2, e1, nI_clamp (show i < 2 ^ 31 by omega), xb1_s, xb2_s, xck_1, i10, i00, i11, ↓reduceIte]
theorem p_get (F : Nat) (hF : 5000 ≤ F) : zP_get F Rel := by
  intro σc σm hR s f i
  unfold mX8_get mX9_get mX8_get_L14 mX9_get_L16
  by_cases h1 : 0 ≤ s ∧ s ≤ 3
  · by_cases h2 : 0 ≤ f ∧ f ≤ 2
    · simp only [c_noSheet, m_isSheet, c_noForm, m_in, bI_nf h1, bI_t h1, bI_nf h2, bI_t h2, xb1_s, xb2_s, xck_1, i10, i00, i11, ↓reduceIte]
      obtain ⟨k, hk, rfl⟩ := rngI (n := 3) (by decide) (by decide) h1
      have e1 := xin_nI (n := k) (N := 4) (by omega) (by omega)
      obtain ⟨r, hr, w1, w2, w3⟩ := cm_wrong F (by omega) (hR.2.2.2.2.2.1 k (by omega)) f i
      simp only [e1, nI_clamp (show k < 2 ^ 31 by omega), w1, w2, nI_eq0 (show r < 2 ^ 31 by omega), nI_le0 (show r < 2 ^ 31 by omega), m_meets, c_finding, xb1_s, xb2_s, xck_1, i10, i00, i11, ↓reduceIte]
      by_cases q : r = 0
      · obtain ⟨n, i', g, b1, b2, rfl, b4, b5, b6, b7⟩ := w3 q
        have e : (60 : Int32) * nI k + nI i' = nI (60 * k + i') := by show nI 60 * nI k + nI i' = _; rw [pk_mul, nI_add]
        have e2 := xin_nI (n := 60 * k + i') (N := 240) (by omega) (by omega)
        simp only [q, c_item F k n i' σc b1 b2 b5, e, e2, nI_clamp (show 60 * k + i' < 2 ^ 31 by omega), xb1_s, xb2_s, xck_1, i10, i00, i11, ↓reduceIte]
        refine ⟨_, _, _, rfl, ?_, hR⟩
        rcases RSh_cases (hR.2.2.2.2.2.1 k (by omega)) with ⟨q1, q2⟩ | ⟨q1, q2, n, f, a1, a2, a3, a4, a5, a6, a7, a8⟩
        · exact absurd q1 (by rw [b5]; exact not_m1 (by omega))
        · rw [a8 i' (by omega)]
      · simp only [q, xb1_s, xb2_s, xck_1, i10, i00, i11, ↓reduceIte]
        exact ⟨_, _, _, rfl, rfl, Rel_fd hR _⟩
    · simp only [c_noSheet, m_isSheet, c_noForm, m_in, bI_nf h1, bI_t h1, bI_nt h2, bI_f h2, xb1_s, xb2_s, xck_1, i10, i00, i11, ↓reduceIte]
      exact ⟨_, _, _, rfl, rfl, hR⟩
  · simp only [c_noSheet, m_isSheet, bI_nt h1, bI_f h1, xb1_s, xb2_s, xck_1, i10, i00, i11, ↓reduceIte]
    exact ⟨_, _, _, rfl, rfl, hR⟩
