/-! ===== sheets ===== -/
theorem c_isLost (F k : Nat) (σ : xSt) : mX5_isLost F k σ = some (bI (xI σ (24 + k) = -1), σ) := by
  unfold mX5_isLost mX5_isLost_L13
  by_cases h : xI σ (24 + k) = -1
  · rw [if_pos h, bI_t h]; rfl
  · rw [if_neg h, bI_f h]; rfl
theorem c_fillL (F k : Nat) : ∀ (n i : Nat) (σ : xSt), i ≤ 60 → 61 ≤ i + n → xOk (mJ7_fill_53178_L5 F k n 0 (nI i) (nI 60) σ) (fun σ' => xFr [] [30 + k] σ σ' ∧ ∀ j, j < 60 → xA σ' (30 + k) j = if i ≤ j then 0 else xA σ (30 + k) j) := by
  intro n
  induction n with
  | zero => intro i σ h1 h2; omega
  | succ n ih =>
    intro i σ h1 h2
    show xOk (mJ7_fill_53178_S5 F k (mJ7_fill_53178_L5 F k n) 0 (nI i) (nI 60) σ) _
    unfold mJ7_fill_53178_S5
    by_cases h : i = 60
    · subst h
      refine xOk_t (nI_le (by omega) (by omega)) ?_
      exact xOk_ret ⟨xFr_rf, fun j hj => by rw [if_neg (by omega)]⟩
    · refine xOk_f (nI_ge (by omega) (by omega)) ?_
      refine xOk_ck (xin_nI (by omega) (by omega)) ?_
      rw [nI_1, nI_clamp (by omega)]
      refine xOk_mono (ih (i + 1) _ (by omega) (by omega)) (fun σ' h => ⟨xFr_tr (xFr_sA (by simp)) h.1, fun j hj => ?_⟩)
      rw [h.2 j hj, xA_s1, upd_e]
      by_cases q : j = i
      · subst q; rw [if_neg (by omega), if_pos rfl, if_pos (by omega)]
      · by_cases q2 : i ≤ j
        · rw [if_pos (by omega), if_pos q2]
        · rw [if_neg (by omega), if_neg q, if_neg q2]
theorem c_renew (F k : Nat) (hF : 100 ≤ F) (f n : Int32) (σ : xSt) : xOk (mX5_renew F k f n σ) (fun σ' => xFr [20 + k, 24 + k] [30 + k] σ σ' ∧ xI σ' (20 + k) = f ∧ xI σ' (24 + k) = n ∧ ∀ j, j < 60 → xA σ' (30 + k) j = 0) := by
  unfold mX5_renew mJ7_fill_53178
  refine xOk_b1 (xOk_mono (c_fillL F k F 0 _ (by omega) (by omega)) (fun σ' h => xOk_ret ⟨?_, ?_, ?_, ?_⟩))
  · exact xFr_tr (xFr_tr (xFr_sI (by simp)) (xFr_sI (by simp))) (xFr_mono h.1 (by simp) (by simp))
  · rw [h.1.1 _ (by simp), xI_sI, if_neg (by omega), xI_sI, if_pos rfl]
  · rw [h.1.1 _ (by simp), xI_sI, if_pos rfl]
  · intro j hj
    rw [h.2 j hj, if_pos (by omega)]
theorem m_sheetL (F k : Nat) (hk : k < 4) (v : Int32) : ∀ (n i : Nat) (σ : xSt), i ≤ 60 → 61 ≤ i + n → xOk (mX9_sheet_L59 F n (nI k) v (nI i) σ) (fun q => q.1 = v ∧ xFr [] [35] σ q.2 ∧ ∀ j, xA q.2 35 j = if 60 * k + i ≤ j ∧ j < 60 * k + 60 then 0 else xA σ 35 j) := by
  intro n
  induction n with
  | zero => intro i σ h1 h2; omega
  | succ n ih =>
    intro i σ h1 h2
    show xOk (mX9_sheet_S59 F (mX9_sheet_L59 F n) (nI k) v (nI i) σ) _
    unfold mX9_sheet_S59
    by_cases h : i = 60
    · subst h
      refine xOk_t (show nI 60 ≤ nI 60 from nI_le (by omega) (by omega)) ?_
      exact xOk_ret ⟨rfl, xFr_rf, fun j => by rw [if_neg (by omega)]⟩
    · refine xOk_f (show ¬ nI 60 ≤ nI i from nI_ge (by omega) (by omega)) ?_
      have e : (60 : Int32) * nI k + nI i = nI (60 * k + i) := by show nI 60 * nI k + nI i = _; rw [pk_mul, nI_add]
      rw [e]
      refine xOk_ck (xin_nI (by omega) (by omega)) ?_
      rw [nI_1, nI_clamp (by omega)]
      refine xOk_mono (ih (i + 1) _ (by omega) (by omega)) (fun q h => ⟨h.1, xFr_tr (xFr_sA (by simp)) h.2.1, fun j => ?_⟩)
      rw [h.2.2 j, xA_s1, upd_e]
      by_cases q : j = 60 * k + i
      · subst q; rw [if_neg (by omega), if_pos rfl, if_pos (by omega)]
      · by_cases q2 : 60 * k + i ≤ j ∧ j < 60 * k + 60
        · rw [if_pos (by omega), if_pos q2]
        · rw [if_neg (by omega), if_neg q, if_neg q2]
theorem p_sheet (F : Nat) (hF : 5000 ≤ F) : zP_sheet F Rel := by
  intro σc σm hR s f n
  unfold mX8_sheet mX9_sheet mX8_sheet_L20 mX9_sheet_L22
  by_cases h1 : 0 ≤ s ∧ s ≤ 3
  · by_cases h2 : 0 ≤ f ∧ f ≤ 2
    · by_cases h3 : n ≤ 60
      · by_cases h4 : 0 ≤ n
        · simp only [c_noSheet, m_isSheet, c_noForm, m_in, bI_nf h1, bI_t h1, bI_nf h2, bI_t h2, h3, h4, xb1_s, xb2_s, xck_1, i10, i00, i11, ↓reduceIte]
          obtain ⟨k, hk, rfl⟩ := rngI (n := 3) (by decide) (by decide) h1
          obtain ⟨f', hf', rfl⟩ := rngI (n := 2) (by decide) (by decide) h2
          obtain ⟨n', hn', rfl⟩ := rngI (n := 60) (by decide) (by decide) ⟨h4, h3⟩
          have e1 := xin_nI (n := k) (N := 4) (by omega) (by omega)
          simp only [e1, show xbit 1 = true from rfl, nI_clamp (show k < 2 ^ 31 by omega), xb1_s, xb2_s, xck_1, i10, i00, i11, ↓reduceIte]
          obtain ⟨σ1, q1, a1, a2, a3, a4⟩ := c_renew F k (by omega) (nI f') (nI n') σc
          obtain ⟨⟨r2, σ2⟩, q2, b1, b2, b3⟩ := m_sheetL F k (by omega) (nI n') F 0 (xsA (xsA (xsA σm 32 k 1) 33 k (nI f')) 34 k (nI n')) (by omega) (by omega)
          dsimp only at b1 b2 b3
          subst b1
          refine ⟨nI n', σ1, σ2, by rw [q1]; rfl, q2, ?_⟩
          have m32 : xA σ2 32 = upd (xA σm 32) k 1 := by rw [b2.2 32 (by decide), xA_s0 (by decide), xA_s0 (by decide), xA_s1]
          have m33 : xA σ2 33 = upd (xA σm 33) k (nI f') := by rw [b2.2 33 (by decide), xA_s0 (by decide), xA_s1, xA_s0 (by decide)]
          have m34 : xA σ2 34 = upd (xA σm 34) k (nI n') := by rw [b2.2 34 (by decide), xA_s1, xA_s0 (by decide), xA_s0 (by decide)]
          refine Rel_sh hR (xFr_mono a1 (by simp; omega) (by simp; omega)) (xFr_tr (xFr_tr (xFr_tr (xFr_sA (by decide)) (xFr_sA (by decide))) (xFr_sA (by decide))) (xFr_mono b2 (by simp) (by simp))) (fun j hj => ?_)
          by_cases hjk : j = k
          · subst hjk
            refine Or.inr ⟨n', f', by omega, by omega, a3, a2, by rw [m32, upd_1], by rw [m33, upd_1], by rw [m34, upd_1], fun i hi => ?_⟩
            rw [a4 i hi, b3, if_pos (by omega)]
          · refine RSh_fr (hR.2.2.2.2.2.1 j hj) (a1.1 _ (by simp; omega)) (a1.1 _ (by simp; omega)) (a1.2 _ (by simp; omega)) (by rw [m32, upd_0 hjk]) (by rw [m33, upd_0 hjk]) (by rw [m34, upd_0 hjk]) (fun i hi => ?_)
            rw [b3, if_neg (by omega), xA_s0 (by decide), xA_s0 (by decide), xA_s0 (by decide)]
        · simp only [c_noSheet, m_isSheet, c_noForm, m_in, bI_nf h1, bI_t h1, bI_nf h2, bI_t h2, h3, h4, xb1_s, xb2_s, xck_1, i10, i00, i11, ↓reduceIte]
          exact ⟨_, _, _, rfl, rfl, Rel_fd hR 5⟩
      · simp only [c_noSheet, m_isSheet, c_noForm, m_in, bI_nf h1, bI_t h1, bI_nf h2, bI_t h2, h3, xb1_s, xb2_s, xck_1, i10, i00, i11, ↓reduceIte]
        exact ⟨_, _, _, rfl, rfl, hR⟩
    · simp only [c_noSheet, m_isSheet, c_noForm, m_in, bI_nf h1, bI_t h1, bI_nt h2, bI_f h2, xb1_s, xb2_s, xck_1, i10, i00, i11, ↓reduceIte]
      exact ⟨_, _, _, rfl, rfl, hR⟩
  · simp only [c_noSheet, m_isSheet, bI_nt h1, bI_f h1, xb1_s, xb2_s, xck_1, i10, i00, i11, ↓reduceIte]
    exact ⟨_, _, _, rfl, rfl, hR⟩
/-- how a sheet stands, in both -/
theorem RSh_cases {σc σm : xSt} {k : Nat} (h : RSh σc σm k) : (xI σc (24 + k) = -1 ∧ xA σm 32 k = 0) ∨ (¬ xI σc (24 + k) = -1 ∧ ¬ xA σm 32 k = 0 ∧ ∃ n f, n ≤ 60 ∧ f < 3 ∧ xI σc (24 + k) = nI n ∧ xI σc (20 + k) = nI f ∧ xA σm 32 k = 1 ∧ xA σm 33 k = nI f ∧ xA σm 34 k = nI n ∧ ∀ i, i < 60 → xA σc (30 + k) i = xA σm 35 (60 * k + i)) := by
  rcases h with h | ⟨n, f, a1, a2, a3, a4, a5, a6⟩
  · exact Or.inl h
  · refine Or.inr ⟨?_, by rw [a5]; decide, n, f, a1, a2, a3, a4, a5, a6⟩
    rw [a3]
    intro q
    have h1 := nI_toInt (n := n) (by omega)
    rw [q] at h1
    have : (-1 : Int32).toInt = -1 := by decide
    omega
theorem p_lose (F : Nat) (hF : 5000 ≤ F) : zP_lose F Rel := by
  intro σc σm hR s
  unfold mX8_lose mX9_lose
  by_cases h1 : 0 ≤ s ∧ s ≤ 3
  · simp only [c_noSheet, m_isSheet, bI_nf h1, bI_t h1, xb1_s, xb2_s, xck_1, i10, i00, i11, ↓reduceIte]
    obtain ⟨k, hk, rfl⟩ := rngI (n := 3) (by decide) (by decide) h1
    have e1 := xin_nI (n := k) (N := 4) (by omega) (by omega)
    simp only [e1, show xbit 0 = true from rfl, nI_clamp (show k < 2 ^ 31 by omega), c_isLost, m_meets, c_finding, xb1_s, xb2_s, xck_1, i10, i00, i11, ↓reduceIte]
    rcases RSh_cases (hR.2.2.2.2.2.1 k (by omega)) with ⟨q1, q2⟩ | ⟨q1, q2, n, f, a1, a2, a3, a4, a5, a6, a7, a8⟩
    · simp only [bI_t q1, q2, xb1_s, xb2_s, xck_1, i10, i00, i11, ↓reduceIte]
      exact ⟨_, _, _, rfl, rfl, Rel_fd hR 1⟩
    · simp only [bI_f q1, q2, xb1_s, xb2_s, xck_1, i10, i00, i11, ↓reduceIte]
      refine ⟨nI n, xsI σc (24 + k) (-1), xsA σm 32 k 0, ?_, ?_, ?_⟩
      · rw [a3]; rfl
      · rw [xA_s0 (by decide), a7]
      · refine Rel_sh hR (xFr_sI (by simp; omega)) (xFr_sA (by decide)) (fun j hj => ?_)
        by_cases hjk : j = k
        · subst hjk
          exact Or.inl ⟨by rw [xI_sI, if_pos rfl], by rw [xA_s1, upd_1]⟩
        · exact RSh_fr (hR.2.2.2.2.2.1 j hj) (by rw [xI_sI, if_neg (by omega)]) (by rw [xI_sI, if_neg (by omega)]) rfl (by rw [xA_s1, upd_0 hjk]) (by rw [xA_s0 (by decide)]) (by rw [xA_s0 (by decide)]) (fun i _ => by rw [xA_s0 (by decide)])
  · simp only [c_noSheet, m_isSheet, bI_nt h1, bI_f h1, xb1_s, xb2_s, xck_1, i10, i00, i11, ↓reduceIte]
    exact ⟨_, _, _, rfl, rfl, hR⟩
