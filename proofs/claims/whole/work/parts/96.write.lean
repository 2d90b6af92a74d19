theorem Rel_T {σc σm : xSt} {H : Hs} {D : Dy} {T : Nat} (hH : Hse σc σm H D) (hT6 : T ≤ 6) (h : xI σc 12 = nI T) : hT H = T := by
  have h1 := hH.2.1.1
  have hb := hH.1.1
  rw [h] at h1
  exact ((nI_eq (by omega) (by omega)).mp h1).symm
theorem cm_writeL (F t T k n g : Nat) (hF : 5000 ≤ F) (hk : k < 4) (hn : n ≤ 60) (hg : g < 3) (hT6 : T ≤ 6) (ht : t < T) : ∀ (fu i : Nat) (σc σm : xSt), i ≤ min n 24 → min n 24 < i + fu → Rel σc σm → xI σc 12 = nI T → xI σc (24 + k) = nI n → xI σc (20 + k) = nI g → xA σm 33 k = nI g → xA σm 34 k = nI n →
    ∃ r σc' σm', mX8_write_L55 F fu (nI t) k (nI (min n 24)) (nI i) σc = some (r, σc') ∧ mX9_write_L35 F fu (nI t) (nI k) (nI i) σm = some (r, σm') ∧ Rel σc' σm' := by
  intro fu
  induction fu with
  | zero => intro i σc σm a b; omega
  | succ fu ih =>
    intro i σc σm a b hR h12 h24 h20 h33 h34
    show ∃ r σc' σm', mX8_write_S55 F (mX8_write_L55 F fu) (nI t) k (nI (min n 24)) (nI i) σc = some (r, σc') ∧ mX9_write_S35 F (mX9_write_L35 F fu) (nI t) (nI k) (nI i) σm = some (r, σm') ∧ Rel σc' σm'
    unfold mX8_write_S55 mX8_write_L85 mX9_write_S35 mX9_write_L69
    rw [xck_t (decide_eq_true hk), xck_in hk (by omega), nI_clamp (by omega), h34]
    by_cases q : i = min n 24
    · rw [if_pos (by rw [q]; exact nI_le (Nat.le_refl _) (by omega))]
      refine ⟨_, _, _, rfl, ?_, hR⟩
      rw [← q]
      by_cases q2 : n ≤ i
      · rw [if_pos (nI_le q2 (by omega))]
      · rw [if_neg (nI_ge (by omega) (by omega)), if_pos (show (24 : Int32) ≤ nI i from nI_le (a := 24) (by omega) (by omega))]
    · obtain ⟨H, D, hH⟩ := Hse_of hR
      have eT := Rel_T hH hT6 h12
      have hB := hH.1
      rw [if_neg (nI_ge (by omega) (by omega)), if_neg (nI_ge (by omega) (by omega)), if_neg (show ¬ ((24 : Int32) ≤ nI i) from nI_ge (b := 24) (by omega) (by omega))]
      obtain ⟨σc1, b1, b2, b3⟩ := c_tells0 F t i (by omega) (by omega) (by omega) hH
      obtain ⟨σ2, c1, c2, c3, c4⟩ := m_runsTold F i (by omega) (by omega) hH
      unfold mX9_tellsOf mX9_tellsOf_L22
      rw [b1, xb2_s, c1, xb1_s, if_neg (not_m1 (by omega)), m_tellsNow F t H (by omega) hB (by omega) _ σ2 c3 (c4 t (by omega)).1, xb2_s, xb2_s]
      have k24 : xI σc1 (24 + k) = nI n := by rw [b2.1 _ (by simp <;> omega)]; exact h24
      have k20 : xI σc1 (20 + k) = nI g := by rw [b2.1 _ (by simp <;> omega)]; exact h20
      have k33 : xA σ2 33 k = nI g := by rw [c2.2 33 (by decide)]; exact h33
      have k34 : xA σ2 34 k = nI n := by rw [c2.2 34 (by decide)]; exact h34
      rw [c_store F k n g i _ σc1 hn (by omega) hg k24 k20, xb1_s, m_keep F k g i _ σ2 hk (by omega) hg k33, xb1_s, nI_1]
      have hR1 : Rel σc1 σ2 := Rel_cm hR b2 c2
      have hR2 := Rel_item hR1 hk (show i < 60 by omega) (sVal g (toldL (hN H t) (dayL H D t (i + 1)))) (by rw [k24]; exact not_m1 (by omega))
      refine ih (i + 1) _ _ (by omega) (by omega) hR2 ?_ k24 k20 ?_ ?_
      · show xI σc1 12 = _; rw [b2.1 _ (by decide)]; exact h12
      · rw [xA_s0 (by decide)]; exact k33
      · rw [xA_s0 (by decide)]; exact k34
theorem p_write (F : Nat) (hF : 5000 ≤ F) : zP_write F Rel := by
  intro σc σm hR t s
  obtain ⟨H, D, hH⟩ := Hse_of hR
  have hB := hH.1
  have hb1 := hB.1
  unfold mX8_write mX9_write mX8_write_L18 mX9_write_L15
  obtain ⟨σ1, a1, a2⟩ := m_isThing' F t (by omega) hB hH.2.2.2.1
  have hR1 : Rel σc σ1 := Rel_cm hR xFr_rf a2
  simp only [a1, c_lacksThing F t σc H hH.2.1, xb1_s, xb2_s, xck_1, i10, i00, i11, ↓reduceIte]
  by_cases h2 : ¬ t < 0 ∧ t < nI (hT H)
  · obtain ⟨tt, ht, rfl⟩ := lt_of_nI (by omega) h2.1 h2.2
    simp only [bI_nf h2, bI_t h2, c_noSheet, m_isSheet, xb1_s, xb2_s, xck_1, i10, i00, i11, ↓reduceIte]
    by_cases h3 : 0 ≤ s ∧ s ≤ 3
    · obtain ⟨k, hk, rfl⟩ := rngI (n := 3) (by decide) (by decide) h3
      simp only [bI_nf h3, bI_t h3, xin_nI (show k < 4 by omega) (by omega), nI_clamp (show k < 2 ^ 31 by omega), c_isLost, xb1_s, xb2_s, xck_1, i10, i00, i11, ↓reduceIte]
      rcases RSh_cases (hR1.2.2.2.2.2.1 k (by omega)) with ⟨l1, l2⟩ | ⟨l1, l2, n, g, n1, g1, l3, l4, l5, l6, l7, l8⟩
      · simp only [bI_t l1, l2, c_finding, m_meets, xb1_s, xb2_s, xck_1, i10, i00, i11, ↓reduceIte]
        exact ⟨_, _, _, rfl, rfl, Rel_fd hR1 1⟩
      · simp only [bI_f l1, l2, xb1_s, xb2_s, xck_1, i10, i00, i11, ↓reduceIte]
        simp only [l3]
        have em : (if (24 : Int32) < nI n then (24 : Int32) else nI n) = nI (min n 24) := by
          by_cases q : 24 < n
          · rw [if_pos (show (24 : Int32) < nI n from nI_lt (a := 24) q (by omega)), Nat.min_eq_right (by omega)]; rfl
          · rw [if_neg (show ¬ ((24 : Int32) < nI n) from (nI_nlt (by omega) (by omega) : ¬ (nI 24 < nI n))), Nat.min_eq_left (by omega)]
        rw [em]
        exact cm_writeL F tt (hT H) k n g hF (by omega) n1 g1 hb1 ht F 0 σc σ1 (by omega) (by omega) hR1 hH.2.1.1 l3 l4 l6 l7
    · simp only [bI_nt h3, bI_f h3, xb1_s, xb2_s, xck_1, i10, i00, i11, ↓reduceIte]
      exact ⟨_, _, _, rfl, rfl, hR1⟩
  · simp only [bI_nt h2, bI_f h2, xb1_s, xb2_s, xck_1, i10, i00, i11, ↓reduceIte]
    exact ⟨_, _, _, rfl, rfl, hR1⟩
/-! counts -/
def sumL (L : Nat → Ly) (n : Nat) : Int32 := (List.range n).foldl (fun b t => b + nI (L t).length) 0
theorem sumL_s {L : Nat → Ly} {n : Nat} : sumL L (n + 1) = sumL L n + nI (L n).length := by
  unfold sumL; rw [List.range_succ, List.foldl_append]; rfl
theorem c_endL {σm : xSt} {H : Hs} {D : Dy} (F : Nat) (hF : 100 ≤ F) : ∀ (fu a : Nat) (σ : xSt), a ≤ hT H → hT H < a + fu → Hse σ σm H D →
    ∃ σ', mX2_layersAtTheEnd_L4 F fu (sumL (fun t => dayL H D t 24) a) (nI a) σ = some (sumL (fun t => dayL H D t 24) (hT H), σ') ∧ xFr [1, 2] [2, 3, 4] σ σ' := by
  intro fu
  induction fu with
  | zero => intro a σ x y; omega
  | succ fu ih =>
    intro a σ x y hH
    have hb1 := hH.1.1
    show ∃ σ', mX2_layersAtTheEnd_S4 F (mX2_layersAtTheEnd_L4 F fu) _ (nI a) σ = _ ∧ _
    unfold mX2_layersAtTheEnd_S4 mX2_layersAtTheEnd_L40
    rw [show xI σ (12 + 0) = nI (hT H) from hH.2.1.1]
    by_cases q : a = hT H
    · rw [if_pos (by rw [q]; exact nI_le (Nat.le_refl _) (by omega)), q]
      exact ⟨σ, rfl, xFr_rf⟩
    · rw [if_neg (nI_ge (by omega) (by omega))]
      obtain ⟨σ1, b1, b2, b3⟩ := c_tells0 F a 23 hF (by omega) (by omega) hH
      have hsz := b3.2.2.2.1.2.1
      rw [revU_len] at hsz
      rw [show (23 : Int32) = nI 23 from rfl, b1, xb2_s, nI_1, hsz]
      obtain ⟨σ', z1, z2⟩ := ih (a + 1) σ1 (by omega) (by omega) (Hse_c hH b2)
      rw [sumL_s] at z1
      exact ⟨σ', z1, xFr_tr b2 z2⟩
theorem m_sumL {H : Hs} {D : Dy} (F : Nat) (v : Int32) (hB : HB H) (σ : xSt) (hM' : MH σ H) (hL : MLs σ H (fun t => dayL H D t 24)) : ∀ (fu a : Nat), a ≤ hT H → hT H < a + fu →
    mX9_sumOf_L10 F fu v (sumL (fun t => dayL H D t 24) a) (nI a) σ = mX9_sumOf_L33 F v (sumL (fun t => dayL H D t 24) (hT H)) σ := by
  have hb1 := hB.1
  intro fu
  induction fu with
  | zero => intro a x y; omega
  | succ fu ih =>
    intro a x y
    show mX9_sumOf_S10 F (mX9_sumOf_L10 F fu) v _ (nI a) σ = _
    unfold mX9_sumOf_S10
    rw [hM'.1]
    by_cases q : a = hT H
    · rw [if_pos (by rw [q]; exact nI_le (Nat.le_refl _) (by omega)), q]
    · rw [if_neg (nI_ge (by omega) (by omega)), xck_in (by omega) (by omega), nI_clamp (by omega), (hL a (by omega)).1.2.1, nI_1, ← ih (a + 1) (by omega) (by omega), sumL_s]
theorem m_sumOf {σc σm : xSt} {H : Hs} {D : Dy} (F : Nat) (v : Int32) (hF : 100 ≤ F) (h : Hse σc σm H D) : ∃ σ', mX9_sumOf F v σm = some (if v = 0 then nI (hT H) else if v = 1 then nI (hP H) else sumL (fun t => dayL H D t 24) (hT H), σ') ∧ xFr mI mA σm σ' := by
  have hb1 := h.1.1
  obtain ⟨σ2, c1, c2, c3, c4⟩ := m_runsTold F 23 hF (by omega) h
  refine ⟨σ2, ?_, c2⟩
  unfold mX9_sumOf
  rw [show (23 : Int32) = nI 23 from rfl, c1, xb1_s]
  rw [show mX9_sumOf_L10 F F v 0 0 σ2 = _ from m_sumL F v h.1 σ2 c3 c4 F 0 (by omega) (by omega)]
  unfold mX9_sumOf_L33 mX9_sumOf_L57
  rw [c3.1, c3.2.2.1]
  by_cases q : v = 0
  · rw [if_pos q, if_pos q]
  · rw [if_neg q, if_neg q]
    by_cases q2 : v = 1
    · rw [if_pos q2, if_pos q2]
    · rw [if_neg q2, if_neg q2]
theorem p_count (F : Nat) (hF : 5000 ≤ F) : zP_count F Rel := by
  intro σc σm hR v
  obtain ⟨H, D, hH⟩ := Hse_of hR
  have hB := hH.1
  have hb1 := hB.1
  unfold mX8_count mX9_count mX9_count_L52 mX9_count_L58
  obtain ⟨σ1, a1, a2⟩ := m_sumOf F v (by omega) hH
  rw [a1, xb2_s]
  have hR1 : Rel σc σ1 := Rel_cm hR xFr_rf a2
  by_cases v0 : v = 0
  · subst v0
    rw [if_pos rfl, if_pos rfl, if_pos rfl]
    exact ⟨_, _, _, by rw [show xI σc (12 + 0) = nI (hT H) from hH.2.1.1], rfl, hR1⟩
  · rw [if_neg v0, if_neg v0, if_neg v0]
    by_cases v1 : v = 1
    · subst v1
      rw [if_pos rfl, if_pos rfl, if_pos rfl]
      exact ⟨_, _, _, by rw [show xI σc (12 + 1) = nI (hP H) from hH.2.1.2.2.1], rfl, hR1⟩
    · rw [if_neg v1, if_neg v1, if_neg v1]
      by_cases v2 : v = 2
      · subst v2
        obtain ⟨n0, B0, c0, m0⟩ := hR.1
        rw [if_pos rfl, if_pos rfl]
        exact ⟨nI n0, σc, σm, by rw [show xI σc (10 + 0) = nI n0 from c0.2.1], by rw [← m0.1]; rfl, hR⟩
      · rw [if_neg v2, if_neg v2]
        by_cases v3 : v = 3
        · subst v3
          obtain ⟨n0, B0, c0, m0⟩ := hR.2.1
          rw [if_pos rfl, if_pos rfl]
          exact ⟨nI n0, σc, σm, by rw [show xI σc (10 + 1) = nI n0 from c0.2.1], by rw [← m0.1]; rfl, hR⟩
        · rw [if_neg v3, if_neg v3]
          by_cases v4 : v = 4
          · subst v4
            rw [if_pos rfl, if_pos rfl]
            exact ⟨nI (D 0 0), σc, σm, by rw [show xI σc (14 + 0) = nI (D 0 0) from hH.2.2.1.2.1.1], by rw [hH.2.2.2.2.1.2.1], hR⟩
          · rw [if_neg v4, if_neg v4]
            by_cases v5 : v = 5
            · subst v5
              rw [if_pos rfl, if_pos rfl]
              obtain ⟨o, ho⟩ := hH.2.2.1.2.2.2.2.1
              exact ⟨nI (D 4 0), σc, σm, by rw [show xI σc (14 + 1) = nI (D 4 0) from ho.1], by rw [hH.2.2.2.2.1.2.2.2.2.1], hR⟩
            · rw [if_neg v5, if_neg v5]
              by_cases v6 : v = 6
              · subst v6
                rw [if_pos rfl, if_pos rfl]
                obtain ⟨n, h, t, o, s1, s2, s3, s4⟩ := hR.2.2.2.2.1
                exact ⟨nI n, σc, σm, by rw [show xI σc (14 + 2) = nI n from s2.1], by rw [s4.1], hR⟩
              · rw [if_neg v6, if_neg v6]
                by_cases v7 : v = 7
                · subst v7
                  rw [if_pos rfl, if_pos rfl]
                  obtain ⟨σc', e1, e2⟩ := c_endL F (by omega) F 0 σc (by omega) (by omega) hH
                  unfold mX2_layersAtTheEnd
                  rw [show mX2_layersAtTheEnd_L4 F F 0 0 σc = _ from e1, xb2_s]
                  exact ⟨_, _, _, rfl, rfl, Rel_cm hR e2 a2⟩
                · rw [if_neg v7, if_neg v7]
                  by_cases v8 : v = 8
                  · subst v8
                    rw [if_pos rfl, if_pos rfl]
                    exact ⟨xI σc 0, σc, σm, rfl, by rw [show xI σc 0 = xI σm 37 from hR.2.2.2.2.2.2], hR⟩
                  · rw [if_neg v8, if_neg v8]
                    exact ⟨_, _, _, rfl, rfl, hR⟩
