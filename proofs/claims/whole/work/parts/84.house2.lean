def RH (σc σm : xSt) (H : Hs) : Prop := HB H ∧ CH σc H ∧ MH σm H
theorem CH_of {σ : xSt} {n0 n1 : Nat} {B0 B1 : Nat → Nat} (h0 : CText σ 0 n0 B0) (h1 : CText σ 1 n1 B1) : CH σ (mkH n0 B0 n1 B1) :=
  ⟨h0.2.2.2.1, h0.2.2.2.2, h1.2.2.2.1, h1.2.2.2.2⟩
theorem MH_of {σ : xSt} {n0 n1 : Nat} {B0 B1 : Nat → Nat} (hn : n1 ≤ 31) (h0 : MEnt σ 0 n0 B0) (h1 : MEnt σ 1 n1 B1) : MH σ (mkH n0 B0 n1 B1) := by
  refine ⟨h0.1, fun e he => ?_, h1.1, fun p hp => ?_⟩
  · obtain ⟨a, b, c⟩ := h0.2 e he
    refine ⟨a, b, ?_⟩
    show xA σ 5 e = nI (pThird 0 B0 n0 e)
    rw [show xA σ 5 e = mThird 0 (B0 (4 * e + 2)) from c]
    unfold mThird pThird
    rw [if_pos rfl, if_pos rfl]
    by_cases q : B0 (4 * e + 2) = 117
    · rw [if_pos q, if_pos q]; rfl
    · rw [if_neg q, if_neg q]; rfl
  · obtain ⟨a, b, c⟩ := h1.2 p hp
    refine ⟨a, b, ?_⟩
    have c' : xA σ 9 p = mThird 1 (B1 (4 * p + 2)) := c
    rw [c']
    show (if 0 ≤ mThird 1 (B1 (4 * p + 2)) ∧ mThird 1 (B1 (4 * p + 2)) ≤ nI (pEnt 1 B1 n1) - 1 then mThird 1 (B1 (4 * p + 2)) else nI p) = nI (pThird 1 B1 n1 p)
    have l1 := @pEnt_le 1 n1 B1
    rw [m_soap _ p _ (by omega) (pOK_2 (pEnt_at hp).2.2)]
    unfold pThird
    rw [if_neg (show ¬ (1 = 0) by decide)]
theorem m_faultOf (F k : Nat) (hF : 100 ≤ F) (hk : k < 2) (n0 n1 : Nat) (B0 B1 : Nat → Nat) (σ : xSt) (hn0 : n0 ≤ 23) (hn1 : n1 ≤ 31) (hB0 : ∀ j, j < n0 → B0 j < 256) (hB1 : ∀ j, j < n1 → B1 j < 256) (h0 : MText σ 0 n0 B0) (h1 : MText σ 1 n1 B1) :
    ∃ σ', mX9_faultOf F (nI k) σ = some (if k = 0 then optI (pFault 0 B0 n0) else optI (pFault 1 B1 n1), σ') ∧ MEnt σ' 0 n0 B0 ∧ MEnt σ' 1 n1 B1 ∧ xFr [2, 6] [3, 4, 5, 7, 8, 9] σ σ' := by
  obtain ⟨σ1, a1, a2, a3⟩ := m_readsText F 0 n0 hF B0 σ (by omega) hn0 hB0 h0
  have h1' : MText σ1 1 n1 B1 := MText_A h1 a3 (by decide) (by decide)
  obtain ⟨σ2, b1, b2, b3⟩ := m_readsText F 1 n1 hF B1 σ1 (by omega) hn1 hB1 h1'
  have a2' : MEnt σ2 0 n0 B0 := by
    unfold MEnt
    rw [b3.1 (2 + 4 * 0) (by decide), b3.2 (3 + 4 * 0) (by decide), b3.2 (4 + 4 * 0) (by decide), b3.2 (5 + 4 * 0) (by decide)]
    exact a2
  refine ⟨σ2, ?_, a2', b2, xFr_tr (xFr_mono a3 (by simp) (by simp)) (xFr_mono b3 (by simp) (by simp))⟩
  unfold mX9_faultOf mX9_faultOf_L21
  rw [show (0 : Int32) = nI 0 from rfl, a1, xb2_s, show (1 : Int32) = nI 1 from rfl, b1, xb2_s]
  rcases (show k = 0 ∨ k = 1 by omega) with rfl | rfl <;> rfl
/-- what a reading leaves -/
theorem Rd_of {σc σm : xSt} (h : Rel σc σm) : ∃ H, HB H ∧ CH σc H ∧ ∀ (F : Nat), 100 ≤ F → ∃ σm', mX9_reads F σm = some σm' ∧ MH σm' H ∧ Rel σc σm' ∧ xFr [2, 6] [3, 4, 5, 7, 8, 9] σm σm' := by
  obtain ⟨n0, B0, c0, m0⟩ := h.1
  obtain ⟨n1, B1, c1, m1⟩ := h.2.1
  refine ⟨mkH n0 B0 n1 B1, mkH_B c0.1 c1.1, CH_of c0 c1, fun F hF => ?_⟩
  obtain ⟨σ', a, b, c, d⟩ := m_faultOf F 0 hF (by omega) n0 n1 B0 B1 σm c0.1 c1.1 (fun j hj => (c0.2.2.1 j hj).1) (fun j hj => (c1.2.2.1 j hj).1) m0 m1
  refine ⟨σ', ?_, MH_of c1.1 b c, Rel_fr h xFr_rf (xFr_mono d (by decide) (by decide)), d⟩
  unfold mX9_reads
  rw [show (0 : Int32) = nI 0 from rfl, a, xb2_s]
theorem p_fault (F : Nat) (hF : 5000 ≤ F) : zP_fault F Rel := by
  intro σc σm hR t
  unfold mX8_fault mX9_fault mX8_fault_L20 mX9_fault_L17
  by_cases h1 : 0 ≤ t ∧ t ≤ 1
  · obtain ⟨k, hk, rfl⟩ := rngI (n := 1) (by decide) (by decide) h1
    obtain ⟨n0, B0, c0, m0⟩ := hR.1
    obtain ⟨n1, B1, c1, m1⟩ := hR.2.1
    obtain ⟨σ', a, b, c, d⟩ := m_faultOf F k (by omega) (by omega) n0 n1 B0 B1 σm c0.1 c1.1 (fun j hj => (c0.2.2.1 j hj).1) (fun j hj => (c1.2.2.1 j hj).1) m0 m1
    simp only [c_noText, m_isText, bI_nf h1, bI_t h1, c_textOf F k (by omega), show decide (k < 2) = true from decide_eq_true (by omega), a, xb1_s, xb2_s, xck_1, i10, i00, i11, ↓reduceIte]
    have hR' : Rel σc σ' := Rel_fr hR xFr_rf (xFr_mono d (by decide) (by decide))
    rcases (show k = 0 ∨ k = 1 by omega) with rfl | rfl
    · rw [c_faultPlace F 0 n0 (by omega) (by omega) c0.1 B0 σc c0.2.1 c0.2.2.1, xb2_s, if_pos rfl]
      exact ⟨_, _, _, rfl, rfl, hR'⟩
    · rw [c_faultPlace F 1 n1 (by omega) (by omega) c1.1 B1 σc c1.2.1 c1.2.2.1, xb2_s, if_neg (by decide)]
      exact ⟨_, _, _, rfl, rfl, hR'⟩
  · simp only [c_noText, m_isText, bI_nt h1, bI_f h1, xb1_s, xb2_s, xck_1, i10, i00, i11, ↓reduceIte]
    exact ⟨_, _, _, rfl, rfl, hR⟩
/-- v stands below n -/
theorem lt_of_nI {v : Int32} {n : Nat} (hn : n < 2 ^ 31) (h0 : ¬ v < 0) (h : v < nI n) : ∃ j, j < n ∧ v = nI j := by
  rcases (show n = 0 ∨ 0 < n by omega) with rfl | hp
  · exact absurd h h0
  · have hv : v ≤ nI (n - 1) := by
      apply Int32.le_iff_toInt_le.mpr
      have := Int32.lt_iff_toInt_lt.mp h
      rw [nI_toInt (by omega)] at this ⊢
      omega
    obtain ⟨j, a, b⟩ := rngI (n := n - 1) (lo := 0) (by decide) (nI_toInt (by omega)) ⟨Int32.not_lt.mp h0, hv⟩
    exact ⟨j, by omega, b⟩
theorem in_n1 {v : Int32} {n : Nat} (hn : n < 2 ^ 31) : (0 ≤ v ∧ v ≤ nI n - 1) = (¬ v < 0 ∧ v < nI n) := propext (by
  rcases (show n = 0 ∨ 0 < n by omega) with rfl | hp
  · constructor
    · rintro ⟨a, b⟩; exact absurd (Int32.le_trans a b) (by decide)
    · rintro ⟨a, b⟩; exact absurd b a
  · rw [show nI n - 1 = nI (n - 1) from pk_sub (b := 1) (by omega), Int32.not_lt, Int32.le_iff_toInt_le (y := nI (n - 1)), Int32.lt_iff_toInt_lt, nI_toInt (by omega), nI_toInt (by omega)]
    constructor
    · rintro ⟨a, b⟩; exact ⟨a, by omega⟩
    · rintro ⟨a, b⟩; exact ⟨a, by omega⟩)
theorem m_isThing {σ σ' : xSt} {H : Hs} (F : Nat) (v : Int32) (hr : mX9_reads F σ = some σ') (h : MH σ' H) (hb : HB H) : mX9_isThing F v σ = some (bI (¬ v < 0 ∧ v < nI (hT H)), σ') := by
  unfold mX9_isThing
  have hb1 := hb.1
  rw [hr, xb1_s, m_in, xb2_s, xck_bI, h.1]
  simp only [in_n1 (show hT H < 2 ^ 31 by omega)]
theorem m_isPerson {σ σ' : xSt} {H : Hs} (F : Nat) (v : Int32) (hr : mX9_reads F σ = some σ') (h : MH σ' H) (hb : HB H) : mX9_isPerson F v σ = some (bI (¬ v < 0 ∧ v < nI (hP H)), σ') := by
  unfold mX9_isPerson
  have hb1 := hb.2.1
  rw [hr, xb1_s, m_in, xb2_s, xck_bI, h.2.2.1]
  simp only [in_n1 (show hP H < 2 ^ 31 by omega)]
theorem m_smellOf {σ : xSt} {H : Hs} (F p : Nat) (h : MH σ H) (hb : HB H) (hp : p < hP H) : mX9_smellOf F (nI p) σ = some (nI (hM H p), σ) := by
  have hb1 := hb.2.1
  unfold mX9_smellOf mX9_smellOf_L29
  obtain ⟨_, _, c⟩ := h.2.2.2 p hp
  simp only [xin_nI (show p < 9 by omega) (by omega), nI_clamp (show p < 2 ^ 31 by omega), m_in, h.2.2.1, xb1_s, xb2_s, xck_1, i10, i00, i11, ↓reduceIte]
  by_cases q : 0 ≤ xA σ 9 p ∧ xA σ 9 p ≤ nI (hP H) - 1
  · rw [if_pos q] at c
    rw [bI_t q, if_neg (by decide), c]
  · rw [if_neg q] at c
    rw [bI_f q, if_pos rfl, c]
theorem p_thing (F : Nat) (hF : 5000 ≤ F) : zP_thing F Rel := by
  intro σc σm hR t w
  obtain ⟨H, hB, hC, hrd⟩ := Rd_of hR
  obtain ⟨σ', a, b, c, d⟩ := hrd F (by omega)
  have hb1 := hB.1
  unfold mX8_thing mX9_thing mX6_part mX6_part_L12 mX9_thing_L53 mX9_thing_L55
  rw [m_isThing F t a b hB, xb2_s]
  by_cases h1 : t < 0
  · simp only [h1, not_true_eq_false, false_and, bI_f (show ¬ False from id), xb1_s, xb2_s, xck_1, i10, i00, i11, ↓reduceIte]
    exact ⟨_, _, _, rfl, rfl, c⟩
  · by_cases h2 : t < nI (hT H)
    · obtain ⟨e, he, rfl⟩ := lt_of_nI (by omega) h1 h2
      obtain ⟨k1, k2, k3⟩ := hC.2.1 e he
      obtain ⟨l1, l2, l3⟩ := b.2.1 e he
      have h12 : xI σc (12 + 0) = nI (hT H) := hC.1
      simp only [h1, h2, h12, not_false_eq_true, and_self, bI_t (show True from trivial), m_in, xin_nI (show e < lnE 0 by show e < 6; omega) (by decide), xin_nI (show e < 7 by omega) (by decide), nI_clamp (show e < 2 ^ 31 by omega), k1, k2, k3, l1, l2, l3, xb1_s, xb2_s, xck_1, i10, i00, i11, ↓reduceIte]
      by_cases w0 : w = 0
      · subst w0
        rw [if_pos rfl, bI_t (by decide), if_neg (by decide), if_pos rfl, xb2_s]
        exact ⟨_, _, _, rfl, rfl, c⟩
      · by_cases w1 : w = 1
        · subst w1
          rw [if_neg w0, if_pos rfl, bI_t (by decide), if_neg (by decide), if_neg w0, if_pos rfl, xb2_s]
          exact ⟨_, _, _, rfl, rfl, c⟩
        · by_cases w2 : w = 2
          · subst w2
            rw [if_neg w0, if_neg w1, if_pos rfl, bI_t (by decide), if_neg (by decide), if_neg w0, if_neg w1, xb2_s]
            exact ⟨_, _, _, rfl, rfl, c⟩
          · rw [if_neg w0, if_neg w1, if_neg w2, bI_f (fun q => by
              obtain ⟨j, hj, rfl⟩ := rngI (n := 2) (by decide) (by decide) q
              rcases (show j = 0 ∨ j = 1 ∨ j = 2 by omega) with rfl | rfl | rfl
              · exact w0 rfl
              · exact w1 rfl
              · exact w2 rfl), if_pos rfl, xb2_s]
            exact ⟨_, _, _, rfl, rfl, c⟩
    · have h12 : xI σc (12 + 0) = nI (hT H) := hC.1
      simp only [h1, h2, h12, and_false, bI_f (show ¬ False from id), xb1_s, xb2_s, xck_1, i10, i00, i11, ↓reduceIte]
      exact ⟨_, _, _, rfl, rfl, c⟩
theorem p_person (F : Nat) (hF : 5000 ≤ F) : zP_person F Rel := by
  intro σc σm hR t w
  obtain ⟨H, hB, hC, hrd⟩ := Rd_of hR
  obtain ⟨σ', a, b, c, d⟩ := hrd F (by omega)
  have hb1 := hB.2.1
  unfold mX8_person mX9_person mX6_part mX6_part_L12 mX9_person_L26 mX9_person_L28
  rw [m_isPerson F t a b hB, xb2_s]
  by_cases h1 : t < 0
  · simp only [h1, not_true_eq_false, false_and, bI_f (show ¬ False from id), xb1_s, xb2_s, xck_1, i10, i00, i11, ↓reduceIte]
    exact ⟨_, _, _, rfl, rfl, c⟩
  · by_cases h2 : t < nI (hP H)
    · obtain ⟨e, he, rfl⟩ := lt_of_nI (by omega) h1 h2
      obtain ⟨k1, k2, k3⟩ := hC.2.2.2 e he
      obtain ⟨l1, l2, l3⟩ := b.2.2.2 e he
      have h12 : xI σc (12 + 1) = nI (hP H) := hC.2.2.1
      unfold mX9_personOf mX9_personOf_L32
      simp only [h1, h2, h12, not_false_eq_true, and_self, bI_t (show True from trivial), m_in, xin_nI (show e < lnE 1 by show e < 8; omega) (by decide), xin_nI (show e < 9 by omega) (by decide), nI_clamp (show e < 2 ^ 31 by omega), show xA σc (8 + 1) e = nI (hS H e) from k1, show xA σc (10 + 1) e = nI (hQ H e) from k2, show xA σc (12 + 1) e = nI (hM H e) from k3, l1, l2, m_smellOf F e b hB he, xb1_s, xb2_s, xck_1, i10, i00, i11, ↓reduceIte]
      by_cases w0 : w = 0
      · subst w0
        rw [if_pos rfl, bI_t (by decide), if_neg (by decide), if_pos rfl, xb2_s, xb2_s]
        exact ⟨_, _, _, rfl, rfl, c⟩
      · by_cases w1 : w = 1
        · subst w1
          rw [if_neg w0, if_pos rfl, bI_t (by decide), if_neg (by decide), if_neg w0, if_pos rfl, xb2_s, xb2_s]
          exact ⟨_, _, _, rfl, rfl, c⟩
        · by_cases w2 : w = 2
          · subst w2
            rw [if_neg w0, if_neg w1, if_pos rfl, bI_t (by decide), if_neg (by decide), if_neg w0, if_neg w1, xb2_s, xb2_s]
            exact ⟨_, _, _, rfl, rfl, c⟩
          · rw [if_neg w0, if_neg w1, if_neg w2, bI_f (fun q => by
              obtain ⟨j, hj, rfl⟩ := rngI (n := 2) (by decide) (by decide) q
              rcases (show j = 0 ∨ j = 1 ∨ j = 2 by omega) with rfl | rfl | rfl
              · exact w0 rfl
              · exact w1 rfl
              · exact w2 rfl), if_pos rfl, xb2_s]
            exact ⟨_, _, _, rfl, rfl, c⟩
    · have h12 : xI σc (12 + 1) = nI (hP H) := hC.2.2.1
      simp only [h1, h2, h12, and_false, bI_f (show ¬ False from id), xb1_s, xb2_s, xck_1, i10, i00, i11, ↓reduceIte]
      exact ⟨_, _, _, rfl, rfl, c⟩
