/-! ===== both at once ===== -/
def MTx (σ : xSt) (H : Hs) : Prop := ∃ n0 B0 n1 B1, H = mkH n0 B0 n1 B1 ∧ n0 ≤ 23 ∧ n1 ≤ 31 ∧ (∀ j, j < n0 → B0 j < 256) ∧ (∀ j, j < n1 → B1 j < 256) ∧ MText σ 0 n0 B0 ∧ MText σ 1 n1 B1
def MR (σ : xSt) (D : Dy) : Prop := D 0 0 ≤ 20 ∧ xI σ 10 = nI (D 0 0) ∧ (∀ i, i < D 0 0 → xA σ 11 i = nI (D 1 i) ∧ xA σ 13 i = nI (D 2 i) ∧ xA σ 12 i = nI (D 3 i) ∧ D 1 i < 24 ∧ D 2 i < 6 ∧ D 3 i < 8) ∧ D 4 0 ≤ 8 ∧ xI σ 14 = nI (D 4 0) ∧ (∀ i, i < D 4 0 → xA σ 15 i = nI (D 5 i) ∧ xA σ 16 i = nI (D 6 i) ∧ D 5 i < 24 ∧ D 6 i < 6)
def mkD (n : Nat) (h t p : Nat → Nat) (nw : Nat) (hw tw : Nat → Nat) (a : Nat → Nat) (b : Nat) : Dy := fun i e => match i with
  | 0 => n
  | 1 => h e
  | 2 => t e
  | 3 => p e
  | 4 => nw
  | 5 => hw e
  | 6 => tw e
  | 7 => a e
  | _ => b
/-- the house, and the day as told -/
def Hse (σc σm : xSt) (H : Hs) (D : Dy) : Prop := HB H ∧ CH σc H ∧ CD σc D ∧ MTx σm H ∧ MR σm D ∧ (∀ h, D 7 h = 0) ∧ D 8 0 = 0
theorem Hse_of {σc σm : xSt} (h : Rel σc σm) : ∃ H D, Hse σc σm H D := by
  obtain ⟨n0, B0, c0, m0⟩ := h.1
  obtain ⟨n1, B1, c1, m1⟩ := h.2.1
  obtain ⟨n, hs, ts, ps, s1, s2, s3, s4, s5⟩ := h.2.2.1
  obtain ⟨nw, hw, tw, w1, w2, w3, w4, w5⟩ := h.2.2.2.1
  refine ⟨mkH n0 B0 n1 B1, mkD n hs ts ps nw hw tw (fun _ => 0) 0, mkH_B c0.1 c1.1, CH_of c0 c1, ?_, ⟨n0, B0, n1, B1, rfl, c0.1, c1.1, fun j hj => (c0.2.2.1 j hj).1, fun j hj => (c1.2.2.1 j hj).1, m0, m1⟩, ?_, fun _ => rfl, rfl⟩
  · exact ⟨show n ≤ 44 by omega, s2, fun i hi => ⟨by have := (s3 i hi).1; show ts i < 1000; omega, by have := (s3 i hi).2; show ps i < 1000; omega⟩, show nw ≤ 11 by omega, ⟨_, w2⟩, fun i hi => by have := w3 i hi; show tw i < 1000; omega⟩
  · exact ⟨s1, s4, fun i hi => ⟨(s5 i hi).1, (s5 i hi).2.1, (s5 i hi).2.2, (s2.2.1 i hi).1, (s3 i hi).1, (s3 i hi).2⟩, w1, w4, fun i hi => ⟨(w5 i hi).1, (w5 i hi).2, (w2.2.1 i hi).1, w3 i hi⟩⟩
theorem MTx_fr {σ σ' : xSt} {H : Hs} (h : MTx σ H) {I A : List Nat} (f : xFr I A σ σ') (h0 : (0 : Nat) ∉ A) (h1 : (1 : Nat) ∉ A) : MTx σ' H := by
  obtain ⟨n0, B0, n1, B1, a, b, c, d, e, g, k⟩ := h
  exact ⟨n0, B0, n1, B1, a, b, c, d, e, MText_A g f h0 h1, MText_A k f h0 h1⟩
/-- what queries of the model change -/
abbrev mI : List Nat := [2, 6, 20, 21, 22, 23]
abbrev mA : List Nat := [3, 4, 5, 7, 8, 9, 17, 18, 19, 24, 25, 26, 31, 36]
theorem MR_fr {σ σ' : xSt} {D : Dy} (h : MR σ D) (f : xFr mI mA σ σ') : MR σ' D := by
  unfold MR
  rw [f.1 10 (by decide), f.1 14 (by decide), f.2 11 (by decide), f.2 12 (by decide), f.2 13 (by decide), f.2 15 (by decide), f.2 16 (by decide)]
  exact h
theorem Hse_m {σc σm σm' : xSt} {H : Hs} {D : Dy} (h : Hse σc σm H D) (f : xFr mI mA σm σm') : Hse σc σm' H D :=
  ⟨h.1, h.2.1, h.2.2.1, MTx_fr h.2.2.2.1 f (by decide) (by decide), MR_fr h.2.2.2.2.1 f, h.2.2.2.2.2⟩
theorem Hse_c {σc σc' σm : xSt} {H : Hs} {D : Dy} (h : Hse σc σm H D) (f : xFr [1, 2] [2, 3, 4] σc σc') : Hse σc' σm H D :=
  ⟨h.1, CH_l h.2.1 f, CD_l h.2.2.1 f, h.2.2.2⟩
theorem Rel_cm {σc σc' σm σm' : xSt} (h : Rel σc σm) (fc : xFr [1, 2] [2, 3, 4] σc σc') (fm : xFr mI mA σm σm') : Rel σc' σm' := Rel_fr h (xFr_mono fc (by decide) (by decide)) fm
theorem m_reads {σ : xSt} {H : Hs} (F : Nat) (hF : 100 ≤ F) (h : MTx σ H) : ∃ σ', mX9_reads F σ = some σ' ∧ MH σ' H ∧ xFr mI mA σ σ' := by
  obtain ⟨n0, B0, n1, B1, rfl, b, c, d, e, g, k⟩ := h
  obtain ⟨σ', w1, w2, w3, w4⟩ := m_faultOf F 0 hF (by omega) n0 n1 B0 B1 σ b c d e g k
  refine ⟨σ', ?_, MH_of c w2 w3, xFr_mono w4 (by decide) (by decide)⟩
  unfold mX9_reads
  rw [show (0 : Int32) = nI 0 from rfl, w1, xb2_s]
theorem m_isThing' {σ : xSt} {H : Hs} (F : Nat) (v : Int32) (hF : 100 ≤ F) (hB : HB H) (h : MTx σ H) : ∃ σ', mX9_isThing F v σ = some (bI (¬ v < 0 ∧ v < nI (hT H)), σ') ∧ xFr mI mA σ σ' := by
  obtain ⟨σ', a, b, c⟩ := m_reads F hF h
  exact ⟨σ', m_isThing F v a b hB, c⟩
theorem m_isPerson' {σ : xSt} {H : Hs} (F : Nat) (v : Int32) (hF : 100 ≤ F) (hB : HB H) (h : MTx σ H) : ∃ σ', mX9_isPerson F v σ = some (bI (¬ v < 0 ∧ v < nI (hP H)), σ') ∧ xFr mI mA σ σ' := by
  obtain ⟨σ', a, b, c⟩ := m_reads F hF h
  exact ⟨σ', m_isPerson F v a b hB, c⟩
theorem m_asTold {σ : xSt} {H : Hs} {D : Dy} (F : Nat) (hH : MH σ H) (h : MR σ D) (h7 : ∀ x, D 7 x = 0) (h8 : D 8 0 = 0) : ∃ σ', mX9_asTold F σ = some σ' ∧ MD σ' D ∧ MH σ' H ∧ xFr mI mA σ σ' := by
  have f : xFr [20, 21, 22, 23] [] σ (xsI (xsI (xsI (xsI σ 20 (xI σ 10)) 21 (xI (xsI σ 20 (xI σ 10)) 14)) 22 0) 23 0) := xFr_tr (xFr_tr (xFr_tr (xFr_sI (by decide)) (xFr_sI (by decide))) (xFr_sI (by decide))) (xFr_sI (by decide))
  refine ⟨_, rfl, ?_, MH_fr hH f (by simp) (by simp), xFr_mono f (by decide) (by decide)⟩
  obtain ⟨a, b, c, d, e, g⟩ := h
  refine ⟨by omega, b, fun i hi => ?_, by omega, e, fun i hi => ?_, fun x hx => ?_, by rw [h8]; rfl, by omega⟩
  · obtain ⟨c1, c2, c3, c4, c5, c6⟩ := c i hi
    exact ⟨c1, c2, c3, by omega, by omega, by omega⟩
  · obtain ⟨c1, c2, c3, c4⟩ := g i hi
    exact ⟨c1, c2, by omega, by omega⟩
  · rw [h7 x]
    have z : (0 : Int32) >>> (nI x &&& 31) &&& 1 = 0 := by
      rw [Int32.zero_shiftRight]; rfl
    exact propext ⟨fun w => absurd (z.symm.trans w) (by decide), fun w => absurd w (by decide)⟩
theorem m_runsTold {σc σm : xSt} {H : Hs} {D : Dy} (F hr : Nat) (hF : 100 ≤ F) (hr1 : hr < 24) (h : Hse σc σm H D) : ∃ σ', mX9_runsTold F (nI hr) σm = some σ' ∧ xFr mI mA σm σ' ∧ MH σ' H ∧ MLs σ' H (fun t => dayL H D t (hr + 1)) := by
  obtain ⟨hB, hC, hD, hT, hR, h7, h8⟩ := h
  obtain ⟨σ1, a1, a2, a3⟩ := m_reads F hF hT
  obtain ⟨σ2, b1, b2, b3, b4⟩ := m_asTold F a2 (MR_fr hR a3) h7 h8
  obtain ⟨σ3, c1, c2, c3⟩ := m_runs F hr H D hF hr1 hB (fun x _ q => by rw [h7 x] at q; omega) σ2 b3 b2
  refine ⟨σ3, ?_, xFr_tr (xFr_tr a3 b4) (xFr_mono c2 (by simp) (by simp)), MH_l b3 c2, c3⟩
  unfold mX9_runsTold
  rw [a1, xb1_s, b1, xb1_s, c1, xb1_s]
theorem c_tells0 {σc σm : xSt} {H : Hs} {D : Dy} (F t hr : Nat) (hF : 100 ≤ F) (ht : t < hT H) (hr1 : hr < 24) (h : Hse σc σm H D) : ∃ σ', mX2_tellsBehind F (nI t) (nI hr) 0 σc = some (toldL (hN H t) (dayL H D t (hr + 1)), σ') ∧ xFr [1, 2] [2, 3, 4] σc σ' ∧ CS σ' H D t (dayL H D t (hr + 1)) := by
  obtain ⟨hB, hC, hD, hT, hR, h7, h8⟩ := h
  refine c_tellsBehind F t hr 0 H D hF hB ht hr1 (fun x hx => ?_) (fun x q => by rw [h7 x] at q; omega) σc hC hD
  rw [h7 x]
  have z : (0 : Int32) >>> (nI x &&& 31) &&& 1 = 0 := by
    rw [Int32.zero_shiftRight]; rfl
  exact propext ⟨fun w => absurd (z.symm.trans w) (by decide), fun w => absurd w (by decide)⟩
