theorem rngM_c {v top : Int32} {N : Nat} (hN : N < 2 ^ 31) (ht : top.toInt = N) (h1 : ¬ v < -1) (h2 : v < top) : v = -1 ∨ ∃ j, j < N ∧ v = nI j := by
  by_cases q : v < 0
  · left
    have a := Int32.lt_iff_toInt_lt.mp q
    have b := Int32.le_iff_toInt_le.mp (Int32.not_lt.mp h1)
    have c : (-1 : Int32).toInt = -1 := by decide
    have d : (0 : Int32).toInt = 0 := by decide
    exact Int32.toInt_inj.mp (by omega)
  · right
    have a := Int32.lt_iff_toInt_lt.mp h2
    refine lt_of_nI hN q (Int32.lt_iff_toInt_lt.mpr ?_)
    rw [nI_toInt (by omega)]; omega
theorem rngM_eq {v hi top : Int32} {N : Nat} (hh : hi.toInt = N) (ht : top.toInt = N + 1) : (-1 ≤ v ∧ v ≤ hi) = (¬ v < -1 ∧ v < top) := propext (by
  rw [Int32.not_lt, Int32.le_iff_toInt_le (y := hi), Int32.lt_iff_toInt_lt, hh, ht]
  constructor
  · rintro ⟨a, b⟩; exact ⟨a, by omega⟩
  · rintro ⟨a, b⟩; exact ⟨a, by omega⟩)
def atI (f : Nat × Nat → Nat) (l : Ly) (i : Nat) : Int32 := match l[i]? with
  | some x => nI (f x)
  | none => -1
theorem revU_len {u : Nat} {l : Ly} : (revU u l).length = l.length := by
  unfold revU
  by_cases e : u = 1
  · rw [if_pos e, List.length_reverse]
  · rw [if_neg e]
theorem c_placeOf (F i : Nat) (H : Hs) (D : Dy) (t : Nat) (l : Ly) (σ : xSt) (hB : HB H) (ht : t < hT H) (hi : i < 100) (h : CS σ H D t l) : (l.length ≤ i ∧ mX3_placeOf F (nI i) σ = some (-1, σ)) ∨ ∃ j x, i < l.length ∧ j < 5 ∧ l[i]? = some x ∧ mX3_placeOf F (nI i) σ = some (nI j, σ) ∧ vals σ (hQ H) j x := by
  have u1 := (hB.2.2.1 t ht).2.2
  have h1 := h.2.2.2.1.2.1
  have h5 := h.2.2.2.1.1
  rw [revU_len] at h1 h5
  unfold mX3_placeOf mX3_placeOf_L12 mX3_placeOf_L33
  rw [if_neg (nI_pos (by omega)), h1, h.2.2.1]
  by_cases q : i < l.length
  · right
    rw [if_pos (nI_lt q (by omega))]
    have hg : l[i]? = some l[i] := List.getElem?_eq_getElem q
    rcases (show hU H t = 0 ∨ hU H t = 1 by omega) with e | e
    · refine ⟨i, l[i], q, by omega, hg, by rw [e, if_pos (show nI 0 = 0 from rfl)], h.2.2.2.1.2.2 i _ ?_⟩
      unfold revU; rw [if_neg (by omega)]; exact hg
    · have e1 : nI l.length - 1 - nI i = nI (l.length - 1 - i) := by
        rw [show nI l.length - 1 = nI (l.length - 1) from pk_sub (b := 1) (by omega)]; exact pk_sub (by omega)
      refine ⟨l.length - 1 - i, l[i], q, by omega, hg, by rw [e, if_neg (show ¬ (nI 1 = 0) by decide), e1], h.2.2.2.1.2.2 _ _ ?_⟩
      unfold revU; rw [if_pos e, List.getElem?_reverse (by omega), show l.length - 1 - (l.length - 1 - i) = i by omega]; exact hg
  · left
    rw [if_neg (nI_nlt (by omega) (by omega))]
    exact ⟨by omega, rfl⟩
theorem c_smellAt (F i : Nat) (H : Hs) (D : Dy) (t : Nat) (l : Ly) (σ : xSt) (hB : HB H) (ht : t < hT H) (hi : i < 100) (h : CS σ H D t l) : mX3_smellAt F (nI i) σ = some (atI Prod.fst l i, σ) := by
  unfold mX3_smellAt mX3_smellAt_L21 atI
  rcases c_placeOf F i H D t l σ hB ht hi h with ⟨a, b⟩ | ⟨j, x, a, b, c, d, e⟩
  · rw [b, xb2_s, if_pos rfl, List.getElem?_eq_none a]
  · rw [d, xb2_s, if_neg (not_m1 (by omega)), xck_in b (by omega), nI_clamp (by omega), e.1, c]
theorem c_strengthAt (F i : Nat) (H : Hs) (D : Dy) (t : Nat) (l : Ly) (σ : xSt) (hB : HB H) (ht : t < hT H) (hi : i < 100) (h : CS σ H D t l) : mX3_strengthAt F (nI i) σ = some (atI Prod.snd l i, σ) := by
  unfold mX3_strengthAt mX3_strengthAt_L21 atI
  rcases c_placeOf F i H D t l σ hB ht hi h with ⟨a, b⟩ | ⟨j, x, a, b, c, d, e⟩
  · rw [b, xb2_s, if_pos rfl, List.getElem?_eq_none a]
  · rw [d, xb2_s, if_neg (not_m1 (by omega)), xck_in b (by omega), nI_clamp (by omega), e.2.1, c]
theorem p_layers (F : Nat) (hF : 5000 ≤ F) : zP_layers F Rel := by
  intro σc σm hR h t i
  obtain ⟨H, D, hH⟩ := Hse_of hR
  have hB := hH.1
  have hb1 := hB.1
  unfold mX8_layers mX9_layers mX8_layers_L28 mX9_layers_L34 mX9_layers_L36
  by_cases h1 : 0 ≤ h ∧ h ≤ 23
  · obtain ⟨hr, hr1, rfl⟩ := rngI (n := 23) (by decide) (by decide) h1
    obtain ⟨σ1, a1, a2⟩ := m_isThing' F t (by omega) hB hH.2.2.2.1
    have hH1 := Hse_m hH a2
    simp only [c_noHour, m_isHour, bI_nf h1, bI_t h1, a1, c_lacksThing F t σc H hH.2.1, xb1_s, xb2_s, xck_1, i10, i00, i11, ↓reduceIte]
    by_cases h2 : ¬ t < 0 ∧ t < nI (hT H)
    · obtain ⟨tt, ht, rfl⟩ := lt_of_nI (by omega) h2.1 h2.2
      simp only [bI_nf h2, bI_t h2, m_in, rngM_eq (N := 4) (v := i) (hi := 4) (top := 5) (by decide) (by decide), xb1_s, xb2_s, xck_1, i10, i00, i11, ↓reduceIte]
      by_cases h3 : ¬ i < -1 ∧ i < 5
      · obtain ⟨σc', b1, b2, b3⟩ := c_tells0 F tt hr (by omega) ht (by omega) hH1
        obtain ⟨σ2, c1, c2, c3, c4⟩ := m_runsTold F hr (by omega) (by omega) hH1
        have hRel : Rel σc' σ2 := Rel_cm hR b2 (xFr_tr a2 c2)
        obtain ⟨r1, r2, r3⟩ := (c4 tt ht).1
        have r1' : (dayL H D tt (hr + 1)).length ≤ 6 := r1
        have hsz := b3.2.2.2.1.2.1
        rw [revU_len] at hsz
        unfold mX9_layersOf mX9_layersOf_L44 mX8_layers_L71
        simp only [bI_t h3]
        simp only [h3.1, h3.2, b1, c1, xin_nI (show tt < 6 by omega) (by omega), nI_clamp (show tt < 2 ^ 31 by omega), r2, xb1_s, xb2_s, xck_1, i10, i00, i11, ↓reduceIte]
        rcases rngM_c (N := 5) (by omega) (by decide) h3.1 h3.2 with rfl | ⟨j, hj, rfl⟩
        · rw [if_pos rfl, if_pos rfl, xb2_s, hsz]
          exact ⟨_, _, _, rfl, rfl, hRel⟩
        · rw [if_neg (not_m1 (by omega)), if_neg (not_m1 (by omega)), c_smellAt F j H D tt _ σc' hB ht (by omega) b3, xb2_s]
          refine ⟨_, _, _, rfl, ?_, hRel⟩
          unfold atI
          by_cases q : (dayL H D tt (hr + 1)).length ≤ j
          · rw [if_pos (nI_le q (by omega)), xb2_s, List.getElem?_eq_none q]
          · have hj2 : j < (dayL H D tt (hr + 1)).length := by omega
            have hg := List.getElem?_eq_getElem hj2
            rw [if_neg (nI_ge hj2 (by omega)), e6, nI_add, xck_in (by omega) (by omega), nI_clamp (by omega), (r3 j _ hg).1, xb2_s, hg]
      · have h3' : (if i < -1 then some ((-2 : Int32), σc) else if i < 5 then xb2 (mX2_tellsBehind F (nI tt) (nI hr) 0 σc) (fun r38 σ38 => (if i = (-1) then mX8_layers_L71 F (xI σ38 1) σ38 else xb2 (mX3_smellAt F i σ38) (fun r68 σ68 => mX8_layers_L71 F r68 σ68))) else some (-2, σc)) = some (-2, σc) := by
          by_cases q : i < -1
          · rw [if_pos q]
          · rw [if_neg q, if_neg (fun z => h3 ⟨q, z⟩)]
        simp only [bI_f h3, xb1_s, xb2_s, xck_1, i10, i00, i11, ↓reduceIte]
        rw [h3']
        exact ⟨_, _, _, rfl, rfl, Rel_cm hR xFr_rf a2⟩
    · simp only [bI_nt h2, bI_f h2, xb1_s, xb2_s, xck_1, i10, i00, i11, ↓reduceIte]
      exact ⟨_, _, _, rfl, rfl, Rel_cm hR xFr_rf a2⟩
  · simp only [c_noHour, m_isHour, bI_nt h1, bI_f h1, xb1_s, xb2_s, xck_1, i10, i00, i11, ↓reduceIte]
    exact ⟨_, _, _, rfl, rfl, hR⟩
theorem p_strong (F : Nat) (hF : 5000 ≤ F) : zP_strong F Rel := by
  intro σc σm hR h t i
  obtain ⟨H, D, hH⟩ := Hse_of hR
  have hB := hH.1
  have hb1 := hB.1
  unfold mX8_strong mX9_strong mX8_strong_L27 mX9_strong_L34 mX9_strong_L36
  by_cases h1 : 0 ≤ h ∧ h ≤ 23
  · obtain ⟨hr, hr1, rfl⟩ := rngI (n := 23) (by decide) (by decide) h1
    obtain ⟨σ1, a1, a2⟩ := m_isThing' F t (by omega) hB hH.2.2.2.1
    have hH1 := Hse_m hH a2
    simp only [c_noHour, m_isHour, bI_nf h1, bI_t h1, a1, c_lacksThing F t σc H hH.2.1, xb1_s, xb2_s, xck_1, i10, i00, i11, ↓reduceIte]
    by_cases h2 : ¬ t < 0 ∧ t < nI (hT H)
    · obtain ⟨tt, ht, rfl⟩ := lt_of_nI (by omega) h2.1 h2.2
      simp only [bI_nf h2, bI_t h2, m_in, xb1_s, xb2_s, xck_1, i10, i00, i11, ↓reduceIte]
      by_cases h3 : 0 ≤ i ∧ i ≤ 4
      · obtain ⟨j, hj, rfl⟩ := rngI (n := 4) (by decide) (by decide) h3
        obtain ⟨σc', b1, b2, b3⟩ := c_tells0 F tt hr (by omega) ht (by omega) hH1
        obtain ⟨σ2, c1, c2, c3, c4⟩ := m_runsTold F hr (by omega) (by omega) hH1
        have hRel : Rel σc' σ2 := Rel_cm hR b2 (xFr_tr a2 c2)
        obtain ⟨r1, r2, r3⟩ := (c4 tt ht).1
        have r1' : (dayL H D tt (hr + 1)).length ≤ 6 := r1
        unfold mX9_strongOf mX9_strongOf_L30
        have j5 : nI j < 5 := nI_lt (b := 5) (by omega) (by omega)
        have j0 : ¬ nI j < 0 := nI_pos (by omega)
        simp only [bI_t h3, j0, j5, b1, c1, xin_nI (show tt < 6 by omega) (by omega), nI_clamp (show tt < 2 ^ 31 by omega), r2, c_strengthAt F j H D tt _ σc' hB ht (by omega) b3, xb1_s, xb2_s, xck_1, i10, i00, i11, ↓reduceIte]
        refine ⟨_, _, _, rfl, ?_, hRel⟩
        unfold atI
        by_cases q : (dayL H D tt (hr + 1)).length ≤ j
        · rw [if_pos (nI_le q (by omega)), xb2_s, List.getElem?_eq_none q]
        · have hj2 : j < (dayL H D tt (hr + 1)).length := by omega
          have hg := List.getElem?_eq_getElem hj2
          rw [if_neg (nI_ge hj2 (by omega)), e6, nI_add, xck_in (by omega) (by omega), nI_clamp (by omega), (r3 j _ hg).2, xb2_s, hg]
      · have h3' := h3
        rw [not_rng (n := 4) (hi := 4) (top := 5) (by decide) (by decide)] at h3'
        simp only [bI_f h3, xb1_s, xb2_s, xck_1, i10, i00, i11, ↓reduceIte]
        refine ⟨-2, σc, _, ?_, rfl, Rel_cm hR xFr_rf a2⟩
        by_cases q : i < 0
        · simp only [q, xb1_s, xb2_s, xck_1, i10, i00, i11, ↓reduceIte]
        · have q2 : ¬ i < 5 := fun z => h3' ⟨q, z⟩
          simp only [q, q2, xb1_s, xb2_s, xck_1, i10, i00, i11, ↓reduceIte]
    · simp only [bI_nt h2, bI_f h2, xb1_s, xb2_s, xck_1, i10, i00, i11, ↓reduceIte]
      exact ⟨_, _, _, rfl, rfl, Rel_cm hR xFr_rf a2⟩
  · simp only [c_noHour, m_isHour, bI_nt h1, bI_f h1, xb1_s, xb2_s, xck_1, i10, i00, i11, ↓reduceIte]
    exact ⟨_, _, _, rfl, rfl, hR⟩
theorem allL_z {H : Hs} {L : Nat → Ly} : allL H L 0 = 0 := rfl
theorem c_allTellL {σm : xSt} {H : Hs} {D : Dy} (F hr : Nat) (b : Int32) (hF : 100 ≤ F) (hr1 : hr < 24) (hb : ∀ t, t < 6 → (b >>> (nI t &&& 31)) &&& 1 = 1) : ∀ (fu a : Nat) (σ : xSt), a ≤ hT H → hT H < a + fu → Hse σ σm H D →
    ∃ σ', mX2_allTell_L5 F fu (nI hr) b (allL H (fun t => dayL H D t (hr + 1)) a) (nI a) σ = some (allL H (fun t => dayL H D t (hr + 1)) (hT H), σ') ∧ xFr [1, 2] [2, 3, 4] σ σ' := by
  intro fu
  induction fu with
  | zero => intro a σ x y; omega
  | succ fu ih =>
    intro a σ x y hH
    have hb1 := hH.1.1
    show ∃ σ', mX2_allTell_S5 F (mX2_allTell_L5 F fu) (nI hr) b _ (nI a) σ = _ ∧ _
    unfold mX2_allTell_S5 mX2_allTell_L43 mX2_allTell_L37
    rw [show xI σ (12 + 0) = nI (hT H) from hH.2.1.1]
    by_cases q : a = hT H
    · rw [if_pos (by rw [q]; exact nI_le (Nat.le_refl _) (by omega)), q]
      exact ⟨σ, rfl, xFr_rf⟩
    · rw [if_neg (nI_ge (by omega) (by omega)), c_holds, xb2_s, bI_t (hb a (by omega)), if_neg (by decide)]
      obtain ⟨σ1, b1, b2, b3⟩ := c_tells0 F a hr hF (by omega) hr1 hH
      rw [b1, xb2_s, nI_1]
      obtain ⟨σ', z1, z2⟩ := ih (a + 1) σ1 (by omega) (by omega) (Hse_c hH b2)
      rw [allL_s] at z1
      exact ⟨σ', z1, xFr_tr b2 z2⟩
theorem c_allTell {σc σm : xSt} {H : Hs} {D : Dy} (F hr : Nat) (hF : 100 ≤ F) (hr1 : hr < 24) (hH : Hse σc σm H D) : ∃ σ', mX2_allTell F (nI hr) 63 σc = some (allL H (fun t => dayL H D t (hr + 1)) (hT H), σ') ∧ xFr [1, 2] [2, 3, 4] σc σ' := by
  have hb1 := hH.1.1
  exact c_allTellL F hr 63 hF hr1 (by decide) F 0 σc (by omega) (by omega) hH
theorem p_tells (F : Nat) (hF : 5000 ≤ F) : zP_tells F Rel := by
  intro σc σm hR h t
  obtain ⟨H, D, hH⟩ := Hse_of hR
  have hB := hH.1
  have hb1 := hB.1
  unfold mX8_tells mX9_tells mX8_tells_L23 mX9_tells_L29 mX9_tells_L20 mX8_tells_L26 mX8_tells_L54 mX9_tells_L31 mX9_tellsOf mX9_tellsOf_L22
  by_cases h1 : 0 ≤ h ∧ h ≤ 23
  · obtain ⟨hr, hr1, rfl⟩ := rngI (n := 23) (by decide) (by decide) h1
    simp only [c_noHour, m_isHour, bI_nf h1, bI_t h1, xb1_s, xb2_s, xck_1, i10, i00, i11, ↓reduceIte]
    by_cases h0 : t = -1
    · obtain ⟨σc', b1, b2⟩ := c_allTell F hr (by omega) (by omega) hH
      obtain ⟨σ2, c1, c2, c3, c4⟩ := m_runsTold F hr (by omega) (by omega) hH
      simp only [h0, b1, c1, m_tellsAll F H (by omega) hB _ σ2 c3 c4, xb1_s, xb2_s, xck_1, i10, i00, i11, ↓reduceIte]
      exact ⟨_, _, _, rfl, rfl, Rel_cm hR b2 c2⟩
    · obtain ⟨σ1, a1, a2⟩ := m_isThing' F t (by omega) hB hH.2.2.2.1
      have hH1 := Hse_m hH a2
      simp only [h0, a1, c_lacksThing F t σc H hH.2.1, xb1_s, xb2_s, xck_1, i10, i00, i11, ↓reduceIte]
      by_cases h2 : ¬ t < 0 ∧ t < nI (hT H)
      · obtain ⟨tt, ht, rfl⟩ := lt_of_nI (by omega) h2.1 h2.2
        obtain ⟨σc', b1, b2, b3⟩ := c_tells0 F tt hr (by omega) ht (by omega) hH1
        obtain ⟨σ2, c1, c2, c3, c4⟩ := m_runsTold F hr (by omega) (by omega) hH1
        simp only [bI_nf h2, bI_t h2, b1, c1, m_tellsNow F tt H (by omega) hB ht _ σ2 c3 (c4 tt ht).1, xb1_s, xb2_s, xck_1, i10, i00, i11, ↓reduceIte]
        exact ⟨_, _, _, rfl, rfl, Rel_cm hR b2 (xFr_tr a2 c2)⟩
      · simp only [bI_nt h2, bI_f h2, xb1_s, xb2_s, xck_1, i10, i00, i11, ↓reduceIte]
        exact ⟨_, _, _, rfl, rfl, Rel_cm hR xFr_rf a2⟩
  · simp only [c_noHour, m_isHour, bI_nt h1, bI_f h1, xb1_s, xb2_s, xck_1, i10, i00, i11, ↓reduceIte]
    exact ⟨_, _, _, rfl, rfl, hR⟩
