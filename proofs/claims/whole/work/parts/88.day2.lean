theorem xFt_l {t : Nat} {σ σ' : xSt} (h : xFt t σ σ') : xFr [] [17, 18, 19] σ σ' := h.1
theorem m_go1 (F hh : Nat) (H : Hs) (hF : 100 ≤ F) (hB : HB H) : ∀ (fu a : Nat) (σ : xSt) (L : Nat → Ly), a ≤ hT H → hT H < a + fu → MH σ H → MLs σ H L →
    ∃ σ', mX9_goesBy_L2 F fu (nI hh) (nI a) σ = mX9_goesBy_L21 F (nI hh) σ' ∧ xFr [] [17, 18, 19] σ σ' ∧ MLs σ' H (fun t => if a ≤ t then fadeL (hQ H) (L t) else L t) := by
  have hb1 := hB.1
  intro fu
  induction fu with
  | zero => intro a σ L x y; omega
  | succ fu ih =>
    intro a σ L x y hM hL
    show ∃ σ', mX9_goesBy_S2 F (mX9_goesBy_L2 F fu) (nI hh) (nI a) σ = _ ∧ _
    unfold mX9_goesBy_S2
    rw [hM.1]
    by_cases q : a = hT H
    · rw [if_pos (by rw [q]; exact nI_le (Nat.le_refl _) (by omega))]
      refine ⟨σ, rfl, xFr_rf, fun t ht => ?_⟩
      show rep σ t (if a ≤ t then _ else _) ∧ OkL H t (if a ≤ t then _ else _)
      rw [if_neg (by omega)]; exact hL t ht
    · rw [if_neg (nI_ge (by omega) (by omega))]
      have hLa := hL a (by omega)
      obtain ⟨σ1, w1, w2, w3⟩ := m_fades F a H hF (by omega) hB (L a) σ hM hLa.2.2.1 hLa.1
      rw [w1, xb1_s, nI_1]
      obtain ⟨σ', z1, z2, z3⟩ := ih (a + 1) σ1 (fun t => if t = a then fadeL (hQ H) (L t) else L t) (by omega) (by omega) (MH_t hM w2) (MLs_t (L := L) hL w2 (fun _ => by rw [if_pos rfl]; exact w3) (fun _ => by rw [if_pos rfl]; exact OkL_fade hLa.2) (fun t' ht' => if_neg ht'))
      refine ⟨σ', z1, xFr_tr w2.1 z2, fun t ht => ?_⟩
      have := z3 t ht
      have e : (if a + 1 ≤ t then fadeL (hQ H) (if t = a then fadeL (hQ H) (L t) else L t) else (if t = a then fadeL (hQ H) (L t) else L t)) = (if a ≤ t then fadeL (hQ H) (L t) else L t) := by
        by_cases e1 : t = a
        · rw [if_neg (by omega), if_pos e1, if_pos (by omega)]
        · rw [if_neg e1]
          by_cases e2 : a ≤ t
          · rw [if_pos (by omega), if_pos e2]
          · rw [if_neg (by omega), if_neg e2]
      simp only [e] at this
      exact this
theorem m_go2 (F hh : Nat) (H : Hs) (D : Dy) (hF : 100 ≤ F) (hh1 : hh < 1000) (hB : HB H) : ∀ (d fu i : Nat) (σ : xSt) (L : Nat → Ly), i + d = D 0 0 → d < fu → MH σ H → MD σ D → MLs σ H L →
    ∃ σ', mX9_goesBy_L23 F fu (nI hh) (nI i) σ = mX9_goesBy_L89 F (nI hh) σ' ∧ xFr [] [17, 18, 19] σ σ' ∧ MLs σ' H (fun t => (List.range' i d).foldl (stS H D t hh) (L t)) := by
  have hb1 := hB.1
  have hb2 := hB.2.1
  intro d
  induction d with
  | zero =>
    intro fu i σ L x y hM hD hL
    obtain ⟨fu, rfl⟩ : ∃ f, fu = f + 1 := ⟨fu - 1, by omega⟩
    show ∃ σ', mX9_goesBy_S23 F (mX9_goesBy_L23 F fu) (nI hh) (nI i) σ = _ ∧ _
    unfold mX9_goesBy_S23
    have hd := hD.1
    rw [hD.2.1, if_pos (nI_le (by omega) (by omega))]
    exact ⟨σ, rfl, xFr_rf, hL⟩
  | succ d ih =>
    intro fu i σ L x y hM hD hL
    obtain ⟨fu, rfl⟩ : ∃ f, fu = f + 1 := ⟨fu - 1, by omega⟩
    have hd := hD.1
    obtain ⟨r1, r2, r3, r4, r5, r6⟩ := hD.2.2.1 i (by omega)
    have base : mX9_goesBy_L23 F (fu + 1) (nI hh) (nI i) σ = if D 1 i = hh ∧ D 3 i < hP H ∧ D 2 i < hT H then xb1 (mX9_sits F (nI (D 3 i)) (nI (D 2 i)) σ) (fun σ80 => mX9_goesBy_L83 F (mX9_goesBy_L23 F fu) (nI hh) (nI i) σ80) else mX9_goesBy_L83 F (mX9_goesBy_L23 F fu) (nI hh) (nI i) σ := by
      show mX9_goesBy_S23 F (mX9_goesBy_L23 F fu) (nI hh) (nI i) σ = _
      unfold mX9_goesBy_S23
      simp only [hD.2.1, hM.1, hM.2.2.1, eq_false (nI_ge (show i < D 0 0 by omega) (show D 0 0 < 2 ^ 31 by omega)), xin_nI (show i < 44 by omega) (by omega), nI_clamp (show i < 2 ^ 31 by omega), r1, r2, r3, nI_eqL hh (show D 1 i < 2 ^ 31 by omega) (show hh < 2 ^ 31 by omega), xb1_s, xb2_s, xck_1, i10, i00, i11, ↓reduceIte]
      by_cases q1 : D 1 i = hh
      · by_cases q2 : D 3 i < hP H
        · by_cases q3 : D 2 i < hT H
          · simp only [q1, q2, q3, and_self, eq_false (nI_ge q2 (by omega)), eq_false (nI_ge q3 (by omega)), xb1_s, xb2_s, xck_1, i10, i00, i11, ↓reduceIte]
          · simp only [q1, q2, q3, and_false, eq_false (nI_ge q2 (by omega)), eq_true (nI_le (show hT H ≤ D 2 i by omega) (by omega)), xb1_s, xb2_s, xck_1, i10, i00, i11, ↓reduceIte]
        · simp only [q1, q2, false_and, and_false, eq_true (nI_le (show hP H ≤ D 3 i by omega) (by omega)), xb1_s, xb2_s, xck_1, i10, i00, i11, ↓reduceIte]
      · simp only [q1, false_and, xb1_s, xb2_s, xck_1, i10, i00, i11, ↓reduceIte]
    rw [base]
    have cont : ∀ σ1 L1, xFr [] [17, 18, 19] σ σ1 → MLs σ1 H L1 → (∀ t, t < hT H → L1 t = stS H D t hh (L t) i) → ∃ σ', mX9_goesBy_L83 F (mX9_goesBy_L23 F fu) (nI hh) (nI i) σ1 = mX9_goesBy_L89 F (nI hh) σ' ∧ xFr [] [17, 18, 19] σ σ' ∧ MLs σ' H (fun t => (List.range' i (d + 1)).foldl (stS H D t hh) (L t)) := by
      intro σ1 L1 hf hL1 he
      obtain ⟨σ', z1, z2, z3⟩ := ih fu (i + 1) σ1 L1 (by omega) (by omega) (MH_l hM hf) (MD_l hD hf) hL1
      refine ⟨σ', ?_, xFr_tr hf z2, fun t ht => ?_⟩
      · unfold mX9_goesBy_L83; rw [nI_1]; exact z1
      · have := z3 t ht
        simp only [he t ht] at this
        rw [List.range'_succ]
        exact this
    by_cases q : D 1 i = hh ∧ D 3 i < hP H ∧ D 2 i < hT H
    · rw [if_pos q]
      obtain ⟨q1, q2, q3⟩ := q
      have hLa := hL (D 2 i) q3
      obtain ⟨σ1, w1, w2, w3⟩ := m_sits F (D 3 i) (D 2 i) H hF hB q3 q2 (L (D 2 i)) σ hM hLa.2.2.1 hLa.2.1 hLa.1
      rw [w1, xb1_s]
      refine cont σ1 (fun t => stS H D t hh (L t) i) w2.1 (MLs_t (L := L) hL w2 (fun _ => ?_) (fun ht => OkL_stS hB ht hLa.2) (fun t' ht' => ?_)) (fun _ _ => rfl)
      · unfold stS; rw [if_pos ⟨q1, rfl, q2⟩]; exact w3
      · unfold stS; rw [if_neg (fun w => ht' w.2.1.symm)]
    · rw [if_neg q]
      refine cont σ L xFr_rf hL (fun t ht => ?_)
      unfold stS; rw [if_neg (fun w => q ⟨w.1, w.2.2, by rw [w.2.1]; exact ht⟩)]
theorem m_go3 (F hh : Nat) (H : Hs) (D : Dy) (hF : 100 ≤ F) (hh1 : hh < 1000) (hB : HB H) : ∀ (d fu i : Nat) (σ : xSt) (L : Nat → Ly), i + d = D 4 0 → d < fu → MH σ H → MD σ D → MLs σ H L →
    ∃ σ', mX9_goesBy_L91 F fu (nI hh) (nI i) σ = mX9_goesBy_L138 F (nI hh) σ' ∧ xFr [] [17, 18, 19] σ σ' ∧ MLs σ' H (fun t => (List.range' i d).foldl (stW D t hh) (L t)) := by
  have hb1 := hB.1
  intro d
  induction d with
  | zero =>
    intro fu i σ L x y hM hD hL
    obtain ⟨fu, rfl⟩ : ∃ f, fu = f + 1 := ⟨fu - 1, by omega⟩
    show ∃ σ', mX9_goesBy_S91 F (mX9_goesBy_L91 F fu) (nI hh) (nI i) σ = _ ∧ _
    unfold mX9_goesBy_S91
    have hd := hD.2.2.2.1
    rw [hD.2.2.2.2.1, if_pos (nI_le (by omega) (by omega))]
    exact ⟨σ, rfl, xFr_rf, hL⟩
  | succ d ih =>
    intro fu i σ L x y hM hD hL
    obtain ⟨fu, rfl⟩ : ∃ f, fu = f + 1 := ⟨fu - 1, by omega⟩
    have hd := hD.2.2.2.1
    obtain ⟨r1, r2, r4, r5⟩ := hD.2.2.2.2.2.1 i (by omega)
    have base : mX9_goesBy_L91 F (fu + 1) (nI hh) (nI i) σ = if D 5 i = hh ∧ D 6 i < hT H then xb1 (mX9_airs F (nI (D 6 i)) σ) (fun σ80 => mX9_goesBy_L132 F (mX9_goesBy_L91 F fu) (nI hh) (nI i) σ80) else mX9_goesBy_L132 F (mX9_goesBy_L91 F fu) (nI hh) (nI i) σ := by
      show mX9_goesBy_S91 F (mX9_goesBy_L91 F fu) (nI hh) (nI i) σ = _
      unfold mX9_goesBy_S91
      simp only [hD.2.2.2.2.1, hM.1, eq_false (nI_ge (show i < D 4 0 by omega) (show D 4 0 < 2 ^ 31 by omega)), xin_nI (show i < 11 by omega) (by omega), nI_clamp (show i < 2 ^ 31 by omega), r1, r2, nI_eqL hh (show D 5 i < 2 ^ 31 by omega) (show hh < 2 ^ 31 by omega), xb1_s, xb2_s, xck_1, i10, i00, i11, ↓reduceIte]
      by_cases q1 : D 5 i = hh
      · by_cases q3 : D 6 i < hT H
        · simp only [q1, q3, and_self, eq_false (nI_ge q3 (by omega)), xb1_s, xb2_s, xck_1, i10, i00, i11, ↓reduceIte]
        · simp only [q1, q3, and_false, eq_true (nI_le (show hT H ≤ D 6 i by omega) (by omega)), xb1_s, xb2_s, xck_1, i10, i00, i11, ↓reduceIte]
      · simp only [q1, false_and, xb1_s, xb2_s, xck_1, i10, i00, i11, ↓reduceIte]
    rw [base]
    have cont : ∀ σ1 L1, xFr [] [17, 18, 19] σ σ1 → MLs σ1 H L1 → (∀ t, t < hT H → L1 t = stW D t hh (L t) i) → ∃ σ', mX9_goesBy_L132 F (mX9_goesBy_L91 F fu) (nI hh) (nI i) σ1 = mX9_goesBy_L138 F (nI hh) σ' ∧ xFr [] [17, 18, 19] σ σ' ∧ MLs σ' H (fun t => (List.range' i (d + 1)).foldl (stW D t hh) (L t)) := by
      intro σ1 L1 hf hL1 he
      obtain ⟨σ', z1, z2, z3⟩ := ih fu (i + 1) σ1 L1 (by omega) (by omega) (MH_l hM hf) (MD_l hD hf) hL1
      refine ⟨σ', ?_, xFr_tr hf z2, fun t ht => ?_⟩
      · unfold mX9_goesBy_L132; rw [nI_1]; exact z1
      · have := z3 t ht
        simp only [he t ht] at this
        rw [List.range'_succ]
        exact this
    by_cases q : D 5 i = hh ∧ D 6 i < hT H
    · rw [if_pos q]
      obtain ⟨q1, q3⟩ := q
      have hLa := hL (D 6 i) q3
      obtain ⟨σ1, w1, w2, w3⟩ := m_airs F (D 6 i) hF (by omega) (L (D 6 i)) σ hLa.1
      rw [w1, xb1_s]
      refine cont σ1 (fun t => stW D t hh (L t) i) w2.1 (MLs_t (L := L) hL w2 (fun _ => ?_) (fun ht => OkL_stW hLa.2) (fun t' ht' => ?_)) (fun _ _ => rfl)
      · unfold stW; rw [if_pos ⟨q1, rfl⟩]; exact w3
      · unfold stW; rw [if_neg (fun w => ht' w.2.symm)]
    · rw [if_neg q]
      refine cont σ L xFr_rf hL (fun t ht => ?_)
      unfold stW; rw [if_neg (fun w => q ⟨w.1, by rw [w.2]; exact ht⟩)]
theorem m_isIn (F : Nat) (b v : Int32) (σ : xSt) : mX9_isIn F b v σ = some (bI ((b >>> (v &&& 31)) &&& 1 = 1), σ) := by
  unfold mX9_isIn mX9_isIn_L14
  by_cases q : (b >>> (v &&& 31)) &&& 1 = 1
  · rw [if_pos q, bI_t q]; rfl
  · rw [if_neg q, bI_f q]; rfl
theorem m_goesBy (F hh : Nat) (H : Hs) (D : Dy) (hF : 100 ≤ F) (hh1 : hh < 24) (hB : HB H) (σ : xSt) (L : Nat → Ly) (hM : MH σ H) (hD : MD σ D) (hL : MLs σ H L) (hA : D 7 hh = 1 → D 8 0 < hT H) :
    ∃ σ', mX9_goesBy F (nI hh) σ = some σ' ∧ xFr [] [17, 18, 19] σ σ' ∧ MLs σ' H (fun t => hourL H D t hh (L t)) := by
  have hb1 := hB.1
  obtain ⟨σ1, a1, a2, a3⟩ := m_go1 F hh H hF hB F 0 σ L (by omega) (by omega) hM hL
  have hM1 := MH_l hM a2
  have hD1 := MD_l hD a2
  have a3' : MLs σ1 H (fun t => fadeL (hQ H) (L t)) := fun t ht => by have := a3 t ht; simp only [Nat.zero_le, ↓reduceIte] at this; exact this
  have hd0 := hD.1
  have hd4 := hD.2.2.2.1
  obtain ⟨σ2, b1, b2, b3⟩ := m_go2 F hh H D hF (by omega) hB (D 0 0) F 0 σ1 _ (by omega) (by omega) hM1 hD1 a3'
  have hM2 := MH_l hM1 b2
  have hD2 := MD_l hD1 b2
  obtain ⟨σ3, c1, c2, c3⟩ := m_go3 F hh H D hF (by omega) hB (D 4 0) F 0 σ2 _ (by omega) (by omega) hM2 hD2 b3
  have hM3 := MH_l hM2 c2
  have hD3 := MD_l hD2 c2
  unfold mX9_goesBy
  rw [show (0 : Int32) = nI 0 from rfl, a1]
  unfold mX9_goesBy_L21
  rw [show (0 : Int32) = nI 0 from rfl, b1]
  unfold mX9_goesBy_L89
  rw [show (0 : Int32) = nI 0 from rfl, c1]
  unfold mX9_goesBy_L138 mX9_goesBy_L157
  rw [m_isIn, xb2_s]
  simp only [hD3.2.2.2.2.2.2.1 hh hh1, hD3.2.2.2.2.2.2.2.1]
  by_cases q : D 7 hh = 1
  · rw [bI_t q, if_neg (by decide)]
    have h8 := hA q
    obtain ⟨σ4, w1, w2, w3⟩ := m_airs F (D 8 0) hF (by omega) _ σ3 (c3 (D 8 0) h8).1
    rw [w1, xb1_s]
    refine ⟨σ4, rfl, xFr_tr (xFr_tr (xFr_tr a2 b2) c2) w2.1, MLs_t c3 w2 (fun _ => ?_) (fun ht => OkL_hour hB ht (hL _ ht).2) (fun t' ht' => ?_)⟩
    · show rep σ4 (D 8 0) (hourL H D (D 8 0) hh (L (D 8 0)))
      unfold hourL
      simp only [q, true_and, List.range_eq_range', ↓reduceIte]
      exact w3
    · show hourL H D t' hh (L t') = _
      unfold hourL
      rw [if_neg (fun w => ht' w.2.symm), List.range_eq_range', List.range_eq_range']
  · rw [bI_f q, if_pos rfl]
    refine ⟨σ3, rfl, xFr_tr (xFr_tr a2 b2) c2, fun t ht => ?_⟩
    have := c3 t ht
    have e : hourL H D t hh (L t) = (List.range' 0 (D 4 0)).foldl (stW D t hh) ((List.range' 0 (D 0 0)).foldl (stS H D t hh) (fadeL (hQ H) (L t))) := by
      unfold hourL
      rw [if_neg (fun w => q w.1), List.range_eq_range', List.range_eq_range']
    show rep σ3 t (hourL H D t hh (L t)) ∧ OkL H t (hourL H D t hh (L t))
    rw [e]
    exact this
theorem m_beginsL (F : Nat) : ∀ (fu a : Nat) (σ : xSt), a ≤ 6 → 6 < a + fu → (∀ t, t < a → xA σ 17 t = 0) → ∃ σ', mX9_begins_L2 F fu (nI a) σ = some σ' ∧ xFr [] [17, 18, 19] σ σ' ∧ ∀ t, t < 6 → xA σ' 17 t = 0 := by
  intro fu
  induction fu with
  | zero => intro a σ x y; omega
  | succ fu ih =>
    intro a σ x y h
    show ∃ σ', mX9_begins_S2 F (mX9_begins_L2 F fu) (nI a) σ = _ ∧ _
    unfold mX9_begins_S2 mX9_begins_L21
    by_cases q : a = 6
    · subst q
      rw [if_pos (by decide)]
      exact ⟨σ, rfl, xFr_rf, h⟩
    · rw [if_neg (show ¬ ((6 : Int32) ≤ nI a) from nI_ge (b := 6) (by omega) (by omega)), xck_in (by omega) (by omega), nI_clamp (by omega), nI_1]
      obtain ⟨σ', w1, w2, w3⟩ := ih (a + 1) (xsA σ 17 a 0) (by omega) (by omega) (fun t ht => by
        rw [xA_s1, upd_e]
        by_cases e : t = a
        · rw [if_pos e]
        · rw [if_neg e]; exact h t (by omega))
      exact ⟨σ', w1, xFr_tr (xFr_sA (by decide)) w2, w3⟩
theorem m_begins (F : Nat) (H : Hs) (hF : 100 ≤ F) (hB : HB H) (σ : xSt) : ∃ σ', mX9_begins F σ = some σ' ∧ xFr [] [17, 18, 19] σ σ' ∧ MLs σ' H (fun _ => []) := by
  obtain ⟨σ', w1, w2, w3⟩ := m_beginsL F F 0 σ (by omega) (by omega) (fun t ht => by omega)
  have hb1 := hB.1
  exact ⟨σ', w1, w2, fun t ht => ⟨⟨by show 0 ≤ 6; omega, w3 t (by omega), fun i x q => by simp at q⟩, OkL_nil⟩⟩
theorem m_runsL (F hr : Nat) (H : Hs) (D : Dy) (hF : 100 ≤ F) (hr1 : hr < 24) (hB : HB H) (hA : ∀ h, h ≤ hr → D 7 h = 1 → D 8 0 < hT H) : ∀ (fu a : Nat) (σ : xSt), a ≤ hr + 1 → hr + 1 < a + fu → MH σ H → MD σ D → MLs σ H (fun t => dayL H D t a) →
    ∃ σ', mX9_runs_L6 F fu (nI hr) (nI a) σ = some σ' ∧ xFr [] [17, 18, 19] σ σ' ∧ MLs σ' H (fun t => dayL H D t (hr + 1)) := by
  intro fu
  induction fu with
  | zero => intro a σ x y; omega
  | succ fu ih =>
    intro a σ x y hM hD hL
    show ∃ σ', mX9_runs_S6 F (mX9_runs_L6 F fu) (nI hr) (nI a) σ = _ ∧ _
    unfold mX9_runs_S6 mX9_runs_L22
    by_cases q : a = hr + 1
    · subst q
      rw [if_pos (nI_lt (by omega) (by omega))]
      exact ⟨σ, rfl, xFr_rf, hL⟩
    · rw [if_neg (nI_nlt (by omega) (by omega)), nI_1]
      obtain ⟨σ1, w1, w2, w3⟩ := m_goesBy F a H D hF (by omega) hB σ _ hM hD hL (hA a (by omega))
      rw [w1, xb1_s]
      obtain ⟨σ', z1, z2, z3⟩ := ih (a + 1) σ1 (by omega) (by omega) (MH_l hM w2) (MD_l hD w2) w3
      exact ⟨σ', z1, xFr_tr w2 z2, z3⟩
theorem m_runs (F hr : Nat) (H : Hs) (D : Dy) (hF : 100 ≤ F) (hr1 : hr < 24) (hB : HB H) (hA : ∀ h, h ≤ hr → D 7 h = 1 → D 8 0 < hT H) (σ : xSt) (hM : MH σ H) (hD : MD σ D) :
    ∃ σ', mX9_runs F (nI hr) σ = some σ' ∧ xFr [] [17, 18, 19] σ σ' ∧ MLs σ' H (fun t => dayL H D t (hr + 1)) := by
  obtain ⟨σ1, w1, w2, w3⟩ := m_begins F H hF hB σ
  obtain ⟨σ', z1, z2, z3⟩ := m_runsL F hr H D hF hr1 hB hA F 0 σ1 (by omega) (by omega) (MH_l hM w2) (MD_l hD w2) w3
  refine ⟨σ', ?_, xFr_tr w2 z2, z3⟩
  unfold mX9_runs
  rw [w1, xb1_s]; exact z1
/-! what a thing tells -/
def toldF (b : Int32) (x : Nat × Nat) : Int32 := b ||| (1 <<< (nI x.1 &&& 31))
def toldL (N : Nat) (l : Ly) : Int32 := (l.take N).foldl toldF 0
theorem m_tellsNowL (F t : Nat) (H : Hs) (hB : HB H) (ht : t < hT H) (l : Ly) (σ : xSt) (hM : MH σ H) (r : rep σ t l) : ∀ (fu i : Nat) (b : Int32), i ≤ (l.take (hN H t)).length → (l.take (hN H t)).length < i + fu →
    mX9_tellsNow_L4 F fu (nI t) b (nI i) σ = some (((l.take (hN H t)).drop i).foldl toldF b, σ) := by
  have hb1 := hB.1
  have r6 := r.1
  obtain ⟨_, ⟨n1, n2⟩, _⟩ := hB.2.2.1 t ht
  have htl : (l.take (hN H t)).length = min (hN H t) l.length := List.length_take
  intro fu
  induction fu with
  | zero => intro i b x y; omega
  | succ fu ih =>
    intro i b x y
    show mX9_tellsNow_S4 F (mX9_tellsNow_L4 F fu) (nI t) b (nI i) σ = _
    unfold mX9_tellsNow_S4 mX9_tellsNow_L46
    simp only [xin_nI (show t < 7 by omega) (by omega), xin_nI (show t < 6 by omega) (by omega), nI_clamp (show t < 2 ^ 31 by omega), r.2.1, (hM.2.1 t ht).2.1, e6, nI_add, nI_1, xb1_s, xb2_s, xck_1, i10, i00, i11, ↓reduceIte]
    by_cases q1 : l.length ≤ i
    · rw [if_pos (nI_le q1 (by omega)), List.drop_eq_nil_of_le (by omega)]; rfl
    · rw [if_neg (nI_ge (by omega) (by omega))]
      by_cases q2 : hN H t ≤ i
      · rw [if_pos (nI_le q2 (by omega)), List.drop_eq_nil_of_le (by omega)]; rfl
      · have hi : i < (l.take (hN H t)).length := by omega
        have hg : l[i]? = some (l.take (hN H t))[i] := by
          rw [List.getElem_take]; exact List.getElem?_eq_getElem (by omega)
        rw [if_neg (nI_ge (by omega) (by omega)), xck_in (by omega) (by omega), nI_clamp (by omega), (r.2.2 i _ hg).1, ih (i + 1) _ (by omega) (by omega), List.drop_eq_getElem_cons hi, List.foldl_cons]
        rfl
theorem m_tellsNow (F t : Nat) (H : Hs) (hF : 100 ≤ F) (hB : HB H) (ht : t < hT H) (l : Ly) (σ : xSt) (hM : MH σ H) (r : rep σ t l) : mX9_tellsNow F (nI t) σ = some (toldL (hN H t) l, σ) := by
  have r6 := r.1
  unfold mX9_tellsNow
  rw [show (0 : Int32) = nI 0 from rfl, m_tellsNowL F t H hB ht l σ hM r F 0 _ (by omega) (by rw [List.length_take]; omega)]
  rfl
def allL (H : Hs) (L : Nat → Ly) (n : Nat) : Int32 := (List.range n).foldl (fun b t => b ||| toldL (hN H t) (L t)) 0
theorem allL_s {H : Hs} {L : Nat → Ly} {n : Nat} : allL H L (n + 1) = allL H L n ||| toldL (hN H n) (L n) := by
  unfold allL; rw [List.range_succ, List.foldl_append]; rfl
theorem m_tellsAllL (F : Nat) (H : Hs) (hF : 100 ≤ F) (hB : HB H) (L : Nat → Ly) (σ : xSt) (hM : MH σ H) (hL : MLs σ H L) : ∀ (fu a : Nat), a ≤ hT H → hT H < a + fu →
    mX9_tellsAll_L4 F fu (allL H L a) (nI a) σ = some (allL H L (hT H), σ) := by
  have hb1 := hB.1
  intro fu
  induction fu with
  | zero => intro a x y; omega
  | succ fu ih =>
    intro a x y
    show mX9_tellsAll_S4 F (mX9_tellsAll_L4 F fu) (allL H L a) (nI a) σ = _
    unfold mX9_tellsAll_S4 mX9_tellsAll_L26
    rw [hM.1]
    by_cases q : a = hT H
    · rw [if_pos (by rw [q]; exact nI_le (Nat.le_refl _) (by omega)), q]
    · rw [if_neg (nI_ge (by omega) (by omega)), m_tellsNow F a H hF hB (by omega) (L a) σ hM (hL a (by omega)).1, xb2_s, nI_1, ← allL_s]
      exact ih (a + 1) (by omega) (by omega)
theorem m_tellsAll (F : Nat) (H : Hs) (hF : 100 ≤ F) (hB : HB H) (L : Nat → Ly) (σ : xSt) (hM : MH σ H) (hL : MLs σ H L) : mX9_tellsAll F σ = some (allL H L (hT H), σ) := by
  have hb1 := hB.1
  exact m_tellsAllL F H hF hB L σ hM hL F 0 (by omega) (by omega)
