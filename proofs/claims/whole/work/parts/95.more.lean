abbrev hasB (b : Int32) (k : Nat) : Prop := (b >>> (nI k &&& 31)) &&& 1 = 1
theorem c_hold (F : Nat) (b : Int32) (k : Nat) (σ : xSt) : mX8_holds F b (nI k) σ = some (bI (hasB b k), σ) := c_holds F b (nI k) σ
theorem m_isI (F : Nat) (b : Int32) (k : Nat) (σ : xSt) : mX9_isIn F b (nI k) σ = some (bI (hasB b k), σ) := m_isIn F b (nI k) σ
def nwF (H : Hs) (D : Dy) (hr : Nat) (told : Int32) (b : Int32) (i : Nat) : Int32 := if D 1 i ≤ hr ∧ D 2 i < hT H ∧ D 3 i < hP H ∧ ¬ hasB told (hM H (D 3 i)) then b ||| (1 <<< (nI (D 3 i) &&& 31)) else b
theorem c_lacksT (F t : Nat) (ht : t < 1000) (σ : xSt) (H : Hs) (hB : HB H) (h : CH σ H) : mX2_lacksThing F (nI t) σ = some (bI (¬ (t < hT H)), σ) := by
  have hb2 := hB.1
  rw [c_lacksThing F (nI t) σ H h]
  congr 2
  by_cases q : t < hT H
  · rw [bI_nf q, bI_nf ⟨nI_pos (by omega), nI_lt q (by omega)⟩]
  · rw [bI_nt q, bI_nt (show ¬ (¬ nI t < 0 ∧ nI t < nI (hT H)) from fun z => absurd z.2 (nI_nlt (by omega) (by omega)))]
theorem c_nowL (F hr : Nat) (told : Int32) (H : Hs) (D : Dy) (hr1 : hr < 24) (hB : HB H) (σ : xSt) (hC : CH σ H) (hD : CD σ D) : ∀ (d fu i : Nat) (b : Int32), i + d = D 0 0 → d < fu → mX8_nowhere_L26 F fu (nI hr) told b (nI i) σ = some ((List.range' i d).foldl (nwF H D hr told) b, σ) := by
  have hb2 := hB.2.1
  obtain ⟨d0, ⟨c1, c2, c3⟩, d2, _⟩ := hD
  intro d
  induction d with
  | zero =>
    intro fu i b x y
    obtain ⟨fu, rfl⟩ : ∃ f, fu = f + 1 := ⟨fu - 1, by omega⟩
    show mX8_nowhere_S26 F (mX8_nowhere_L26 F fu) (nI hr) told b (nI i) σ = _
    unfold mX8_nowhere_S26 mX8_nowhere_L144
    rw [show xI σ (14 + 0) = nI (D 0 0) from c1, if_pos (nI_le (by omega) (by omega))]; rfl
  | succ d ih =>
    intro fu i b x y
    obtain ⟨fu, rfl⟩ : ∃ f, fu = f + 1 := ⟨fu - 1, by omega⟩
    obtain ⟨k0, k1, k2, k3⟩ := c2 i (by omega)
    obtain ⟨b2, b3⟩ := d2 i (by omega)
    show mX8_nowhere_S26 F (mX8_nowhere_L26 F fu) (nI hr) told b (nI i) σ = _
    unfold mX8_nowhere_S26 mX8_nowhere_L138
    simp only [show xI σ (14 + 0) = nI (D 0 0) from c1, eq_false (nI_ge (show i < D 0 0 by omega) (show D 0 0 < 2 ^ 31 by omega)), xin_nI (show i < lnT 0 by show _ < 44; omega) (show lnT 0 < 2 ^ 31 by decide), nI_clamp (show i < 2 ^ 31 by omega), show xA σ (15 + 0) i = nI (D 1 i) from k1, show xA σ (18 + 0) i = nI (D 2 i) from k2, show xA σ (21 + 0) i = nI (D 3 i) from k3, c_lacksT F (D 2 i) b2 σ H hB hC, c_lacksP F (D 3 i) b3 σ H hB hC, nI_1, xb1_s, xb2_s, xck_1, i10, i00, i11, ↓reduceIte]
    rw [List.range'_succ, List.foldl_cons]
    by_cases q1 : D 1 i ≤ hr
    · rw [if_neg (nI_nlt q1 (by omega))]
      by_cases q2 : D 2 i < hT H
      · by_cases q3 : D 3 i < hP H
        · obtain ⟨p1, p2, p3⟩ := hC.2.2.2 (D 3 i) q3
          simp only [bI_nf q2, bI_nf q3, xin_nI (show D 3 i < lnE 1 by show _ < 8; omega) (show lnE 1 < 2 ^ 31 by decide), nI_clamp (show D 3 i < 2 ^ 31 by omega), show xA σ (12 + 1) (D 3 i) = nI (hM H (D 3 i)) from p3, c_hold, xb1_s, xb2_s, xck_1, i10, i00, i11, ↓reduceIte]
          by_cases q4 : hasB told (hM H (D 3 i))
          · simp only [bI_t q4, xb1_s, xb2_s, xck_1, i10, i00, i11, ↓reduceIte]
            rw [ih fu (i + 1) _ (by omega) (by omega), show nwF H D hr told b i = b from if_neg (fun w => w.2.2.2 q4)]
          · simp only [bI_f q4, xb1_s, xb2_s, xck_1, i10, i00, i11, ↓reduceIte]
            rw [ih fu (i + 1) _ (by omega) (by omega), show nwF H D hr told b i = _ from if_pos ⟨q1, q2, q3, q4⟩]
        · simp only [bI_nf q2, bI_nt q3, xb1_s, xb2_s, xck_1, i10, i00, i11, ↓reduceIte]
          rw [ih fu (i + 1) _ (by omega) (by omega), show nwF H D hr told b i = b from if_neg (fun w => q3 w.2.2.1)]
      · simp only [bI_nt q2, xb1_s, xb2_s, xck_1, i10, i00, i11, ↓reduceIte]
        rw [ih fu (i + 1) _ (by omega) (by omega), show nwF H D hr told b i = b from if_neg (fun w => q2 w.2.1)]
    · rw [if_pos (nI_lt (by omega) (by omega)), ih fu (i + 1) _ (by omega) (by omega), show nwF H D hr told b i = b from if_neg (fun w => q1 w.1)]
theorem or0 (b : Int32) : b ||| 0 = b := Int32.or_zero
theorem m_nowL (F hr : Nat) (told : Int32) (H : Hs) (D : Dy) (hr1 : hr < 24) (hB : HB H) (σ : xSt) (hM' : MH σ H) (hD : MR σ D) : ∀ (d fu i : Nat) (b : Int32), i + d = D 0 0 → d < fu → mX9_nowhereOf_L15 F fu (nI hr) told b (nI i) σ = some ((List.range' i d).foldl (nwF H D hr told) b, σ) := by
  have hb1 := hB.1
  have hb2 := hB.2.1
  obtain ⟨d0, c1, c2, _⟩ := hD
  intro d
  induction d with
  | zero =>
    intro fu i b x y
    obtain ⟨fu, rfl⟩ : ∃ f, fu = f + 1 := ⟨fu - 1, by omega⟩
    show mX9_nowhereOf_S15 F (mX9_nowhereOf_L15 F fu) (nI hr) told b (nI i) σ = _
    unfold mX9_nowhereOf_S15 mX9_nowhereOf_L109
    rw [c1, if_pos (nI_le (by omega) (by omega))]; rfl
  | succ d ih =>
    intro fu i b x y
    obtain ⟨fu, rfl⟩ : ∃ f, fu = f + 1 := ⟨fu - 1, by omega⟩
    obtain ⟨k1, k2, k3, k4, k5, k6⟩ := c2 i (by omega)
    show mX9_nowhereOf_S15 F (mX9_nowhereOf_L15 F fu) (nI hr) told b (nI i) σ = _
    unfold mX9_nowhereOf_S15 mX9_nowhereOf_L84 mX9_nowhereOf_L85 mX9_nowhereOf_L101
    simp only [c1, eq_false (nI_ge (show i < D 0 0 by omega) (show D 0 0 < 2 ^ 31 by omega)), xin_nI (show i < 44 by omega) (by omega), nI_clamp (show i < 2 ^ 31 by omega), k1, k2, k3, hM'.1, hM'.2.2.1, nI_1, or0, xb1_s, xb2_s, xck_1, i10, i00, i11, ↓reduceIte]
    rw [List.range'_succ, List.foldl_cons]
    by_cases q1 : D 1 i ≤ hr
    · rw [if_neg (nI_nlt q1 (by omega))]
      by_cases q3 : D 3 i < hP H
      · rw [if_neg (nI_ge q3 (by omega))]
        by_cases q2 : D 2 i < hT H
        · rw [if_neg (nI_ge q2 (by omega)), m_smellOf F (D 3 i) hM' hB q3, xb2_s, m_isI, xb2_s]
          by_cases q4 : hasB told (hM H (D 3 i))
          · simp only [bI_t q4, xb1_s, xb2_s, xck_1, i10, i00, i11, ↓reduceIte]
            rw [ih fu (i + 1) _ (by omega) (by omega), show nwF H D hr told b i = b from if_neg (fun w => w.2.2.2 q4)]
          · simp only [bI_f q4, xb1_s, xb2_s, xck_1, i10, i00, i11, ↓reduceIte]
            rw [ih fu (i + 1) _ (by omega) (by omega), show nwF H D hr told b i = _ from if_pos ⟨q1, q2, q3, q4⟩]
        · rw [if_pos (nI_le (by omega) (by omega)), ih fu (i + 1) _ (by omega) (by omega), show nwF H D hr told b i = b from if_neg (fun w => q2 w.2.1)]
      · rw [if_pos (nI_le (by omega) (by omega)), ih fu (i + 1) _ (by omega) (by omega), show nwF H D hr told b i = b from if_neg (fun w => q3 w.2.2.1)]
    · rw [if_pos (nI_lt (by omega) (by omega)), ih fu (i + 1) _ (by omega) (by omega), show nwF H D hr told b i = b from if_neg (fun w => q1 w.1)]
theorem p_nowhere (F : Nat) (hF : 5000 ≤ F) : zP_nowhere F Rel := by
  intro σc σm hR h
  obtain ⟨H, D, hH⟩ := Hse_of hR
  have hB := hH.1
  unfold mX8_nowhere mX9_nowhere mX9_nowhere_L17
  by_cases h1 : 0 ≤ h ∧ h ≤ 23
  · obtain ⟨hr, hr1, rfl⟩ := rngI (n := 23) (by decide) (by decide) h1
    obtain ⟨σc', b1, b2⟩ := c_allTell F hr (by omega) (by omega) hH
    obtain ⟨σ2, c1, c2, c3, c4⟩ := m_runsTold F hr (by omega) (by omega) hH
    have hH' := Hse_m (Hse_c hH b2) c2
    have hd := hH'.2.2.2.2.1.1
    have e1 := c_nowL F hr (allL H (fun t => dayL H D t (hr + 1)) (hT H)) H D (by omega) hB σc' hH'.2.1 hH'.2.2.1 (D 0 0) F 0 0 (by omega) (by omega)
    have e2 := m_nowL F hr (allL H (fun t => dayL H D t (hr + 1)) (hT H)) H D (by omega) hB σ2 c3 hH'.2.2.2.2.1 (D 0 0) F 0 0 (by omega) (by omega)
    unfold mX9_nowhereOf
    simp only [c_noHour, m_isHour, bI_nf h1, bI_t h1, b1, c1, m_tellsAll F H (by omega) hB _ σ2 c3 c4, xb1_s, xb2_s, xck_1, i10, i00, i11, ↓reduceIte]
    rw [show (0 : Int32) = nI 0 from rfl]
    rw [show (0 : Int32) = nI 0 from rfl] at e1 e2
    rw [e1, e2, xb2_s]
    exact ⟨_, _, _, rfl, rfl, Rel_cm hR b2 c2⟩
  · simp only [c_noHour, m_isHour, bI_nt h1, bI_f h1, xb1_s, xb2_s, xck_1, i10, i00, i11, ↓reduceIte]
    exact ⟨_, _, _, rfl, rfl, hR⟩
/-! the last hour of a smell -/
def lastS (f : Nat → Bool) : Nat → Int32
  | 0 => -1
  | n + 1 => if f n then nI n else lastS f n
def tlB (H : Hs) (D : Dy) (t s h : Nat) : Bool := decide (hasB (toldL (hN H t) (dayL H D t (h + 1))) s)
theorem tlB_t {H : Hs} {D : Dy} {t s h : Nat} (q : tlB H D t s h = true) : hasB (toldL (hN H t) (dayL H D t (h + 1))) s := of_decide_eq_true q
theorem tlB_f {H : Hs} {D : Dy} {t s h : Nat} (q : ¬ tlB H D t s h = true) : ¬ hasB (toldL (hN H t) (dayL H D t (h + 1))) s := fun w => q (decide_eq_true w)
theorem c_lastL {σm : xSt} {H : Hs} {D : Dy} (F t s : Nat) (hF : 100 ≤ F) (ht : t < hT H) : ∀ (n fu : Nat) (σ : xSt), n ≤ 24 → n < fu → Hse σ σm H D → ∃ σ', mX8_last_L28 F fu (nI t) (nI s) (nI n - 1) σ = some (lastS (tlB H D t s) n, σ') ∧ xFr [1, 2] [2, 3, 4] σ σ' := by
  intro n
  induction n with
  | zero =>
    intro fu σ a b hH
    obtain ⟨fu, rfl⟩ : ∃ f, fu = f + 1 := ⟨fu - 1, by omega⟩
    show ∃ σ', mX8_last_S28 F (mX8_last_L28 F fu) (nI t) (nI s) (nI 0 - 1) σ = _ ∧ _
    unfold mX8_last_S28 mX8_last_L57
    rw [if_pos (by decide)]
    exact ⟨σ, rfl, xFr_rf⟩
  | succ n ih =>
    intro fu σ a b hH
    obtain ⟨fu, rfl⟩ : ∃ f, fu = f + 1 := ⟨fu - 1, by omega⟩
    show ∃ σ', mX8_last_S28 F (mX8_last_L28 F fu) (nI t) (nI s) (nI (n + 1) - 1) σ = _ ∧ _
    unfold mX8_last_S28 mX8_last_L49
    obtain ⟨σ1, b1, b2, b3⟩ := c_tells0 F t n hF ht (by omega) hH
    have e1 : nI n + (-1) = nI n - 1 := by rw [Int32.sub_eq_add_neg]
    rw [nI_pred, if_neg (nI_pos (by omega)), b1, xb2_s, c_hold, xb2_s, e1]
    by_cases q : tlB H D t s n = true
    · rw [bI_t (tlB_t q), if_neg (by decide)]
      exact ⟨σ1, by show _ = some (if tlB H D t s n then nI n else _, σ1); rw [if_pos q], b2⟩
    · rw [bI_f (tlB_f q), if_pos rfl]
      obtain ⟨σ', z1, z2⟩ := ih fu σ1 (by omega) (by omega) (Hse_c hH b2)
      exact ⟨σ', by show _ = some (if tlB H D t s n then nI n else _, σ'); rw [if_neg q]; exact z1, xFr_tr b2 z2⟩
theorem m_lastL {H : Hs} {D : Dy} (F t s : Nat) (hF : 100 ≤ F) (hB : HB H) (ht : t < hT H) (h7 : ∀ x, D 7 x = 0) : ∀ (fu n : Nat) (σ : xSt), n ≤ 24 → 24 < n + fu → MH σ H → MD σ D → MLs σ H (fun t => dayL H D t n) →
    ∃ σ', mX9_lastOf_L17 F fu (nI t) (nI s) (lastS (tlB H D t s) n) (nI n) σ = some (lastS (tlB H D t s) 24, σ') ∧ xFr mI mA σ σ' := by
  intro fu
  induction fu with
  | zero => intro n σ a b; omega
  | succ fu ih =>
    intro n σ a b hM' hD hL
    show ∃ σ', mX9_lastOf_S17 F (mX9_lastOf_L17 F fu) (nI t) (nI s) _ (nI n) σ = _ ∧ _
    unfold mX9_lastOf_S17 mX9_lastOf_L55 mX9_lastOf_L48
    by_cases q : n = 24
    · subst q
      rw [if_pos (by decide)]
      exact ⟨σ, rfl, xFr_rf⟩
    · rw [if_neg (show ¬ ((24 : Int32) ≤ nI n) from nI_ge (b := 24) (by omega) (by omega))]
      obtain ⟨σ1, w1, w2, w3⟩ := m_goesBy F n H D hF (by omega) hB σ _ hM' hD hL (fun q => by rw [h7 n] at q; omega)
      have hM1 := MH_l hM' w2
      rw [w1, xb1_s, m_tellsNow F t H hF hB ht _ σ1 hM1 (w3 t ht).1, xb2_s, m_isI, xb2_s, nI_1]
      obtain ⟨σ', z1, z2⟩ := ih (n + 1) σ1 (by omega) (by omega) hM1 (MD_l hD w2) w3
      refine ⟨σ', ?_, xFr_tr (xFr_mono w2 (by simp) (by simp)) z2⟩
      rw [← z1]
      show _ = mX9_lastOf_L17 F fu (nI t) (nI s) (if tlB H D t s n then nI n else lastS (tlB H D t s) n) (nI (n + 1)) σ1
      by_cases q2 : tlB H D t s n = true
      · rw [show bI (hasB (toldL (hN H t) (hourL H D t n (dayL H D t n))) s) = 1 from bI_t (tlB_t q2), if_neg (by decide), if_pos q2]
      · rw [show bI (hasB (toldL (hN H t) (hourL H D t n (dayL H D t n))) s) = 0 from bI_f (tlB_f q2), if_pos rfl, if_neg q2]
theorem p_last (F : Nat) (hF : 5000 ≤ F) : zP_last F Rel := by
  intro σc σm hR t s
  obtain ⟨H, D, hH⟩ := Hse_of hR
  have hB := hH.1
  have hb1 := hB.1
  have hb2 := hB.2.1
  unfold mX8_last mX9_last mX8_last_L22 mX9_last_L25 mX9_last_L27
  obtain ⟨σ1, a1, a2⟩ := m_isThing' F t (by omega) hB hH.2.2.2.1
  have hH1 := Hse_m hH a2
  simp only [a1, c_lacksThing F t σc H hH.2.1, xb1_s, xb2_s, xck_1, i10, i00, i11, ↓reduceIte]
  by_cases h2 : ¬ t < 0 ∧ t < nI (hT H)
  · obtain ⟨tt, ht, rfl⟩ := lt_of_nI (by omega) h2.1 h2.2
    obtain ⟨σ2, d1, d2⟩ := m_isPerson' F s (by omega) hB hH1.2.2.2.1
    have hH2 := Hse_m hH1 d2
    simp only [bI_nf h2, bI_t h2, d1, c_lacksPerson F s σc H hH.2.1, xb1_s, xb2_s, xck_1, i10, i00, i11, ↓reduceIte]
    by_cases h3 : ¬ s < 0 ∧ s < nI (hP H)
    · obtain ⟨ss, hs, rfl⟩ := lt_of_nI (by omega) h3.1 h3.2
      simp only [bI_nf h3, bI_t h3, xb1_s, xb2_s, xck_1, i10, i00, i11, ↓reduceIte]
      obtain ⟨σc', e1, e2⟩ := c_lastL F tt ss (by omega) ht 24 F σc (by omega) (by omega) hH2
      obtain ⟨σ3, f1, f2, f3⟩ := m_reads F (by omega) hH2.2.2.2.1
      obtain ⟨σ4, g1, g2, g3, g4⟩ := m_asTold F f2 (MR_fr hH2.2.2.2.2.1 f3) hH.2.2.2.2.2.1 hH.2.2.2.2.2.2
      obtain ⟨σ5, k1, k2, k3⟩ := m_begins F H (by omega) hB σ4
      obtain ⟨σ6, l1, l2⟩ := m_lastL F tt ss (by omega) hB ht hH.2.2.2.2.2.1 F 0 σ5 (by omega) (by omega) (MH_l g3 k2) (MD_l g2 k2) k3
      refine ⟨lastS (tlB H D tt ss) 24, σc', σ6, e1, ?_, Rel_cm hR e2 (xFr_tr (xFr_tr (xFr_tr (xFr_tr (xFr_tr a2 d2) f3) g4) (xFr_mono k2 (by simp) (by simp))) l2)⟩
      unfold mX9_lastOf
      rw [f1, xb1_s, g1, xb1_s, k1, xb1_s]
      rw [show mX9_lastOf_L17 F F (nI tt) (nI ss) (-1) 0 σ5 = _ from l1, xb2_s]
    · simp only [bI_nt h3, bI_f h3, xb1_s, xb2_s, xck_1, i10, i00, i11, ↓reduceIte]
      exact ⟨_, _, _, rfl, rfl, Rel_cm hR xFr_rf (xFr_tr a2 d2)⟩
  · simp only [bI_nt h2, bI_f h2, xb1_s, xb2_s, xck_1, i10, i00, i11, ↓reduceIte]
    exact ⟨_, _, _, rfl, rfl, Rel_cm hR xFr_rf a2⟩
