/-- what a fraction becomes -/
def frA (a b : Nat) : Nat := if a = 0 ∨ b = 0 then 0 else a / Nat.gcd a b
def frB (a b : Nat) : Nat := if a = 0 ∨ b = 0 then 1 else b / Nat.gcd a b
theorem c_become (F a b : Nat) (σ : xSt) (hF : 500 ≤ F) (ha : a < 2 ^ 62) (hb : b < 2 ^ 62) : mX0_become F (lN a) (lN b) σ = some (xsL (xsL σ 0 (lN (frA a b))) 1 (lN (frB a b))) := by
  unfold mX0_become
  have key : ∀ x y, x < 2 ^ 62 → y < 2 ^ 62 → Nat.gcd x y = Nat.gcd a b → mX0_become_L17 F F (lN a) (lN b) (lN x) (lN y) 0 σ = some (xsL (xsL σ 0 (lN (frA a b))) 1 (lN (frB a b))) := by
    intro x y hx hy e
    rw [show (0 : Int32) = nI 0 from rfl, c_gcdL F a b σ 62 x y F 0 hx hy (by omega) (by omega) (by omega), e]
    have hg : Nat.gcd a b < 2 ^ 63 := by
      by_cases q : a = 0
      · rw [q, Nat.gcd_zero_left]; omega
      · have := Nat.gcd_le_left b (show 0 < a by omega); omega
    unfold mX0_become_L53 mX0_become_L72 mX0_become_L77 mX0_become_L93 mX0_become_L110 frA frB
    rw [l_cmp0 (by omega), l_cmp0 (by omega), l_cmp0 hg]
    by_cases qa : a = 0
    · simp only [qa, true_or, i10, i00, i11, ↓reduceIte]; rfl
    · by_cases qb : b = 0
      · simp only [qa, qb, or_true, i10, i00, i11, ↓reduceIte]; rfl
      · have qg : 0 < Nat.gcd a b := Nat.gcd_pos_of_pos_left b (by omega)
        have qg' : ¬ Nat.gcd a b = 0 := by omega
        simp only [qa, qb, qg', or_self, i10, i00, i11, l_nz hg qg, l_div (show a < 2 ^ 63 by omega) hg qg, l_div (show b < 2 ^ 63 by omega) hg qg, xck_1, ↓reduceIte]
  by_cases q : b < a
  · have q' : lN b < lN a := (l_lt (by omega) (by omega)).mpr q
    rw [if_pos q', if_pos q']
    exact key a b ha hb rfl
  · have q' : ¬ (lN b < lN a) := fun w => q ((l_lt (by omega) (by omega)).mp w)
    rw [if_neg q', if_neg q']
    exact key b a hb ha (Nat.gcd_comm b a)
theorem m_lowest (F a b : Nat) (w : Int32) (σ : xSt) (hF : 500 ≤ F) (ha : a < 2 ^ 62) (hb : b < 2 ^ 62) (h0 : 0 < b) : mX9_lowest F (lN a) (lN b) w σ = some (if w = 0 then lN (frA a b) else lN (frB a b), σ) := by
  unfold mX9_lowest
  rw [m_gcdL F a b w σ 62 a b F ha hb (by omega) (by omega)]
  unfold mX9_lowest_L31 mX9_lowest_L47
  have qg : 0 < Nat.gcd a b := Nat.gcd_pos_of_pos_right a h0
  have hg : Nat.gcd a b < 2 ^ 63 := by have := Nat.gcd_le_right a h0; omega
  rw [l_nz hg qg, l_div (show a < 2 ^ 63 by omega) hg qg, l_div (show b < 2 ^ 63 by omega) hg qg]
  have eA : frA a b = a / Nat.gcd a b := by
    unfold frA
    by_cases q : a = 0
    · rw [if_pos (Or.inl q), q, Nat.zero_div]
    · rw [if_neg (by omega)]
  have eB : frB a b = b / Nat.gcd a b := by
    unfold frB
    by_cases q : a = 0
    · rw [if_pos (Or.inl q), q, Nat.gcd_zero_left, Nat.div_self h0]
    · rw [if_neg (by omega)]
  rw [eA, eB]
  by_cases q : w = 0
  · simp only [q, xck_1, ↓reduceIte]
  · simp only [q, xck_1, ↓reduceIte]
/-- how many of the hours tell -/
def fdN (H : Hs) (D : Dy) (t s x n : Nat) : Nat := fb_ct (fun h => x.testBit h && tlB H D t s h) n
theorem fdN_s {H : Hs} {D : Dy} {t s x n : Nat} : fdN H D t s x (n + 1) = fdN H D t s x n + (if (x.testBit n && tlB H D t s n) then 1 else 0) := rfl
theorem fdN_le {H : Hs} {D : Dy} {t s x n : Nat} : fdN H D t s x n ≤ n := fb_ct_le _ n
theorem c_foundL {σm : xSt} {H : Hs} {D : Dy} (F t s x : Nat) (w : Int32) (hF : 100 ≤ F) (ht : t < hT H) (hx : x < 2 ^ 24) : ∀ (fu n : Nat) (σ : xSt), n ≤ 24 → 24 < n + fu → Hse σ σm H D → ∃ σ', mX8_found_L55 F fu (nI x) (nI t) (nI s) w (nI (fdN H D t s x n)) (nI n) σ = mX8_found_L98 F (nI x) w (nI (fdN H D t s x 24)) σ' ∧ xFr [1, 2] [2, 3, 4] σ σ' := by
  intro fu
  induction fu with
  | zero => intro n σ a b; omega
  | succ fu ih =>
    intro n σ a b hH
    show ∃ σ', mX8_found_S55 F (mX8_found_L55 F fu) (nI x) (nI t) (nI s) w (nI (fdN H D t s x n)) (nI n) σ = _ ∧ _
    unfold mX8_found_S55 mX8_found_L92
    by_cases q : n = 24
    · subst q
      rw [if_pos (by decide)]
      exact ⟨σ, rfl, xFr_rf⟩
    · rw [if_neg (show ¬ ((24 : Int32) ≤ nI n) from nI_ge (b := 24) (by omega) (by omega)), c_hold, xb2_s, nI_1]
      by_cases q1 : x.testBit n = true
      · rw [bI_t ((hasB_t x n (by omega) (by omega)).mpr q1), if_neg (by decide)]
        obtain ⟨σ1, b1, b2, b3⟩ := c_tells0 F t n hF ht (by omega) hH
        rw [b1, xb2_s, c_hold, xb2_s, nI_1]
        obtain ⟨σ', z1, z2⟩ := ih (n + 1) σ1 (by omega) (by omega) (Hse_c hH b2)
        refine ⟨σ', ?_, xFr_tr b2 z2⟩
        rw [← z1, fdN_s, q1, Bool.true_and]
        by_cases q2 : tlB H D t s n = true
        · rw [bI_t (tlB_t q2), if_neg (by decide), if_pos q2]
        · rw [bI_f (tlB_f q2), if_pos rfl, if_neg q2]; rfl
      · rw [bI_f (fun z => q1 ((hasB_t x n (by omega) (by omega)).mp z)), if_pos rfl]
        obtain ⟨σ', z1, z2⟩ := ih (n + 1) σ (by omega) (by omega) hH
        refine ⟨σ', ?_, z2⟩
        have q1' : x.testBit n = false := by cases h : x.testBit n with
          | true => exact absurd h q1
          | false => rfl
        rw [← z1, fdN_s, q1', Bool.false_and]; rfl
theorem m_foundL {H : Hs} {D : Dy} (F t s x : Nat) (w : Int32) (hF : 100 ≤ F) (hB : HB H) (ht : t < hT H) (hx : x < 2 ^ 24) (h7 : ∀ x, D 7 x = 0) : ∀ (fu n : Nat) (σ : xSt), n ≤ 24 → 24 < n + fu → MH σ H → MD σ D → MLs σ H (fun t => dayL H D t n) →
    ∃ σ', mX9_foundOf_L18 F fu (nI x) (nI t) (nI s) w (nI (fdN H D t s x n)) (nI n) σ = mX9_foundOf_L68 F (nI x) w (nI (fdN H D t s x 24)) σ' ∧ xFr mI mA σ σ' := by
  intro fu
  induction fu with
  | zero => intro n σ a b; omega
  | succ fu ih =>
    intro n σ a b hM' hD hL
    show ∃ σ', mX9_foundOf_S18 F (mX9_foundOf_L18 F fu) (nI x) (nI t) (nI s) w (nI (fdN H D t s x n)) (nI n) σ = _ ∧ _
    unfold mX9_foundOf_S18 mX9_foundOf_L58 mX9_foundOf_L59
    by_cases q : n = 24
    · subst q
      rw [if_pos (by decide)]
      exact ⟨σ, rfl, xFr_rf⟩
    · rw [if_neg (show ¬ ((24 : Int32) ≤ nI n) from nI_ge (b := 24) (by omega) (by omega))]
      obtain ⟨σ1, w1, w2, w3⟩ := m_goesBy F n H D hF (by omega) hB σ _ hM' hD hL (fun q => by rw [h7 n] at q; omega)
      have hM1 := MH_l hM' w2
      obtain ⟨σ', z1, z2⟩ := ih (n + 1) σ1 (by omega) (by omega) hM1 (MD_l hD w2) w3
      refine ⟨σ', ?_, xFr_tr (xFr_mono w2 (by simp) (by simp)) z2⟩
      rw [w1, xb1_s, m_isI, xb2_s, nI_1, ← z1, fdN_s]
      have e0 : nI (fdN H D t s x n) + 0 = nI (fdN H D t s x n + 0) := nI_add _ 0
      by_cases q1 : x.testBit n = true
      · rw [bI_t ((hasB_t x n (by omega) (by omega)).mpr q1), if_neg (by decide), m_tellsNow F t H hF hB ht _ σ1 hM1 (w3 t ht).1, xb2_s, m_isI, xb2_s, q1, Bool.true_and]
        by_cases q2 : tlB H D t s n = true
        · rw [show bI (hasB (toldL (hN H t) (hourL H D t n (dayL H D t n))) s) = 1 from bI_t (tlB_t q2), if_neg (by decide), if_pos q2, nI_1]
        · rw [show bI (hasB (toldL (hN H t) (hourL H D t n (dayL H D t n))) s) = 0 from bI_f (tlB_f q2), if_pos rfl, if_neg q2, e0]
      · have q1' : x.testBit n = false := by cases h : x.testBit n with
          | true => exact absurd h q1
          | false => rfl
        rw [bI_f (fun z => q1 ((hasB_t x n (by omega) (by omega)).mp z)), if_pos rfl, q1', Bool.false_and, e0]; rfl
theorem pc0_iff {x : Nat} (hx : x < 2 ^ 24) (h : pc x 24 = 0) : x = 0 := by
  have := fb_ct_zero.mp h
  apply Nat.eq_of_testBit_eq
  intro j
  rw [Nat.zero_testBit]
  by_cases q : j < 24
  · exact this j q
  · exact Nat.testBit_lt_two_pow (Nat.lt_of_lt_of_le hx (Nat.pow_le_pow_right (by omega) (by omega)))
theorem Rel_L {σc σm : xSt} (h : Rel σc σm) (k : Nat) (v : Int64) : Rel (xsL σc k v) σm := h
theorem p_found (F : Nat) (hF : 5000 ≤ F) : zP_found F Rel := by
  intro σc σm hR x t s w
  obtain ⟨H, D, hH⟩ := Hse_of hR
  have hB := hH.1
  have hb1 := hB.1
  have hb2 := hB.2.1
  unfold mX8_found mX9_found mX8_found_L43 mX8_longRefusal mX9_found_L31 mX9_found_L32 mX9_found_L61 mX9_found_L66 mX9_no
  have ex : (0 ≤ x ∧ x ≤ 16777215) ↔ ¬ x < 0 ∧ ¬ (16777215 < x) := by rw [Int32.not_lt, Int32.not_lt]
  by_cases h1 : 0 ≤ x ∧ x ≤ 16777215
  · obtain ⟨h1a, h1b⟩ := ex.mp h1
    obtain ⟨x', hx', rfl⟩ := rngI (n := 16777215) (by decide) (by decide) h1
    simp only [m_in, bI_t h1, xb1_s, xb2_s, xck_1, i10, i00, i11, ↓reduceIte]
    simp only [h1a, h1b, xb1_s, xb2_s, xck_1, i10, i00, i11, ↓reduceIte]
    obtain ⟨σ1, a1, a2⟩ := m_isThing' F t (by omega) hB hH.2.2.2.1
    have hH1 := Hse_m hH a2
    simp only [a1, c_lacksThing F t σc H hH.2.1, xb1_s, xb2_s, xck_1, i10, i00, i11, ↓reduceIte]
    by_cases h2 : ¬ t < 0 ∧ t < nI (hT H)
    · obtain ⟨tt, ht, rfl⟩ := lt_of_nI (by omega) h2.1 h2.2
      obtain ⟨σ2, d1, d2⟩ := m_isPerson' F s (by omega) hB hH1.2.2.2.1
      have hH2 := Hse_m hH1 d2
      simp only [bI_nf h2, bI_t h2, d1, c_lacksPerson F s σc H hH.2.1, xb1_s, xb2_s, xck_1, i10, i00, i11, ↓reduceIte]
      by_cases h3 : ¬ s < 0 ∧ s < nI (hP H)
      · obtain ⟨ss, hs, rfl⟩ := lt_of_nI (by omega) h3.1 h3.2
        have ew : (0 ≤ w ∧ w ≤ 1) ↔ ¬ w < 0 ∧ w ≤ 1 := by rw [Int32.not_lt]
        simp only [bI_nf h3, bI_t h3, xb1_s, xb2_s, xck_1, i10, i00, i11, ↓reduceIte]
        by_cases h4 : 0 ≤ w ∧ w ≤ 1
        · obtain ⟨h4a, h4b⟩ := ew.mp h4
          simp only [bI_t h4, xb1_s, xb2_s, xck_1, i10, i00, i11, ↓reduceIte]
          simp only [h4a, h4b, xb1_s, xb2_s, xck_1, i10, i00, i11, ↓reduceIte]
          obtain ⟨σc', e1, e2⟩ := c_foundL F tt ss x' w (by omega) ht (by omega) F 0 σc (by omega) (by omega) hH2
          obtain ⟨σ3, f1, f2, f3⟩ := m_reads F (by omega) hH2.2.2.2.1
          obtain ⟨σ4, g1, g2, g3, g4⟩ := m_asTold F f2 (MR_fr hH2.2.2.2.2.1 f3) hH.2.2.2.2.2.1 hH.2.2.2.2.2.2
          obtain ⟨σ5, k1, k2, k3⟩ := m_begins F H (by omega) hB σ4
          obtain ⟨σ6, l1, l2⟩ := m_foundL F tt ss x' w (by omega) hB ht (by omega) hH.2.2.2.2.2.1 F 0 σ5 (by omega) (by omega) (MH_l g3 k2) (MD_l g2 k2) k3
          have hRel : Rel σc' σ6 := Rel_cm hR e2 (xFr_tr (xFr_tr (xFr_tr (xFr_tr (xFr_tr a2 d2) f3) g4) (xFr_mono k2 (by simp) (by simp))) l2)
          unfold mX9_foundOf
          rw [f1, xb1_s, g1, xb1_s, k1, xb1_s]
          rw [show mX9_foundOf_L18 F F (nI x') (nI tt) (nI ss) w 0 0 σ5 = _ from l1, show mX8_found_L55 F F (nI x') (nI tt) (nI ss) w 0 0 σc = _ from e1]
          unfold mX8_found_L98 mX9_foundOf_L68 mX9_foundOf_L84 mX8_found_L135
          have hn := @fdN_le H D tt ss x' 24
          have hp : pc x' 24 ≤ 24 := fb_ct_le _ 24
          rw [c_bitCount F x' (by omega), xb2_s, l_i (by omega), l_i (by omega), c_become F _ _ σc' (by omega) (by omega) (by omega), xb1_s, m_ones F x' (by omega) (by omega), xb2_s, l_i (show pc x' 24 < 2 ^ 31 by omega)]
          simp only [nI_eq0 (show x' < 2 ^ 31 by omega)]
          have c0 : xL (xsL (xsL σc' 0 (lN (frA (fdN H D tt ss x' 24) (pc x' 24)))) 1 (lN (frB (fdN H D tt ss x' 24) (pc x' 24)))) 0 = lN (frA (fdN H D tt ss x' 24) (pc x' 24)) := by rw [xL_sL, if_neg (by decide), xL_sL, if_pos rfl]
          have c1 : xL (xsL (xsL σc' 0 (lN (frA (fdN H D tt ss x' 24) (pc x' 24)))) 1 (lN (frB (fdN H D tt ss x' 24) (pc x' 24)))) 1 = lN (frB (fdN H D tt ss x' 24) (pc x' 24)) := by rw [xL_sL, if_pos rfl]
          rw [c0, c1]
          have em : (if x' = 0 then xb2 (mX9_lowest F (lN (fdN H D tt ss x' 24)) 1 w σ6) (fun r86 σ86 => some (r86, σ86)) else xb2 (mX9_lowest F (lN (fdN H D tt ss x' 24)) (lN (pc x' 24)) w σ6) (fun r86 σ86 => some (r86, σ86))) = some (if w = 0 then lN (frA (fdN H D tt ss x' 24) (pc x' 24)) else lN (frB (fdN H D tt ss x' 24) (pc x' 24)), σ6) := by
            by_cases q : x' = 0
            · have z : fdN H D tt ss x' 24 = 0 := fb_ct_zero.mpr (fun j _ => by rw [q, Nat.zero_testBit, Bool.false_and])
              have z2 : pc x' 24 = 0 := fb_ct_zero.mpr (fun j _ => by rw [q, Nat.zero_testBit])
              rw [if_pos q, z, z2, show (1 : Int64) = lN 1 from rfl, m_lowest F 0 1 w σ6 (by omega) (by omega) (by omega) (by omega), xb2_s]
              rfl
            · have z2 : 0 < pc x' 24 := by
                rcases Nat.eq_zero_or_pos (pc x' 24) with e | e
                · exact absurd (pc0_iff (by omega) e) q
                · exact e
              rw [if_neg q, m_lowest F _ _ w σ6 (by omega) (by omega) (by omega) z2, xb2_s]
          rw [em, xb2_s]
          by_cases q : w = 0
          · simp only [q, ↓reduceIte]; exact ⟨_, _, _, rfl, rfl, hRel⟩
          · simp only [q, ↓reduceIte]; exact ⟨_, _, _, rfl, rfl, hRel⟩
        · simp only [bI_f h4, xb1_s, xb2_s, xck_1, i10, i00, i11, ↓reduceIte]
          refine ⟨_, σc, _, ?_, rfl, Rel_cm hR xFr_rf (xFr_tr a2 d2)⟩
          by_cases q : w < 0
          · simp only [q, xb1_s, xb2_s, xck_1, i10, i00, i11, ↓reduceIte]
          · have q2 : ¬ w ≤ 1 := fun z => h4 (ew.mpr ⟨q, z⟩)
            simp only [q, q2, xb1_s, xb2_s, xck_1, i10, i00, i11, ↓reduceIte]
      · simp only [bI_nt h3, bI_f h3, xb1_s, xb2_s, xck_1, i10, i00, i11, ↓reduceIte]
        exact ⟨_, _, _, rfl, rfl, Rel_cm hR xFr_rf (xFr_tr a2 d2)⟩
    · simp only [bI_nt h2, bI_f h2, xb1_s, xb2_s, xck_1, i10, i00, i11, ↓reduceIte]
      exact ⟨_, _, _, rfl, rfl, Rel_cm hR xFr_rf a2⟩
  · simp only [m_in, bI_f h1, xb1_s, xb2_s, xck_1, i10, i00, i11, ↓reduceIte]
    refine ⟨_, σc, _, ?_, rfl, hR⟩
    by_cases q : x < 0
    · simp only [q, xb1_s, xb2_s, xck_1, i10, i00, i11, ↓reduceIte]
    · have q2 : (16777215 : Int32) < x := by
        by_cases z : (16777215 : Int32) < x
        · exact z
        · exact absurd (ex.mpr ⟨q, z⟩) h1
      simp only [q, q2, xb1_s, xb2_s, xck_1, i10, i00, i11, ↓reduceIte]
