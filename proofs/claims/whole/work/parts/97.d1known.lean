/-! ===== known ===== -/
def selL (H : Hs) (L : Nat → Ly) (x : Nat) : Nat → Int32
  | 0 => 0
  | n + 1 => if x.testBit n then selL H L x n ||| toldL (hN H n) (L n) else selL H L x n
theorem c_selL {σm : xSt} {H : Hs} {D : Dy} (F hr x : Nat) (hF : 100 ≤ F) (hr1 : hr < 24) (hx : x < 2 ^ 24) : ∀ (fu a : Nat) (σ : xSt), a ≤ hT H → hT H < a + fu → Hse σ σm H D →
    ∃ σ', mX2_allTell_L5 F fu (nI hr) (nI x) (selL H (fun t => dayL H D t (hr + 1)) x a) (nI a) σ = some (selL H (fun t => dayL H D t (hr + 1)) x (hT H), σ') ∧ xFr [1, 2] [2, 3, 4] σ σ' := by
  intro fu
  induction fu with
  | zero => intro a σ x y; omega
  | succ fu ih =>
    intro a σ h1 h2 hH
    have hb1 := hH.1.1
    show ∃ σ', mX2_allTell_S5 F (mX2_allTell_L5 F fu) (nI hr) (nI x) _ (nI a) σ = _ ∧ _
    unfold mX2_allTell_S5 mX2_allTell_L43 mX2_allTell_L37
    rw [show xI σ (12 + 0) = nI (hT H) from hH.2.1.1]
    by_cases q : a = hT H
    · rw [if_pos (by rw [q]; exact nI_le (Nat.le_refl _) (by omega)), q]
      exact ⟨σ, rfl, xFr_rf⟩
    · rw [if_neg (nI_ge (by omega) (by omega)), c_hold, xb2_s, nI_1]
      by_cases q2 : x.testBit a = true
      · rw [bI_t ((hasB_t x a (by omega) (by omega)).mpr q2), if_neg (by decide)]
        obtain ⟨σ1, b1, b2, b3⟩ := c_tells0 F a hr hF (by omega) hr1 hH
        rw [b1, xb2_s]
        obtain ⟨σ', z1, z2⟩ := ih (a + 1) σ1 (by omega) (by omega) (Hse_c hH b2)
        refine ⟨σ', ?_, xFr_tr b2 z2⟩
        rw [← z1]
        show _ = mX2_allTell_L5 F fu (nI hr) (nI x) (if x.testBit a then _ else _) (nI (a + 1)) σ1
        rw [if_pos q2]
      · rw [bI_f (fun z => q2 ((hasB_t x a (by omega) (by omega)).mp z)), if_pos rfl]
        obtain ⟨σ', z1, z2⟩ := ih (a + 1) σ (by omega) (by omega) hH
        refine ⟨σ', ?_, z2⟩
        rw [← z1]
        show _ = mX2_allTell_L5 F fu (nI hr) (nI x) (if x.testBit a then _ else _) (nI (a + 1)) σ
        rw [if_neg q2]
theorem c_sel {σc σm : xSt} {H : Hs} {D : Dy} (F hr x : Nat) (hF : 100 ≤ F) (hr1 : hr < 24) (hx : x < 2 ^ 24) (hH : Hse σc σm H D) : ∃ σ', mX2_allTell F (nI hr) (nI x) σc = some (selL H (fun t => dayL H D t (hr + 1)) x (hT H), σ') ∧ xFr [1, 2] [2, 3, 4] σc σ' := by
  have hb1 := hH.1.1
  exact c_selL F hr x hF hr1 hx F 0 σc (by omega) (by omega) hH
theorem m_selL (F x : Nat) (H : Hs) (c15 : Int32 → Int32 → Int32 → xSt → Option (Int32 × xSt)) (v2 v3 : Int32) (hF : 100 ≤ F) (hB : HB H) (hx : x < 2 ^ 24) (L : Nat → Ly) (σ : xSt) (hM' : MH σ H) (hL : MLs σ H L) : ∀ (fu a : Nat), a ≤ hT H → hT H < a + fu →
    mX9_knownOf_L32 F c15 fu v2 v3 (nI x) (selL H L x a) (nI a) σ = mX9_knownOf_L72 F c15 v2 v3 (nI x) (selL H L x (hT H)) σ := by
  have hb1 := hB.1
  intro fu
  induction fu with
  | zero => intro a x y; omega
  | succ fu ih =>
    intro a h1 h2
    show mX9_knownOf_S32 F c15 (mX9_knownOf_L32 F c15 fu) v2 v3 (nI x) (selL H L x a) (nI a) σ = _
    unfold mX9_knownOf_S32 mX9_knownOf_L63
    rw [hM'.1]
    by_cases q : a = hT H
    · rw [if_pos (by rw [q]; exact nI_le (Nat.le_refl _) (by omega)), q]
    · rw [if_neg (nI_ge (by omega) (by omega)), m_isI, xb2_s, nI_1, or0, ← ih (a + 1) (by omega) (by omega)]
      show _ = mX9_knownOf_L32 F c15 fu v2 v3 (nI x) (if x.testBit a then _ else _) (nI (a + 1)) σ
      by_cases q2 : x.testBit a = true
      · rw [bI_t ((hasB_t x a (by omega) (by omega)).mpr q2), if_neg (by decide), m_tellsNow F a H hF hB (by omega) (L a) σ hM' (hL a (by omega)).1, xb2_s, if_pos q2]
      · rw [bI_f (fun z => q2 ((hasB_t x a (by omega) (by omega)).mp z)), if_pos rfl, if_neg q2]
/-- the best set of those below x -/
def bst (f : Nat → Bool) : Nat → Option Nat
  | 0 => none
  | x + 1 => if f x && (match bst f x with | none => true | some b => decide (pc x 24 < pc b 24)) then some x else bst f x
theorem bst_lt {f : Nat → Bool} : ∀ {x b : Nat}, bst f x = some b → b < x
  | 0, b, h => by cases h
  | x + 1, b, h => by
    unfold bst at h
    by_cases q : (f x && (match bst f x with | none => true | some b => decide (pc x 24 < pc b 24))) = true
    · rw [if_pos q] at h; cases h; omega
    · rw [if_neg q] at h; have := bst_lt h; omega
theorem pc_T : ∀ T, T < 7 → ∀ x, x < 64 → x < 2 ^ T - 1 → pc x 24 < pc (2 ^ T - 1) 24 := by decide +kernel
theorem pc_T' : ∀ T, T < 7 → ∀ x, x < 64 → x < 2 ^ T → pc x 24 ≤ pc (2 ^ T - 1) 24 := by decide +kernel
theorem p2T {T : Nat} (h : T ≤ 6) : 1 ≤ 2 ^ T ∧ 2 ^ T ≤ 64 := ⟨Nat.one_le_two_pow, Nat.le_trans (Nat.pow_le_pow_right (by omega) h) (by decide)⟩
def bstC (f : Nat → Bool) (T x : Nat) : Nat := (bst f x).getD (2 ^ T - 1)
theorem c_knownL {σm : xSt} {H : Hs} {D : Dy} (F hr : Nat) (all : Int32) (hF : 2000 ≤ F) (hr1 : hr < 24) : ∀ (fu x : Nat) (σ : xSt), x ≤ 2 ^ hT H - 1 → 2 ^ hT H - 1 < x + fu → Hse σ σm H D →
    ∃ σ', mX8_known_L42 F fu (nI hr) all (nI (2 ^ hT H - 1)) (nI (bstC (fun y => decide (selL H (fun t => dayL H D t (hr + 1)) y (hT H) = all)) (hT H) x)) (nI x) σ = some (nI (bstC (fun y => decide (selL H (fun t => dayL H D t (hr + 1)) y (hT H) = all)) (hT H) (2 ^ hT H - 1)), σ') ∧ xFr [1, 2] [2, 3, 4] σ σ' := by
  intro fu
  induction fu with
  | zero => intro x σ a b; omega
  | succ fu ih =>
    intro x σ a b hH
    have hb1 := hH.1.1
    obtain ⟨t1, t2⟩ := p2T hb1
    generalize hf : (fun y => decide (selL H (fun t => dayL H D t (hr + 1)) y (hT H) = all)) = f at *
    show ∃ σ', mX8_known_S42 F (mX8_known_L42 F fu) (nI hr) all (nI (2 ^ hT H - 1)) (nI (bstC f (hT H) x)) (nI x) σ = _ ∧ _
    unfold mX8_known_S42 mX8_known_L85 mX8_known_L79
    by_cases q : x = 2 ^ hT H - 1
    · rw [if_pos (by rw [← q]; exact nI_le (Nat.le_refl _) (by omega)), ← q]
      exact ⟨σ, rfl, xFr_rf⟩
    · have hx : x < 2 ^ hT H - 1 := by omega
      have hbl : bstC f (hT H) x < 64 := by
        unfold bstC
        cases e : bst f x with
        | none => show 2 ^ hT H - 1 < 64; omega
        | some b => have := bst_lt e; show b < 64; omega
      have hp1 : pc x 24 ≤ 24 := fb_ct_le _ _
      have hp2 : pc (bstC f (hT H) x) 24 ≤ 24 := fb_ct_le _ _
      rw [if_neg (nI_ge hx (by omega)), c_bitCount F x (by omega), xb2_s, c_bitCount F _ (by omega), xb2_s, nI_1]
      have hcond : (match bst f x with | none => true | some b => decide (pc x 24 < pc b 24)) = decide (pc x 24 < pc (bstC f (hT H) x) 24) := by
        unfold bstC
        cases e : bst f x with
        | none => exact (decide_eq_true (pc_T (hT H) (by omega) x (by omega) hx)).symm
        | some b => rfl
      have hs : bstC f (hT H) (x + 1) = if f x = true ∧ pc x 24 < pc (bstC f (hT H) x) 24 then x else bstC f (hT H) x := by
        show (if f x && (match bst f x with | none => true | some b => decide (pc x 24 < pc b 24)) then some x else bst f x).getD _ = _
        rw [hcond]
        by_cases w : f x = true ∧ pc x 24 < pc (bstC f (hT H) x) 24
        · rw [if_pos w, if_pos (by simp [w.1, w.2])]; rfl
        · rw [if_neg w, if_neg (by simp; exact fun w1 => Nat.le_of_not_lt (fun w2 => w ⟨w1, w2⟩))]; rfl
      by_cases q2 : pc x 24 < pc (bstC f (hT H) x) 24
      · rw [if_neg (nI_ge q2 (by omega))]
        obtain ⟨σ1, b1, b2⟩ := c_sel F hr x (by omega) hr1 (by omega) hH
        rw [b1, xb2_s]
        obtain ⟨σ', z1, z2⟩ := ih (x + 1) σ1 (by omega) (by omega) (Hse_c hH b2)
        refine ⟨σ', ?_, xFr_tr b2 z2⟩
        rw [← z1, hs]
        by_cases q3 : selL H (fun t => dayL H D t (hr + 1)) x (hT H) = all
        · have : f x = true := by rw [← hf]; exact decide_eq_true q3
          rw [if_pos q3, if_pos ⟨this, q2⟩]
        · have : ¬ f x = true := by rw [← hf]; exact fun z => q3 (of_decide_eq_true z)
          rw [if_neg q3, if_neg (fun w => this w.1)]
      · rw [if_pos (nI_le (by omega) (by omega))]
        obtain ⟨σ', z1, z2⟩ := ih (x + 1) σ (by omega) (by omega) hH
        refine ⟨σ', ?_, z2⟩
        rw [← z1, hs, if_neg (fun w => q2 w.2)]
def bstI (f : Nat → Bool) (x : Nat) : Int32 := match bst f x with
  | none => -1
  | some b => nI b
theorem m_knownL (F : Nat) (H : Hs) (all : Int32) (L : Nat → Ly) (hF : 2000 ≤ F) (hB : HB H) (σ : xSt) (hM' : MH σ H) (hL : MLs σ H L) : ∀ (fu x : Nat), x ≤ 2 ^ hT H → 2 ^ hT H < x + fu →
    mX9_knownOf_L15 F fu all (bstI (fun y => decide (selL H L y (hT H) = all)) x) (nI x) σ = some (bstI (fun y => decide (selL H L y (hT H) = all)) (2 ^ hT H), σ) := by
  have hb1 := hB.1
  obtain ⟨t1, t2⟩ := p2T hb1
  generalize hf : (fun y => decide (selL H L y (hT H) = all)) = f
  intro fu
  induction fu with
  | zero => intro x a b; omega
  | succ fu ih =>
    intro x a b
    show mX9_knownOf_S15 F (mX9_knownOf_L15 F fu) all (bstI f x) (nI x) σ = _
    unfold mX9_knownOf_S15 mX9_knownOf_L108
    rw [hM'.1, shl1 (hT H) (by omega)]
    by_cases q : x = 2 ^ hT H
    · rw [← q, if_pos (nI_le (Nat.le_refl _) (by omega))]
    · have hx : x < 2 ^ hT H := by omega
      rw [if_neg (nI_ge hx (by omega))]
      rw [show mX9_knownOf_L32 F (mX9_knownOf_L15 F fu) F all (bstI f x) (nI x) 0 0 σ = _ from m_selL F x H (mX9_knownOf_L15 F fu) all (bstI f x) (by omega) hB (by omega) L σ hM' hL F 0 (by omega) (by omega)]
      unfold mX9_knownOf_L72 mX9_knownOf_L95 mX9_knownOf_L100 mX9_knownOf_L101
      rw [nI_1, ← ih (x + 1) (by omega) (by omega)]
      have hp1 : pc x 24 ≤ 24 := fb_ct_le _ _
      by_cases q3 : selL H L x (hT H) = all
      · have fx : f x = true := by rw [← hf]; exact decide_eq_true q3
        rw [if_pos q3]
        cases e : bst f x with
        | none =>
          have e1 : bstI f x = -1 := by unfold bstI; rw [e]
          have e2 : bstI f (x + 1) = nI x := by
            unfold bstI
            have : bst f (x + 1) = some x := by
              show (if f x && (match bst f x with | none => true | some b => decide (pc x 24 < pc b 24)) then some x else bst f x) = _
              rw [e, fx]; rfl
            rw [this]
          rw [e1, e2, if_pos rfl]
        | some b =>
          have hb := bst_lt e
          have e1 : bstI f x = nI b := by unfold bstI; rw [e]
          have hp2 : pc b 24 ≤ 24 := fb_ct_le _ _
          rw [e1, if_neg (not_m1 (by omega)), m_ones F x (by omega) (by omega), xb2_s, m_ones F b (by omega) (by omega), xb2_s]
          by_cases q4 : pc x 24 < pc b 24
          · have e2 : bstI f (x + 1) = nI x := by
              unfold bstI
              have : bst f (x + 1) = some x := by
                show (if f x && (match bst f x with | none => true | some b => decide (pc x 24 < pc b 24)) then some x else bst f x) = _
                rw [e, fx]
                simp [q4]
              rw [this]
            rw [if_neg (nI_ge q4 (by omega)), e2]
          · have e2 : bstI f (x + 1) = nI b := by
              unfold bstI
              have : bst f (x + 1) = some b := by
                show (if f x && (match bst f x with | none => true | some b => decide (pc x 24 < pc b 24)) then some x else bst f x) = _
                rw [e, fx]
                simp [q4]
              rw [this]
            rw [if_pos (nI_le (by omega) (by omega)), e2]
      · have fx : ¬ f x = true := by rw [← hf]; exact fun z => q3 (of_decide_eq_true z)
        rw [if_neg q3]
        have e2 : bstI f (x + 1) = bstI f x := by
          unfold bstI
          have : bst f (x + 1) = bst f x := by
            show (if f x && (match bst f x with | none => true | some b => decide (pc x 24 < pc b 24)) then some x else bst f x) = _
            simp [fx]
          rw [this]
        rw [e2]
theorem sel_all {H : Hs} {L : Nat → Ly} : ∀ n, n ≤ 6 → n ≤ hT H → hT H ≤ 6 → selL H L (2 ^ hT H - 1) n = allL H L n
  | 0, _, _, _ => rfl
  | n + 1, h1, h2, h3 => by
    rw [allL_s, ← sel_all n (by omega) (by omega) h3]
    show (if (2 ^ hT H - 1).testBit n then _ else _) = _
    rw [if_pos]
    rw [Nat.testBit_two_pow_sub_one]
    exact decide_eq_true (by omega)
theorem bst_end {f : Nat → Bool} {T : Nat} (hT6 : T ≤ 6) (h : f (2 ^ T - 1) = true) : bstI f (2 ^ T) = nI (bstC f T (2 ^ T - 1)) := by
  obtain ⟨t1, t2⟩ := p2T hT6
  unfold bstI bstC
  have e : bst f (2 ^ T) = (if f (2 ^ T - 1) && (match bst f (2 ^ T - 1) with | none => true | some b => decide (pc (2 ^ T - 1) 24 < pc b 24)) then some (2 ^ T - 1) else bst f (2 ^ T - 1)) := by
    rw [show bst f (2 ^ T) = bst f ((2 ^ T - 1) + 1) from by rw [Nat.sub_add_cancel t1]]; rfl
  rw [e, h]
  cases q : bst f (2 ^ T - 1) with
  | none => rfl
  | some b =>
    have hb := bst_lt q
    have := pc_T' T (by omega) b (by omega) (by omega)
    have q4 : ¬ (pc (2 ^ T - 1) 24 < pc b 24) := by omega
    simp [q4]
theorem p_known (F : Nat) (hF : 5000 ≤ F) : zP_known F Rel := by
  intro σc σm hR h
  obtain ⟨H, D, hH⟩ := Hse_of hR
  have hB := hH.1
  have hb1 := hB.1
  obtain ⟨t1, t2⟩ := p2T hb1
  unfold mX8_known mX9_known mX9_known_L17
  by_cases h1 : 0 ≤ h ∧ h ≤ 23
  · obtain ⟨hr, hr1, rfl⟩ := rngI (n := 23) (by decide) (by decide) h1
    obtain ⟨σc1, b1, b2⟩ := c_allTell F hr (by omega) (by omega) hH
    obtain ⟨σ2, c1, c2, c3, c4⟩ := m_runsTold F hr (by omega) (by omega) hH
    have hH1 := Hse_c hH b2
    obtain ⟨σc2, e1, e2⟩ := c_knownL F hr (allL H (fun t => dayL H D t (hr + 1)) (hT H)) (by omega) (by omega) F 0 σc1 (Nat.zero_le _) (by omega) hH1
    have m1 := m_knownL F H (allL H (fun t => dayL H D t (hr + 1)) (hT H)) (fun t => dayL H D t (hr + 1)) (by omega) hB σ2 c3 c4 F 0 (Nat.zero_le _) (by omega)
    rw [bst_end hb1 (decide_eq_true (sel_all (hT H) hb1 (Nat.le_refl _) hb1))] at m1
    have e12 : (1 : Int32) <<< (xI σc1 (12 + 0) &&& 31) - 1 = nI (2 ^ hT H - 1) := by
      rw [show xI σc1 (12 + 0) = nI (hT H) from hH1.2.1.1, shl1 (hT H) (by omega)]
      exact pk_sub (b := 1) t1
    unfold mX9_knownOf
    simp only [c_noHour, m_isHour, bI_nf h1, bI_t h1, b1, c1, e12, m_tellsAll F H (by omega) hB _ σ2 c3 c4, xb1_s, xb2_s, xck_1, i10, i00, i11, ↓reduceIte]
    rw [show mX9_knownOf_L15 F F (allL H (fun t => dayL H D t (hr + 1)) (hT H)) (-1) 0 σ2 = _ from m1, show mX8_known_L42 F F (nI hr) (allL H (fun t => dayL H D t (hr + 1)) (hT H)) (nI (2 ^ hT H - 1)) (nI (2 ^ hT H - 1)) 0 σc1 = _ from e1, xb2_s]
    exact ⟨_, _, _, rfl, rfl, Rel_cm hR (xFr_tr b2 e2) c2⟩
  · simp only [c_noHour, m_isHour, bI_nt h1, bI_f h1, xb1_s, xb2_s, xck_1, i10, i00, i11, ↓reduceIte]
    exact ⟨_, _, _, rfl, rfl, hR⟩
