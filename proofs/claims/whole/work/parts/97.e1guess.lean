/-! ===== whether all that was smelt comes out ===== -/
def okK (H : Hs) (D : Dy) (hm tm om : Nat → Nat) (k : Nat) : Bool := decide ((if tm k < hT H then toldL (hN H (tm k)) (dayL H D (tm k) (hm k + 1)) else 0) = nI (om k))
abbrev cmo (H : Hs) (D : Dy) (nm : Nat) (hm tm om : Nat → Nat) : Prop := ∀ k, k < nm → okK H D hm tm om k = true
abbrev flg (f : Nat → Bool) (hm : Nat → Nat) (nm h j : Nat) : Prop := ∀ k, k < nm → (hm k < h ∨ (hm k = h ∧ k < j)) → f k = true
theorem zero_sh (x : Nat) : (((0 : Int32) >>> (nI x &&& 31)) &&& 1 = 1) = (0 = 1) := by
  have z : (0 : Int32) >>> (nI x &&& 31) &&& 1 = 0 := by
    rw [Int32.zero_shiftRight]; rfl
  exact propext ⟨fun w => absurd (z.symm.trans w) (by decide), fun w => absurd w (by decide)⟩
/-- what a number of a thing tells, though it lacks -/
theorem c_tellsAny (F t hr : Nat) (H : Hs) (D : Dy) (hF : 100 ≤ F) (hB : HB H) (ht : t < 1000) (hr1 : hr < 24) (h7 : ∀ x, D 7 x = 0) (σ : xSt) (hC : CH σ H) (hD : CD σ D) :
    ∃ σ', mX2_tellsBehind F (nI t) (nI hr) 0 σ = some (if t < hT H then toldL (hN H t) (dayL H D t (hr + 1)) else 0, σ') ∧ xFr [1, 2] [2, 3, 4] σ σ' := by
  by_cases q : t < hT H
  · obtain ⟨σ', w1, w2, w3⟩ := c_tellsBehind F t hr 0 H D hF hB q hr1 (fun x _ => by rw [h7 x]; exact zero_sh x) (fun x q => by rw [h7 x] at q; omega) σ hC hD
    exact ⟨σ', by rw [w1, if_pos q], w2⟩
  · refine ⟨σ, ?_, xFr_rf⟩
    unfold mX2_tellsBehind
    rw [c_lacksT F t ht σ H hB hC, bI_nt q, xb2_s, if_neg (by decide), if_neg q]
theorem c_comesL (F nm : Nat) (hm tm om : Nat → Nat) (H : Hs) (D : Dy) (hF : 100 ≤ F) (hB : HB H) (h7 : ∀ x, D 7 x = 0) (hn : nm ≤ 8) (hb : ∀ i, i < nm → tm i < 6 ∧ om i < 256) : ∀ (fu i : Nat) (σ : xSt), i ≤ nm → nm < i + fu → CH σ H → CD σ D → CTold σ 2 nm hm tm om → (∀ k, k < i → okK H D hm tm om k = true) →
    ∃ σ', mX1_comesOut_L2 F fu (nI i) σ = some (bI (cmo H D nm hm tm om), σ') ∧ xFr [1, 2] [2, 3, 4] σ σ' := by
  intro fu
  induction fu with
  | zero => intro i σ a b; omega
  | succ fu ih =>
    intro i σ a b hC hD hT' hok
    show ∃ σ', mX1_comesOut_S2 F (mX1_comesOut_L2 F fu) (nI i) σ = _ ∧ _
    unfold mX1_comesOut_S2 mX1_comesOut_L59 mX1_comesOut_L51
    rw [show xI σ (14 + 2) = nI nm from hT'.1]
    by_cases q : i = nm
    · rw [if_pos (by rw [q]; exact nI_le (Nat.le_refl _) (by omega)), bI_t (fun k hk => hok k (by omega))]
      exact ⟨σ, rfl, xFr_rf⟩
    · obtain ⟨k0, k1, k2, k3⟩ := hT'.2.1 i (by omega)
      obtain ⟨t6, o2⟩ := hb i (by omega)
      rw [if_neg (nI_ge (by omega) (by omega)), xck_in (show i < lnT 2 by show i < 8; omega) (by decide), xck_in (show i < lnT 2 by show i < 8; omega) (by decide), nI_clamp (by omega), show xA σ (18 + 2) i = nI (tm i) from k2, show xA σ (15 + 2) i = nI (hm i) from k1]
      obtain ⟨σ1, w1, w2⟩ := c_tellsAny F (tm i) (hm i) H D hF hB (by omega) k0 h7 σ hC hD
      have k3' : xA σ1 (21 + 2) i = nI (om i) := by rw [w2.2 _ (by decide)]; exact k3
      rw [w1, xb2_s, xck_in (show i < lnT 2 by show i < 8; omega) (by decide), k3', nI_1]
      by_cases q2 : (if tm i < hT H then toldL (hN H (tm i)) (dayL H D (tm i) (hm i + 1)) else 0) = nI (om i)
      · rw [if_pos q2]
        obtain ⟨σ', z1, z2⟩ := ih (i + 1) σ1 (by omega) (by omega) (CH_l hC w2) (CD_l hD w2) (CTold_fr hT' (w2.1 _ (by decide)) (w2.2 _ (by decide)) (w2.2 _ (by decide)) (w2.2 _ (by decide)) (w2.2 _ (by decide))) (fun k hk => by
          by_cases e : k = i
          · subst e; exact decide_eq_true q2
          · exact hok k (by omega))
        exact ⟨σ', z1, xFr_tr w2 z2⟩
      · rw [if_neg q2, bI_f (fun w => q2 (of_decide_eq_true (w i (by omega))))]
        exact ⟨σ1, rfl, w2⟩
theorem c_comesOut (F nm : Nat) (hm tm om : Nat → Nat) (H : Hs) (D : Dy) (hF : 100 ≤ F) (hB : HB H) (h7 : ∀ x, D 7 x = 0) (hn : nm ≤ 8) (hb : ∀ i, i < nm → tm i < 6 ∧ om i < 256) (σ : xSt) (hC : CH σ H) (hD : CD σ D) (hT' : CTold σ 2 nm hm tm om) :
    ∃ σ', mX1_comesOut F σ = some (bI (cmo H D nm hm tm om), σ') ∧ xFr [1, 2] [2, 3, 4] σ σ' := c_comesL F nm hm tm om H D hF hB h7 hn hb F 0 σ (by omega) (by omega) hC hD hT' (fun k hk => by omega)
theorem bI_cg {p q : Prop} [Decidable p] [Decidable q] (h : p ↔ q) : bI p = bI q := by
  by_cases w : p
  · rw [bI_t w, bI_t (h.mp w)]
  · rw [bI_f w, bI_f (fun z => w (h.mpr z))]
theorem m_smL (F nm h : Nat) (hm tm om : Nat → Nat) (H : Hs) (D : Dy) (c8 : Int32 → Int32 → xSt → Option (Int32 × xSt)) (hF : 100 ≤ F) (hB : HB H) (hh : h < 24) (hn : nm ≤ 8) (hb : ∀ i, i < nm → hm i < 24 ∧ tm i < 6 ∧ om i < 256) (σ : xSt) (hM' : MH σ H) (hS' : MSml σ nm hm tm om) (hL : MLs σ H (fun t => dayL H D t (h + 1))) : ∀ (fu j : Nat), j ≤ nm → nm < j + fu →
    mX9_isSmelt_L25 F c8 fu (bI (flg (okK H D hm tm om) hm nm h j)) (nI h) (nI j) σ = c8 (bI (flg (okK H D hm tm om) hm nm (h + 1) 0)) (nI (h + 1)) σ := by
  have hb1 := hB.1
  intro fu
  induction fu with
  | zero => intro j a b; omega
  | succ fu ih =>
    intro j a b
    show mX9_isSmelt_S25 F c8 (mX9_isSmelt_L25 F c8 fu) (bI (flg (okK H D hm tm om) hm nm h j)) (nI h) (nI j) σ = _
    unfold mX9_isSmelt_S25 mX9_isSmelt_L99
    rw [hS'.1]
    by_cases q : j = nm
    · rw [if_pos (by rw [q]; exact nI_le (Nat.le_refl _) (by omega)), nI_1]
      congr 1
      refine bI_cg ⟨fun w k hk e => w k hk (by omega), fun w k hk e => w k hk (by omega)⟩
    · obtain ⟨s1, s2, s3⟩ := hS'.2 j (by omega)
      obtain ⟨b0, b1, b2⟩ := hb j (by omega)
      have t0 : (if hT H ≤ tm j then (0 : Int32) else toldL (hN H (tm j)) (dayL H D (tm j) (h + 1))) = if tm j < hT H then toldL (hN H (tm j)) (dayL H D (tm j) (h + 1)) else 0 := by
        by_cases z : tm j < hT H
        · rw [if_pos z, if_neg (by omega)]
        · rw [if_neg z, if_pos (by omega)]
      have st : (if nI (hT H) ≤ nI (tm j) then mX9_isSmelt_L60 F c8 (mX9_isSmelt_L25 F c8 fu) (bI (flg (okK H D hm tm om) hm nm h j)) (nI h) (nI j) 0 σ else xck (xin (nI j) 8) (xb2 (mX9_tellsNow F (nI (tm j)) σ) (fun r53 σ53 => mX9_isSmelt_L60 F c8 (mX9_isSmelt_L25 F c8 fu) (bI (flg (okK H D hm tm om) hm nm h j)) (nI h) (nI j) r53 σ53))) = mX9_isSmelt_L60 F c8 (mX9_isSmelt_L25 F c8 fu) (bI (flg (okK H D hm tm om) hm nm h j)) (nI h) (nI j) (if tm j < hT H then toldL (hN H (tm j)) (dayL H D (tm j) (h + 1)) else 0) σ := by
        by_cases z : tm j < hT H
        · rw [if_neg (nI_ge z (by omega)), xck_in (by omega) (by omega), m_tellsNow F (tm j) H hF hB z _ σ hM' (hL _ z).1, xb2_s, if_pos z]
        · rw [if_pos (nI_le (by omega) (by omega)), if_neg z]
      rw [if_neg (nI_ge (by omega) (by omega)), xck_in (by omega) (by omega), nI_clamp (by omega), hM'.1, s2, st]
      unfold mX9_isSmelt_L60 mX9_isSmelt_L87 mX9_isSmelt_L91 mX9_isSmelt_L92
      rw [xck_in (show j < 8 by omega) (by omega), xck_in (show j < 8 by omega) (by omega), nI_clamp (by omega), s1, s3, nI_1, ← ih (j + 1) (by omega) (by omega)]
      simp only [nI_eqL h (show hm j < 2 ^ 31 by omega) (show h < 2 ^ 31 by omega)]
      by_cases q1 : flg (okK H D hm tm om) hm nm h j
      · rw [bI_t q1, if_neg (by decide)]
        by_cases q2 : hm j = h
        · rw [if_pos q2]
          by_cases q3 : (if tm j < hT H then toldL (hN H (tm j)) (dayL H D (tm j) (h + 1)) else 0) = nI (om j)
          · rw [if_pos q3, bI_t (show flg (okK H D hm tm om) hm nm h (j + 1) from fun k hk e => by
              by_cases e2 : k = j
              · subst e2; unfold okK; rw [q2]; exact decide_eq_true q3
              · exact q1 k hk (by omega))]
          · rw [if_neg q3, bI_f (show ¬ flg (okK H D hm tm om) hm nm h (j + 1) from fun w => q3 (by
              have := w j (by omega) (by omega)
              unfold okK at this
              rw [q2] at this
              exact of_decide_eq_true this))]
        · rw [if_neg q2, bI_t (show flg (okK H D hm tm om) hm nm h (j + 1) from fun k hk e => q1 k hk (by
            rcases e with e | ⟨e1, e2⟩
            · exact Or.inl e
            · refine Or.inr ⟨e1, ?_⟩
              by_cases e3 : k = j
              · subst e3; exact absurd e1 q2
              · omega))]
      · rw [bI_f q1, if_pos rfl, bI_f (show ¬ flg (okK H D hm tm om) hm nm h (j + 1) from fun w => q1 (fun k hk e => w k hk (by omega)))]
theorem m_isSmL (F nm : Nat) (hm tm om : Nat → Nat) (H : Hs) (D : Dy) (hF : 100 ≤ F) (hB : HB H) (h7 : ∀ x, D 7 x = 0) (hn : nm ≤ 8) (hb : ∀ i, i < nm → hm i < 24 ∧ tm i < 6 ∧ om i < 256) : ∀ (fu h : Nat) (σ : xSt), h ≤ 24 → 24 < h + fu → MH σ H → MD σ D → MSml σ nm hm tm om → MLs σ H (fun t => dayL H D t h) →
    ∃ σ', mX9_isSmelt_L8 F fu (bI (flg (okK H D hm tm om) hm nm h 0)) (nI h) σ = some (bI (cmo H D nm hm tm om), σ') ∧ xFr [] [17, 18, 19] σ σ' := by
  intro fu
  induction fu with
  | zero => intro h σ a b; omega
  | succ fu ih =>
    intro h σ a b hM' hD hS' hL
    show ∃ σ', mX9_isSmelt_S8 F (mX9_isSmelt_L8 F fu) (bI (flg (okK H D hm tm om) hm nm h 0)) (nI h) σ = _ ∧ _
    unfold mX9_isSmelt_S8 mX9_isSmelt_L105
    by_cases q : h = 24
    · subst q
      rw [if_pos (by decide), xck_bI, bI_cg (q := cmo H D nm hm tm om) ⟨fun w k hk => w k hk (Or.inl (hb k hk).1), fun w k hk _ => w k hk⟩]
      exact ⟨σ, rfl, xFr_rf⟩
    · rw [if_neg (show ¬ ((24 : Int32) ≤ nI h) from nI_ge (b := 24) (by omega) (by omega))]
      by_cases q1 : flg (okK H D hm tm om) hm nm h 0
      · rw [show bI (flg (okK H D hm tm om) hm nm h 0) = 1 from bI_t q1, if_neg (by decide)]
        obtain ⟨σ1, w1, w2, w3⟩ := m_goesBy F h H D hF (by omega) hB σ _ hM' hD hL (fun q => by rw [h7 h] at q; omega)
        have hM1 := MH_l hM' w2
        have hS1 : MSml σ1 nm hm tm om := by unfold MSml; rw [w2.1 27 (by simp), w2.2 28 (by decide), w2.2 29 (by decide), w2.2 30 (by decide)]; exact hS'
        rw [w1, xb1_s]
        have e := m_smL F nm h hm tm om H D (mX9_isSmelt_L8 F fu) hF hB (by omega) hn hb σ1 hM1 hS1 w3 F 0 (by omega) (by omega)
        rw [show bI (flg (okK H D hm tm om) hm nm h 0) = 1 from bI_t q1] at e
        rw [show mX9_isSmelt_L25 F (mX9_isSmelt_L8 F fu) F 1 (nI h) 0 σ1 = _ from e]
        obtain ⟨σ', z1, z2⟩ := ih (h + 1) σ1 (by omega) (by omega) hM1 (MD_l hD w2) hS1 w3
        exact ⟨σ', z1, xFr_tr w2 z2⟩
      · rw [show bI (flg (okK H D hm tm om) hm nm h 0) = 0 from bI_f q1, if_pos rfl]
        refine ⟨σ, ?_, xFr_rf⟩
        rw [bI_f (show ¬ cmo H D nm hm tm om from fun w => q1 (fun k hk _ => w k hk))]
        rfl
theorem m_isSmelt (F nm : Nat) (hm tm om : Nat → Nat) (H : Hs) (D : Dy) (hF : 100 ≤ F) (hB : HB H) (h7 : ∀ x, D 7 x = 0) (hn : nm ≤ 8) (hb : ∀ i, i < nm → hm i < 24 ∧ tm i < 6 ∧ om i < 256) (σ : xSt) (hM' : MH σ H) (hD : MD σ D) (hS' : MSml σ nm hm tm om) :
    ∃ σ', mX9_isSmelt F σ = some (bI (cmo H D nm hm tm om), σ') ∧ xFr [] [17, 18, 19] σ σ' := by
  obtain ⟨σ1, w1, w2, w3⟩ := m_begins F H hF hB σ
  have hS1 : MSml σ1 nm hm tm om := by unfold MSml; rw [w2.1 27 (by simp), w2.2 28 (by decide), w2.2 29 (by decide), w2.2 30 (by decide)]; exact hS'
  obtain ⟨σ', z1, z2⟩ := m_isSmL F nm hm tm om H D hF hB h7 hn hb F 0 σ1 (by omega) (by omega) (MH_l hM' w2) (MD_l hD w2) hS1 w3
  refine ⟨σ', ?_, xFr_tr w2 z2⟩
  unfold mX9_isSmelt
  rw [w1, xb1_s, ← z1, show bI (flg (okK H D hm tm om) hm nm 0 0) = 1 from bI_t (fun k hk e => by omega)]
  rfl
