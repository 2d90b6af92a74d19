def Dset (D : Dy) (i p : Nat) : Dy := fun j e => match j with
  | 0 => D 0 e
  | 1 => D 1 e
  | 2 => D 2 e
  | 3 => ins (D 3) i p e
  | k + 4 => D (k + 4) e
theorem CD_set {σ : xSt} {D : Dy} {i p q : Nat} (hi : i < D 0 0) (hp : p < 1000) (h : CD σ (Dset D i q)) : CD (xsA σ 21 i (nI p)) (Dset D i p) := by
  obtain ⟨a, ⟨b1, b2, b3⟩, c, d, ⟨o, e⟩, g⟩ := h
  refine ⟨a, ⟨b1, fun k hk => ?_, fun k z hz => ?_⟩, fun k hk => ?_, d, ⟨o, CTold_fr e rfl (xA_s0 (by decide)) (xA_s0 (by decide)) (xA_s0 (by decide)) (xA_s0 (by decide))⟩, g⟩
  · obtain ⟨x1, x2, x3, x4⟩ := b2 k hk
    refine ⟨x1, ?_, ?_, ?_⟩
    · rw [xA_s0 (by decide)]; exact x2
    · rw [xA_s0 (by decide)]; exact x3
    · show xA (xsA σ 21 i (nI p)) 21 k = nI (ins (D 3) i p k)
      rw [xA_s1, upd_e]
      by_cases w : k = i
      · rw [if_pos w, w, ins_n]
      · rw [if_neg w, ins_o w]
        have x4' : xA σ 21 k = nI (ins (D 3) i q k) := x4
        rw [ins_o w] at x4'; exact x4'
  · rw [xA_s0 (by decide)]; exact b3 k z hz
  · refine ⟨(c k hk).1, ?_⟩
    show ins (D 3) i p k < 1000
    have c2 : ins (D 3) i q k < 1000 := (c k hk).2
    by_cases w : k = i
    · rw [w, ins_n]; exact hp
    · rw [ins_o w] at c2 ⊢; exact c2
theorem MD_set {σ : xSt} {D : Dy} {i p q : Nat} (hi : i < D 0 0) (hp : p < 1000) (h : MD σ (Dset D i q)) : MD (xsA σ 12 i (nI p)) (Dset D i p) := by
  obtain ⟨a, b, c, d, e, g, k, l, m⟩ := h
  refine ⟨a, b, fun z hz => ?_, d, e, fun z hz => ?_, k, l, m⟩
  · obtain ⟨x1, x2, x3, x4, x5, x6⟩ := c z hz
    have x3' : xA σ 12 z = nI (ins (D 3) i q z) := x3
    have x6' : ins (D 3) i q z < 1000 := x6
    rw [xA_s0 (show 11 ≠ 12 by decide), xA_s0 (show 13 ≠ 12 by decide), xA_s1]
    show xA σ 11 z = nI (D 1 z) ∧ xA σ 13 z = nI (D 2 z) ∧ upd (xA σ 12) i (nI p) z = nI (ins (D 3) i p z) ∧ D 1 z < 1000 ∧ D 2 z < 1000 ∧ ins (D 3) i p z < 1000
    refine ⟨x1, x2, ?_, x4, x5, ?_⟩
    · rw [upd_e]
      by_cases w : z = i
      · rw [if_pos w, w, ins_n]
      · rw [if_neg w, ins_o w]; rw [ins_o w] at x3'; exact x3'
    · by_cases w : z = i
      · rw [w, ins_n]; exact hp
      · rw [ins_o w] at x6' ⊢; exact x6'
  · rw [xA_s0 (by decide), xA_s0 (by decide)]; exact g z hz
theorem ins_id (f : Nat → Nat) (i : Nat) : ins f i (f i) = f := funext (fun e => by
  by_cases q : e = i
  · rw [q, ins_n]
  · rw [ins_o q])
theorem Dset_id (D : Dy) (i : Nat) : Dset D i (D 3 i) = D := funext (fun j => funext (fun e => by
  match j with
  | 0 => rfl
  | 1 => rfl
  | 2 => rfl
  | 3 => show ins (D 3) i (D 3 i) e = D 3 e; rw [ins_id]
  | k + 4 => rfl))
/-- who may have sat, as bits -/
def whoB (f : Nat → Bool) : Nat → Int32
  | 0 => 0
  | n + 1 => if f n then whoB f n ||| (1 <<< (nI n &&& 31)) else whoB f n
def wF (H : Hs) (D : Dy) (nm : Nat) (hm tm om : Nat → Nat) (i p : Nat) : Bool := decide (cmo H (Dset D i p) nm hm tm om)
theorem c_whoL (F nm i : Nat) (hm tm om : Nat → Nat) (H : Hs) (D : Dy) (hF : 100 ≤ F) (hB : HB H) (h7 : ∀ x, D 7 x = 0) (hnm : nm ≤ 8) (hb : ∀ i, i < nm → hm i < 24 ∧ tm i < 6 ∧ om i < 256) (hi : i < D 0 0) (h44 : D 0 0 ≤ 44) (h3 : D 3 i < 1000) : ∀ (fu p q : Nat) (σ : xSt), p ≤ hP H → hP H < p + fu → CH σ H → CD σ (Dset D i q) → CTold σ 2 nm hm tm om →
    ∃ σ', mX1_sittersOf_L38 F fu (nI i) (nI (D 3 i)) (whoB (wF H D nm hm tm om i) p) (nI p) σ = some (whoB (wF H D nm hm tm om i) (hP H), σ') ∧ CD σ' D ∧ xFr [1, 2] [2, 3, 4, 21] σ σ' := by
  have hb2 := hB.2.1
  intro fu
  induction fu with
  | zero => intro p q σ a b; omega
  | succ fu ih =>
    intro p q σ a b hC hD hT2
    show ∃ σ', mX1_sittersOf_S38 F (mX1_sittersOf_L38 F fu) (nI i) (nI (D 3 i)) (whoB (wF H D nm hm tm om i) p) (nI p) σ = _ ∧ _
    unfold mX1_sittersOf_S38 mX1_sittersOf_L87 mX1_sittersOf_L81
    rw [show xI σ (12 + 1) = nI (hP H) from hC.2.2.1, xck_in (show i < lnT 0 by show i < 44; omega) (by decide), xck_in (show i < lnT 0 by show i < 44; omega) (by decide), nI_clamp (by omega)]
    by_cases e : p = hP H
    · rw [if_pos (by rw [e]; exact nI_le (Nat.le_refl _) (by omega)), e]
      refine ⟨_, rfl, ?_, xFr_sA (by decide)⟩
      have := CD_set hi h3 hD
      rw [Dset_id] at this
      exact this
    · rw [if_neg (nI_ge (by omega) (by omega)), nI_1]
      have hD1 : CD (xsA σ 21 i (nI p)) (Dset D i p) := CD_set hi (by omega) hD
      have f0 : xFr [1, 2] [2, 3, 4, 21] σ (xsA σ 21 i (nI p)) := xFr_sA (by decide)
      have hC1 : CH (xsA σ 21 i (nI p)) H := CH_fr hC (f0.1 _ (by decide)) (f0.1 _ (by decide)) (fun a h1 h2 => f0.2 a (by simp <;> omega))
      have hT21 : CTold (xsA σ 21 i (nI p)) 2 nm hm tm om := CTold_fr hT2 rfl (f0.2 (15 + 2) (by decide)) (f0.2 (18 + 2) (by decide)) (f0.2 (21 + 2) (by decide)) (f0.2 (24 + 2) (by decide))
      obtain ⟨σ1, b1, b2⟩ := c_comesOut F nm hm tm om H (Dset D i p) hF hB h7 hnm (fun i hi => (hb i hi).2) _ hC1 hD1 hT21
      have hT22 := CTold_fr hT21 (b2.1 (14 + 2) (by decide)) (b2.2 (15 + 2) (by decide)) (b2.2 (18 + 2) (by decide)) (b2.2 (21 + 2) (by decide)) (b2.2 (24 + 2) (by decide))
      rw [show 21 + 0 = 21 from rfl, b1, xb2_s]
      obtain ⟨σ', z1, z2, z3⟩ := ih (p + 1) p σ1 (by omega) (by omega) (CH_l hC1 b2) (CD_l hD1 b2) hT22
      refine ⟨σ', ?_, z2, xFr_tr (xFr_tr f0 (xFr_mono b2 (by simp) (by simp))) z3⟩
      rw [← z1]
      show _ = mX1_sittersOf_L38 F fu (nI i) (nI (D 3 i)) (if wF H D nm hm tm om i p then _ else _) (nI (p + 1)) σ1
      by_cases q1 : cmo H (Dset D i p) nm hm tm om
      · rw [bI_t q1, if_neg (by decide), if_pos (show wF H D nm hm tm om i p = true from decide_eq_true q1)]
      · rw [bI_f q1, if_pos rfl, if_neg (show ¬ wF H D nm hm tm om i p = true from fun w => q1 (of_decide_eq_true w))]
theorem m_whoL (F nm i : Nat) (hm tm om : Nat → Nat) (H : Hs) (D : Dy) (hF : 100 ≤ F) (hB : HB H) (h7 : ∀ x, D 7 x = 0) (hnm : nm ≤ 8) (hb : ∀ i, i < nm → hm i < 24 ∧ tm i < 6 ∧ om i < 256) (hi : i < D 0 0) (h44 : D 0 0 ≤ 44) (h3 : D 3 i < 1000) : ∀ (fu p q : Nat) (σ : xSt), p ≤ hP H → hP H < p + fu → MH σ H → MD σ (Dset D i q) → MSml σ nm hm tm om →
    ∃ σ', mX9_whoOf_L20 F fu (nI i) (nI (D 3 i)) (whoB (wF H D nm hm tm om i) p) (nI p) σ = some (whoB (wF H D nm hm tm om i) (hP H), σ') ∧ MD σ' D ∧ MH σ' H ∧ xFr [] [17, 18, 19, 12] σ σ' ∧ ∀ e, e ≠ i → xA σ' 12 e = xA σ 12 e := by
  have hb2 := hB.2.1
  intro fu
  induction fu with
  | zero => intro p q σ a b; omega
  | succ fu ih =>
    intro p q σ a b hM' hD hS'
    show ∃ σ', mX9_whoOf_S20 F (mX9_whoOf_L20 F fu) (nI i) (nI (D 3 i)) (whoB (wF H D nm hm tm om i) p) (nI p) σ = _ ∧ _
    unfold mX9_whoOf_S20 mX9_whoOf_L61 mX9_whoOf_L53
    rw [hM'.2.2.1, xck_in (show i < 44 by omega) (by omega), xck_in (show i < 44 by omega) (by omega), nI_clamp (by omega)]
    by_cases e : p = hP H
    · rw [if_pos (by rw [e]; exact nI_le (Nat.le_refl _) (by omega)), e]
      have f0 : xFr [] [17, 18, 19, 12] σ (xsA σ 12 i (nI (D 3 i))) := xFr_sA (by decide)
      refine ⟨_, rfl, ?_, MH_fr hM' f0 (by simp) (by simp), f0, fun z hz => by rw [xA_s1, upd_0 hz]⟩
      have := MD_set hi h3 hD
      rw [Dset_id] at this
      exact this
    · rw [if_neg (nI_ge (by omega) (by omega)), nI_1, or0]
      have hD1 : MD (xsA σ 12 i (nI p)) (Dset D i p) := MD_set hi (by omega) hD
      have f0 : xFr [] [17, 18, 19, 12] σ (xsA σ 12 i (nI p)) := xFr_sA (by decide)
      have hM1 : MH (xsA σ 12 i (nI p)) H := MH_fr hM' f0 (by simp) (by simp)
      have hS1 : MSml (xsA σ 12 i (nI p)) nm hm tm om := by unfold MSml; rw [f0.1 27 (by simp), f0.2 28 (by decide), f0.2 29 (by decide), f0.2 30 (by decide)]; exact hS'
      obtain ⟨σ1, b1, b2⟩ := m_isSmelt F nm hm tm om H (Dset D i p) hF hB h7 hnm hb _ hM1 hD1 hS1
      have hS2 : MSml σ1 nm hm tm om := by unfold MSml; rw [b2.1 27 (by simp), b2.2 28 (by decide), b2.2 29 (by decide), b2.2 30 (by decide)]; exact hS1
      rw [b1, xb2_s]
      obtain ⟨σ', z1, z2, z3, z4, z5⟩ := ih (p + 1) p σ1 (by omega) (by omega) (MH_l hM1 b2) (MD_l hD1 b2) hS2
      refine ⟨σ', ?_, z2, z3, xFr_tr (xFr_tr f0 (xFr_mono b2 (by simp) (by simp))) z4, fun z hz => by rw [z5 z hz, b2.2 12 (by decide), xA_s1, upd_0 hz]⟩
      rw [← z1]
      show _ = mX9_whoOf_L20 F fu (nI i) (nI (D 3 i)) (if wF H D nm hm tm om i p then _ else _) (nI (p + 1)) σ1
      by_cases q1 : cmo H (Dset D i p) nm hm tm om
      · rw [bI_t q1, if_neg (by decide), if_pos (show wF H D nm hm tm om i p = true from decide_eq_true q1)]
      · rw [bI_f q1, if_pos rfl, if_neg (show ¬ wF H D nm hm tm om i p = true from fun w => q1 (of_decide_eq_true w))]
/-- both: who may have sat -/
theorem cm_who {σc σm : xSt} {H : Hs} {D : Dy} (F i nm : Nat) (hm tm om : Nat → Nat) (hF : 100 ≤ F) (hH : Hse σc σm H D) (hi : i < D 0 0) (s1 : nm ≤ 8) (s2 : CTold σc 2 nm hm tm om) (s3 : ∀ i, i < nm → tm i < 6 ∧ om i < 256) (s4 : MSml σm nm hm tm om) :
    ∃ σc' σm', mX1_sittersOf F (nI i) σc = some (whoB (wF H D nm hm tm om i) (hP H), σc') ∧ mX9_whoOf F (nI i) σm = some (whoB (wF H D nm hm tm om i) (hP H), σm') ∧ CD σc' D ∧ MD σm' D ∧ MH σm' H ∧ xFr [1, 2] [2, 3, 4, 21] σc σc' ∧ xFr mI (mA ++ [12]) σm σm' ∧ ∀ e, e < D 0 0 → xA σm' 12 e = xA σm 12 e := by
  obtain ⟨hB, hC, hD, hTx, hR', h7, h8⟩ := hH
  have hn := hR'.1
  obtain ⟨y1, y2, y3, y4, y5, y6⟩ := hR'.2.2.1 i hi
  have hbb : ∀ i, i < nm → hm i < 24 ∧ tm i < 6 ∧ om i < 256 := fun i hi => ⟨(s2.2.1 i hi).1, s3 i hi⟩
  obtain ⟨σ3, f1, f2, f3⟩ := m_reads F hF hTx
  obtain ⟨σ4, g1, g2, g3, g4⟩ := m_asTold F f2 (MR_fr hR' f3) h7 h8
  have f5 : xFr mI mA σm σ4 := xFr_tr f3 g4
  have hS4 : MSml σ4 nm hm tm om := by unfold MSml; rw [f5.1 27 (by decide), f5.2 28 (by decide), f5.2 29 (by decide), f5.2 30 (by decide)]; exact s4
  have hb2 := hB.2.1
  obtain ⟨σc', a1, a2, a3⟩ := c_whoL F nm i hm tm om H D hF hB h7 s1 hbb hi (by omega) (by omega) F 0 (D 3 i) σc (by omega) (by omega) hC (by rw [Dset_id]; exact hD) s2
  obtain ⟨σm', b1, b2, b3, b4, b5⟩ := m_whoL F nm i hm tm om H D hF hB h7 s1 hbb hi (by omega) (by omega) F 0 (D 3 i) σ4 (by omega) (by omega) g3 (by rw [Dset_id]; exact g2) hS4
  have e12 : xA σ4 12 i = nI (D 3 i) := (g2.2.2.1 i hi).2.2.1
  refine ⟨σc', σm', ?_, ?_, a2, b2, b3, a3, xFr_tr (xFr_mono f5 (by simp) (by simp)) (xFr_mono b4 (by simp) (by simp)), fun e he => ?_⟩
  · unfold mX1_sittersOf
    rw [if_neg (nI_pos (by omega)), show xI σc (14 + 0) = nI (D 0 0) from hD.2.1.1, if_pos (nI_lt hi (by omega)), xck_in (show i < lnT 0 by show i < 44; omega) (by decide), nI_clamp (by omega), show xA σc (21 + 0) i = nI (D 3 i) from (hD.2.1.2.1 i hi).2.2.2]
    exact a1
  · unfold mX9_whoOf
    rw [f1, xb1_s, g1, xb1_s, xck_in (show i < 44 by omega) (by omega), nI_clamp (by omega), e12]
    exact b1
  · by_cases w : e = i
    · rw [w, (b2.2.2.1 i hi).2.2.1, y3]
    · rw [b5 e w, f5.2 12 (by decide)]
theorem c_noSitting {σ : xSt} {D : Dy} (F : Nat) (v : Int32) (hD : CD σ D) : mX8_noSitting F v σ = some (bI (¬ (¬ v < 0 ∧ v < nI (D 0 0))), σ) := by
  unfold mX8_noSitting mX8_noSitting_L18 mX8_noSitting_L23
  rw [show xI σ (14 + 0) = nI (D 0 0) from hD.2.1.1]
  by_cases q : v < 0
  · rw [if_pos q, bI_nt (show ¬ (¬ v < 0 ∧ v < nI (D 0 0)) from fun z => z.1 q)]; rfl
  · rw [if_neg q]
    by_cases q2 : v < nI (D 0 0)
    · rw [if_pos q2, bI_nf ⟨q, q2⟩]; rfl
    · rw [if_neg q2, bI_nt (show ¬ (¬ v < 0 ∧ v < nI (D 0 0)) from fun z => q2 z.2)]; rfl
theorem m_isSitting {σ : xSt} {D : Dy} (F : Nat) (v : Int32) (hD : MR σ D) : mX9_isSitting F v σ = some (bI (¬ v < 0 ∧ v < nI (D 0 0)), σ) := by
  have hn := hD.1
  unfold mX9_isSitting
  rw [m_in, xb2_s, xck_bI, hD.2.1]
  simp only [in_n1 (show D 0 0 < 2 ^ 31 by omega)]
theorem p_who (F : Nat) (hF : 5000 ≤ F) : zP_who F Rel := by
  intro σc σm hR v
  obtain ⟨H, D, hH⟩ := Hse_of hR
  have hn := hH.2.2.2.2.1.1
  unfold mX8_who mX9_who mX8_who_L21 mX9_who_L18
  simp only [c_noSitting F v hH.2.2.1, m_isSitting F v hH.2.2.2.2.1, xb1_s, xb2_s, xck_1, i10, i00, i11, ↓reduceIte]
  by_cases h2 : ¬ v < 0 ∧ v < nI (D 0 0)
  · obtain ⟨i, hi, rfl⟩ := lt_of_nI (by omega) h2.1 h2.2
    obtain ⟨nm, hm, tm, om, s1, s2, s3, s4⟩ := hR.2.2.2.2.1
    obtain ⟨σc', σm', a1, a2, a3, a4, a5, a6, a7, a8⟩ := cm_who F i nm hm tm om (by omega) hH hi s1 s2 s3 s4
    simp only [bI_nf h2, bI_t h2, a1, a2, xb1_s, xb2_s, xck_1, i10, i00, i11, ↓reduceIte]
    refine ⟨_, _, _, rfl, rfl, Rel_day hR hH a3 rfl (fun e _ => ⟨rfl, rfl, rfl⟩) (xFr_mono a6 (by simp) (by simp)) (xFr_mono a7 (by simp) (by simp)) (fun e he => ⟨?_, a8 e he, ?_⟩)⟩
    · rw [a7.2 11 (by decide)]
    · rw [a7.2 13 (by decide)]
  · simp only [bI_nt h2, bI_f h2, xb1_s, xb2_s, xck_1, i10, i00, i11, ↓reduceIte]
    exact ⟨_, _, _, rfl, rfl, hR⟩
