def bsf (f : Nat → Nat) : Nat → Option Nat
  | 0 => none
  | n + 1 => match bsf f n with
    | none => some n
    | some b => if f n < f b then some n else some b
def bsI (o : Option Nat) : Int32 := match o with
  | none => -1
  | some b => nI b
def bsC (f : Nat → Nat) (o : Option Nat) : Int32 := match o with
  | none => 9
  | some b => nI (f b)
def bsM (f : Nat → Nat) (o : Option Nat) : Int32 := match o with
  | none => 0
  | some b => nI (f b)
theorem bsf_lt {f : Nat → Nat} : ∀ {n b : Nat}, bsf f n = some b → b < n
  | 0, b, h => by cases h
  | n + 1, b, h => by
    unfold bsf at h
    cases e : bsf f n with
    | none => rw [e] at h; cases h; omega
    | some c =>
      rw [e] at h
      have := bsf_lt e
      by_cases q : f n < f c
      · simp only [q, ↓reduceIte] at h; cases h; omega
      · simp only [q, ↓reduceIte] at h; cases h; omega
/-- the count for one thing -/
def alk (s : Nat → Bool) (H : Hs) (D : Dy) (i hr t : Nat) : Nat := cM s (fun z => toldL (hN H t) (dayL H (Dset D i z) t (hr + 1))) 8
theorem c_standL (F hr i : Nat) (W : Int32) (s : Nat → Bool) (H : Hs) (D : Dy) (hF : 100 ≤ F) (hB : HB H) (hr1 : hr < 24) (h7 : ∀ x, D 7 x = 0) (hi : i < D 0 0) (h44 : D 0 0 ≤ 44) (h3 : D 3 i < 1000) (hs : ∀ q, q < 8 → (hasB W q ↔ s q = true)) : ∀ (fu t : Nat) (σ : xSt), t ≤ hT H → hT H < t + fu → CH σ H → CD σ D →
    ∃ σ', mX1_tellingThing_L16 F fu (nI i) (nI hr) W (bsI (bsf (alk s H D i hr) t)) (bsC (alk s H D i hr) (bsf (alk s H D i hr) t)) (nI t) σ = some (bsI (bsf (alk s H D i hr) (hT H)), σ') ∧ CD σ' D ∧ xFr [1, 2] [1, 2, 3, 4, 21] σ σ' := by
  have hb1 := hB.1
  intro fu
  induction fu with
  | zero => intro t σ a b; omega
  | succ fu ih =>
    intro t σ a b hC hD
    show ∃ σ', mX1_tellingThing_S16 F (mX1_tellingThing_L16 F fu) (nI i) (nI hr) W _ _ (nI t) σ = _ ∧ _
    unfold mX1_tellingThing_S16 mX1_tellingThing_L63 mX1_tellingThing_L57
    rw [show xI σ (12 + 0) = nI (hT H) from hC.1]
    by_cases e : t = hT H
    · rw [if_pos (by rw [e]; exact nI_le (Nat.le_refl _) (by omega)), e]
      exact ⟨σ, rfl, hD, xFr_rf⟩
    · rw [if_neg (nI_ge (by omega) (by omega)), nI_1]
      obtain ⟨σ1, b1, b2, b3⟩ := c_mostL F t hr i W s H D hF hB (by omega) hr1 h7 hi h44 h3 hs F 0 (D 3 i) σ (by omega) (by omega) hC (by rw [Dset_id]; exact hD) (fun z hz => by omega)
      have em : mX1_mostAlike F (nI t) (nI i) (nI hr) W σ = some (nI (alk s H D i hr t), σ1) := by
        unfold mX1_mostAlike
        rw [if_neg (nI_pos (by omega)), show xI σ (14 + 0) = nI (D 0 0) from hD.2.1.1, if_pos (nI_lt hi (by omega)), xck_in (show i < lnT 0 by show i < 44; omega) (by decide), nI_clamp (by omega), show xA σ (21 + 0) i = nI (D 3 i) from (hD.2.1.2.1 i hi).2.2.2]
        exact b1
      rw [em, xb2_s]
      obtain ⟨σ', z1, z2, z3⟩ := ih (t + 1) σ1 (by omega) (by omega) (CH_fr hC (b3.1 _ (by decide)) (b3.1 _ (by decide)) (fun a h1 h2 => b3.2 a (by simp <;> omega))) b2
      refine ⟨σ', ?_, z2, xFr_tr b3 z3⟩
      rw [← z1]
      have al : alk s H D i hr t ≤ 8 := cM_le8 8
      cases eb : bsf (alk s H D i hr) t with
      | none =>
        have e2 : bsf (alk s H D i hr) (t + 1) = some t := by show (match bsf (alk s H D i hr) t with | none => some t | some b => _) = _; rw [eb]
        rw [e2]
        show (if (9 : Int32) ≤ nI (alk s H D i hr t) then _ else _) = _
        rw [if_neg (show ¬ ((9 : Int32) ≤ nI (alk s H D i hr t)) from nI_ge (b := 9) (by omega) (by omega))]; rfl
      | some c =>
        have al2 : alk s H D i hr c ≤ 8 := cM_le8 8
        show (if nI (alk s H D i hr c) ≤ nI (alk s H D i hr t) then _ else _) = _
        by_cases q : alk s H D i hr t < alk s H D i hr c
        · have e2 : bsf (alk s H D i hr) (t + 1) = some t := by show (match bsf (alk s H D i hr) t with | none => some t | some b => if alk s H D i hr t < alk s H D i hr b then some t else some b) = _; rw [eb]; simp only [q, ↓reduceIte]
          rw [e2, if_neg (nI_ge q (by omega))]; rfl
        · have e2 : bsf (alk s H D i hr) (t + 1) = some c := by show (match bsf (alk s H D i hr) t with | none => some t | some b => if alk s H D i hr t < alk s H D i hr b then some t else some b) = _; rw [eb]; simp only [q, ↓reduceIte]
          rw [e2, if_pos (nI_le (by omega) (by omega))]
/-! the model's count for one thing -/
theorem MD_31 {σ σ' : xSt} {D : Dy} (h : MD σ D) (f : xFr [] [31] σ σ') : MD σ' D := by
  unfold MD
  rw [f.1 20 (by simp), f.1 21 (by simp), f.1 22 (by simp), f.1 23 (by simp), f.2 11 (by decide), f.2 12 (by decide), f.2 13 (by decide), f.2 15 (by decide), f.2 16 (by decide)]
  exact h
theorem m_st38 (F t hr i : Nat) (c23 : Int32 → Int32 → Int32 → Int32 → Int32 → Int32 → Int32 → xSt → Option (Int32 × xSt)) (v3 v5 v6 v8 : Int32) (H : Hs) (D : Dy) (hF : 100 ≤ F) (hB : HB H) (ht : t < hT H) (hr1 : hr < 24) (h7 : ∀ x, D 7 x = 0) (hi : i < D 0 0) (h44 : D 0 0 ≤ 44) : ∀ (fu p q : Nat) (σ : xSt), p ≤ hP H → hP H < p + fu → MH σ H → MD σ (Dset D i q) → (∀ z, z < p → xA σ 31 z = toldL (hN H t) (dayL H (Dset D i z) t (hr + 1))) →
    ∃ σ' q', mX9_standOf_L38 F c23 fu (nI i) (nI hr) v3 (nI (D 3 i)) v5 v6 (nI t) v8 (nI p) σ = mX9_standOf_L79 F c23 (nI i) (nI hr) v3 (nI (D 3 i)) v5 v6 (nI t) v8 σ' ∧ MH σ' H ∧ MD σ' (Dset D i q') ∧ (∀ z, z < hP H → xA σ' 31 z = toldL (hN H t) (dayL H (Dset D i z) t (hr + 1))) ∧ xFr [] [17, 18, 19, 12, 31] σ σ' ∧ ∀ e, e ≠ i → xA σ' 12 e = xA σ 12 e := by
  have hb1 := hB.1
  have hb2 := hB.2.1
  intro fu
  induction fu with
  | zero => intro p q σ a b; omega
  | succ fu ih =>
    intro p q σ a b hM' hD ha
    show ∃ σ' q', mX9_standOf_S38 F c23 (mX9_standOf_L38 F c23 fu) (nI i) (nI hr) v3 (nI (D 3 i)) v5 v6 (nI t) v8 (nI p) σ = _ ∧ _
    unfold mX9_standOf_S38
    rw [hM'.2.2.1]
    by_cases e : p = hP H
    · rw [if_pos (by rw [e]; exact nI_le (Nat.le_refl _) (by omega))]
      exact ⟨σ, q, rfl, hM', hD, fun z hz => ha z (by omega), xFr_rf, fun _ _ => rfl⟩
    · rw [if_neg (nI_ge (by omega) (by omega)), xck_in (show i < 44 by omega) (by omega), nI_clamp (by omega), nI_1]
      have hD1 : MD (xsA σ 12 i (nI p)) (Dset D i p) := MD_set hi (by omega) hD
      have f0 : xFr [] [17, 18, 19, 12, 31] σ (xsA σ 12 i (nI p)) := xFr_sA (by decide)
      have hM1 : MH (xsA σ 12 i (nI p)) H := MH_fr hM' f0 (by simp) (by simp)
      obtain ⟨σ1, c1, c2, c3⟩ := m_runs F hr H (Dset D i p) hF hr1 hB (fun x _ q => by rw [show Dset D i p 7 x = 0 from h7 x] at q; omega) _ hM1 hD1
      have hM2 := MH_l hM1 c2
      rw [c1, xb1_s, m_tellsNow F t H hF hB ht _ σ1 hM2 (c3 t ht).1, xb2_s, xck_in (show p < 8 by omega) (by omega), nI_clamp (show p < 2 ^ 31 by omega)]
      have f2 : xFr [] [31] σ1 (xsA σ1 31 p (toldL (hN H t) (dayL H (Dset D i p) t (hr + 1)))) := xFr_sA (by decide)
      have hM3 := MH_fr hM2 f2 (by simp) (by simp)
      have hD3 : MD (xsA σ1 31 p (toldL (hN H t) (dayL H (Dset D i p) t (hr + 1)))) (Dset D i p) := MD_31 (MD_l hD1 c2) f2
      obtain ⟨σ', q', z1, z2, z3, z4, z5, z6⟩ := ih (p + 1) p _ (by omega) (by omega) hM3 hD3 (fun z hz => by
        rw [xA_s1, upd_e]
        by_cases w : z = p
        · rw [if_pos w, w]
        · rw [if_neg w, c2.2 31 (by decide), xA_s0 (by decide)]; exact ha z (by omega))
      refine ⟨σ', q', z1, z2, z3, z4, xFr_tr (xFr_tr (xFr_tr f0 (xFr_mono c2 (by simp) (by simp))) (xFr_mono f2 (by simp) (by simp))) z5, fun z hz => ?_⟩
      rw [z6 z hz, xA_s0 (by decide), c2.2 12 (by decide), xA_s1, upd_0 hz]
def ccA (s : Nat → Bool) (g : Nat → Int32) (p q : Nat) : Nat := if s p then cntA s g p q else 0
theorem m_st97 (F P p : Nat) (W : Int32) (s : Nat → Bool) (g : Nat → Int32) (c23 : Int32 → Int32 → Int32 → Int32 → Int32 → Int32 → Int32 → xSt → Option (Int32 × xSt)) (c82 : Int32 → Int32 → Int32 → Int32 → Int32 → Int32 → Int32 → Int32 → Int32 → xSt → Option (Int32 × xSt)) (v1 v2 v4 v5 v6 v7 v8 : Int32) (hP : P ≤ 8) (hp : p < P) (hs : ∀ q, q < 8 → (hasB W q ↔ s q = true)) (σ : xSt) (h6 : xI σ 6 = nI P) (ha : ∀ z, z < P → xA σ 31 z = g z) : ∀ (fu q : Nat), q ≤ P → P < q + fu →
    mX9_standOf_L97 F c23 c82 fu v1 v2 W v4 v5 v6 v7 v8 (nI p) (nI (ccA s g p q)) (nI q) σ = mX9_standOf_L157 F c23 c82 v1 v2 W v4 v5 v6 v7 v8 (nI p) (nI (ccA s g p P)) σ := by
  intro fu
  induction fu with
  | zero => intro q a b; omega
  | succ fu ih =>
    intro q a b
    show mX9_standOf_S97 F c23 c82 (mX9_standOf_L97 F c23 c82 fu) v1 v2 W v4 v5 v6 v7 v8 (nI p) (nI (ccA s g p q)) (nI q) σ = _
    unfold mX9_standOf_S97 mX9_standOf_L147 mX9_standOf_L148
    rw [h6]
    by_cases e : q = P
    · rw [if_pos (by rw [e]; exact nI_le (Nat.le_refl _) (by omega)), e]
    · have e0 : nI (ccA s g p q) + 0 = nI (ccA s g p q) := nI_add _ 0
      have e1 : nI (ccA s g p q) + 1 = nI (ccA s g p q + 1) := nI_1 _
      rw [if_neg (nI_ge (by omega) (by omega)), m_isI, xb2_s, e0, e1, nI_1, ← ih (q + 1) (by omega) (by omega)]
      have ec : cntA s g p (q + 1) = cntA s g p q + (if (s q && decide (g q = g p)) then 1 else 0) := rfl
      by_cases q0 : s p = true
      · rw [bI_t ((hs p (by omega)).mpr q0), if_neg (by decide), m_isI, xb2_s]
        have ecc : ccA s g p (q + 1) = ccA s g p q + (if (s q && decide (g q = g p)) then 1 else 0) := by unfold ccA; rw [if_pos q0, if_pos q0, ec]
        rw [ecc]
        by_cases q1 : s q = true
        · rw [bI_t ((hs q (by omega)).mpr q1), if_neg (by decide), xck_in (by omega) (by omega), xck_in (by omega) (by omega), nI_clamp (by omega), nI_clamp (by omega), ha p hp, ha q (by omega)]
          by_cases q2 : g p = g q
          · rw [if_pos q2]; simp [q1, q2]
          · have q2' : ¬ g q = g p := fun w => q2 w.symm
            rw [if_neg q2]; simp [q2']
        · rw [bI_f (fun z => q1 ((hs q (by omega)).mp z)), if_pos rfl]
          simp [q1]
      · have ecc : ccA s g p (q + 1) = ccA s g p q := by unfold ccA; rw [if_neg q0, if_neg q0]
        rw [bI_f (fun z => q0 ((hs p (by omega)).mp z)), if_pos rfl, ecc]
theorem mM_le {s : Nat → Bool} {g : Nat → Int32} {P : Nat} : ∀ n, mM s g P n ≤ P
  | 0 => Nat.zero_le _
  | n + 1 => by
    have ih := mM_le n (s := s) (g := g) (P := P)
    have : cntA s g n P ≤ P := fb_ct_le _ _
    unfold mM
    refine Nat.max_le.mpr ⟨ih, ?_⟩
    by_cases q : s n = true
    · rw [if_pos q]; exact this
    · rw [if_neg q]; omega
theorem m_st82 (F P : Nat) (W : Int32) (s : Nat → Bool) (g : Nat → Int32) (c23 : Int32 → Int32 → Int32 → Int32 → Int32 → Int32 → Int32 → xSt → Option (Int32 × xSt)) (v1 v2 v4 v5 v6 v7 : Int32) (hF : 100 ≤ F) (hP : P ≤ 8) (hs : ∀ q, q < 8 → (hasB W q ↔ s q = true)) (σ : xSt) (h6 : xI σ 6 = nI P) (ha : ∀ z, z < P → xA σ 31 z = g z) : ∀ (fu p : Nat), p ≤ P → P < p + fu →
    mX9_standOf_L82 F c23 fu v1 v2 W v4 v5 v6 v7 (nI (mM s g P p)) (nI p) σ = mX9_standOf_L179 F c23 v1 v2 W v4 v5 v6 v7 (nI (mM s g P P)) σ := by
  intro fu
  induction fu with
  | zero => intro p a b; omega
  | succ fu ih =>
    intro p a b
    show mX9_standOf_S82 F c23 (mX9_standOf_L82 F c23 fu) v1 v2 W v4 v5 v6 v7 (nI (mM s g P p)) (nI p) σ = _
    unfold mX9_standOf_S82
    rw [h6]
    by_cases e : p = P
    · rw [if_pos (by rw [e]; exact nI_le (Nat.le_refl _) (by omega)), e]
    · rw [if_neg (nI_ge (by omega) (by omega))]
      have z0 : ccA s g p 0 = 0 := by unfold ccA; split <;> rfl
      have e97 := m_st97 F P p W s g c23 (mX9_standOf_L82 F c23 fu) v1 v2 v4 v5 v6 v7 (nI (mM s g P p)) hP (by omega) hs σ h6 ha F 0 (by omega) (by omega)
      rw [z0] at e97
      rw [show mX9_standOf_L97 F c23 (mX9_standOf_L82 F c23 fu) F v1 v2 W v4 v5 v6 v7 (nI (mM s g P p)) (nI p) 0 0 σ = _ from e97]
      unfold mX9_standOf_L157 mX9_standOf_L171
      have l1 := @mM_le s g P p
      have l2 : ccA s g p P ≤ P := by unfold ccA; split
                                      · exact fb_ct_le _ _
                                      · omega
      rw [nI_1, ← ih (p + 1) (by omega) (by omega)]
      have em : mM s g P (p + 1) = max (mM s g P p) (ccA s g p P) := rfl
      rw [em]
      by_cases q : ccA s g p P ≤ mM s g P p
      · rw [if_pos (nI_le q (by omega)), Nat.max_eq_left q]
      · rw [if_neg (nI_ge (by omega) (by omega)), Nat.max_eq_right (by omega)]
theorem m_standL (F hr i : Nat) (W : Int32) (s : Nat → Bool) (H : Hs) (D : Dy) (hF : 100 ≤ F) (hB : HB H) (hr1 : hr < 24) (h7 : ∀ x, D 7 x = 0) (hi : i < D 0 0) (h44 : D 0 0 ≤ 44) (h3 : D 3 i < 1000) (hs : ∀ q, q < 8 → (hasB W q ↔ s q = true)) (hsP : ∀ p, hP H ≤ p → s p = false) : ∀ (fu t q : Nat) (σ : xSt), t ≤ hT H → hT H < t + fu → MH σ H → MD σ (Dset D i q) →
    ∃ σ', mX9_standOf_L23 F fu (nI i) (nI hr) W (nI (D 3 i)) (bsI (bsf (alk s H D i hr) t)) (bsM (alk s H D i hr) (bsf (alk s H D i hr) t)) (nI t) σ = some (bsI (bsf (alk s H D i hr) (hT H)), σ') ∧ MD σ' D ∧ xFr [] [17, 18, 19, 12, 31] σ σ' ∧ ∀ e, e ≠ i → xA σ' 12 e = xA σ 12 e := by
  have hb1 := hB.1
  have hb2 := hB.2.1
  intro fu
  induction fu with
  | zero => intro t q σ a b; omega
  | succ fu ih =>
    intro t q σ a b hM' hD
    show ∃ σ', mX9_standOf_S23 F (mX9_standOf_L23 F fu) (nI i) (nI hr) W (nI (D 3 i)) _ _ (nI t) σ = _ ∧ _
    unfold mX9_standOf_S23 mX9_standOf_L233
    rw [hM'.1, xck_in (show i < 44 by omega) (by omega), nI_clamp (show i < 2 ^ 31 by omega)]
    by_cases e : t = hT H
    · rw [if_pos (by rw [e]; exact nI_le (Nat.le_refl _) (by omega)), e]
      have f0 : xFr [] [17, 18, 19, 12, 31] σ (xsA σ 12 i (nI (D 3 i))) := xFr_sA (by decide)
      refine ⟨_, rfl, ?_, f0, fun z hz => by rw [xA_s1, upd_0 hz]⟩
      have := MD_set hi h3 hD
      rw [Dset_id] at this
      exact this
    · rw [if_neg (nI_ge (by omega) (by omega))]
      obtain ⟨σ1, q', b1, b2, b3, b4, b5, b6⟩ := m_st38 F t hr i (mX9_standOf_L23 F fu) W (bsI (bsf (alk s H D i hr) t)) (bsM (alk s H D i hr) (bsf (alk s H D i hr) t)) 0 H D hF hB (by omega) hr1 h7 hi h44 F 0 q σ (by omega) (by omega) hM' hD (fun z hz => by omega)
      rw [show mX9_standOf_L38 F (mX9_standOf_L23 F fu) F (nI i) (nI hr) W (nI (D 3 i)) (bsI (bsf (alk s H D i hr) t)) (bsM (alk s H D i hr) (bsf (alk s H D i hr) t)) (nI t) 0 0 σ = _ from b1]
      unfold mX9_standOf_L79
      rw [show mX9_standOf_L82 F (mX9_standOf_L23 F fu) F (nI i) (nI hr) W (nI (D 3 i)) (bsI (bsf (alk s H D i hr) t)) (bsM (alk s H D i hr) (bsf (alk s H D i hr) t)) (nI t) 0 0 σ1 = _ from m_st82 F (hP H) W s (fun z => toldL (hN H t) (dayL H (Dset D i z) t (hr + 1))) (mX9_standOf_L23 F fu) _ _ _ _ _ _ hF hb2 hs σ1 b2.2.2.1 b4 F 0 (by omega) (by omega)]
      rw [← alike_eq hb2 hsP, show cM s (fun z => toldL (hN H t) (dayL H (Dset D i z) t (hr + 1))) 8 = alk s H D i hr t from rfl]
      unfold mX9_standOf_L179 mX9_standOf_L192 mX9_standOf_L197 mX9_standOf_L211 mX9_standOf_L225
      rw [nI_1]
      obtain ⟨σ', z1, z2, z3, z4⟩ := ih (t + 1) q' σ1 (by omega) (by omega) b2 b3
      refine ⟨σ', ?_, z2, xFr_tr b5 z3, fun z hz => by rw [z4 z hz, b6 z hz]⟩
      rw [← z1]
      have al : alk s H D i hr t ≤ 8 := cM_le8 8
      cases eb : bsf (alk s H D i hr) t with
      | none =>
        have e2 : bsf (alk s H D i hr) (t + 1) = some t := by show (match bsf (alk s H D i hr) t with | none => some t | some b => _) = _; rw [eb]
        rw [e2]
        simp only [bsI, bsM, i10, i00, i11, ↓reduceIte]
      | some c =>
        have hc := bsf_lt eb
        have al2 : alk s H D i hr c ≤ 8 := cM_le8 8
        simp only [bsI, bsM, eq_false (not_m1 (show c < 2 ^ 31 by omega)), i10, i00, i11, ↓reduceIte]
        by_cases q : alk s H D i hr t < alk s H D i hr c
        · have e2 : bsf (alk s H D i hr) (t + 1) = some t := by show (match bsf (alk s H D i hr) t with | none => some t | some b => if alk s H D i hr t < alk s H D i hr b then some t else some b) = _; rw [eb]; simp only [q, ↓reduceIte]
          rw [e2, if_neg (nI_ge q (by omega))]
        · have e2 : bsf (alk s H D i hr) (t + 1) = some c := by show (match bsf (alk s H D i hr) t with | none => some t | some b => if alk s H D i hr t < alk s H D i hr b then some t else some b) = _; rw [eb]; simp only [q, ↓reduceIte]
          rw [e2, if_pos (nI_le (by omega) (by omega))]
theorem p_stand (F : Nat) (hF : 5000 ≤ F) : zP_stand F Rel := by
  intro σc σm hR v h
  obtain ⟨H, D, hH⟩ := Hse_of hR
  have hB := hH.1
  have hb1 := hB.1
  have hb2 := hB.2.1
  have hn := hH.2.2.2.2.1.1
  unfold mX8_stand mX9_stand mX8_stand_L15 mX8_stand_L29 mX9_stand_L24 mX9_stand_L26
  simp only [c_noSitting F v hH.2.2.1, m_isSitting F v hH.2.2.2.2.1, xb1_s, xb2_s, xck_1, i10, i00, i11, ↓reduceIte]
  by_cases h2 : ¬ v < 0 ∧ v < nI (D 0 0)
  · obtain ⟨i, hi, rfl⟩ := lt_of_nI (by omega) h2.1 h2.2
    simp only [bI_nf h2, bI_t h2, c_noHour, m_isHour, xb1_s, xb2_s, xck_1, i10, i00, i11, ↓reduceIte]
    by_cases h1 : 0 ≤ h ∧ h ≤ 23
    · obtain ⟨hr, hr1, rfl⟩ := rngI (n := 23) (by decide) (by decide) h1
      obtain ⟨nm, hm, tm, om, s1, s2, s3, s4⟩ := hR.2.2.2.2.1
      obtain ⟨σc1, σm1, a1, a2, a3, a4, a5, a6, a7, a8⟩ := cm_who F i nm hm tm om (by omega) hH hi s1 s2 s3 s4
      obtain ⟨y1, y2, y3, y4, y5, y6⟩ := hH.2.2.2.2.1.2.2.1 i hi
      have hs : ∀ q, q < 8 → (hasB (whoB (wF H D nm hm tm om i) (hP H)) q ↔ (decide (q < hP H) && wF H D nm hm tm om i q) = true) := fun q hq => who_has hb2 (by omega)
      have hsP : ∀ p, hP H ≤ p → (decide (p < hP H) && wF H D nm hm tm om i p) = false := fun p hp => by
        rw [decide_eq_false (by omega), Bool.false_and]
      obtain ⟨σc2, c1, c2, c3⟩ := c_standL F hr i (whoB (wF H D nm hm tm om i) (hP H)) (fun q => decide (q < hP H) && wF H D nm hm tm om i q) H D (by omega) hB (by omega) hH.2.2.2.2.2.1 hi (by omega) (by omega) hs F 0 σc1 (by omega) (by omega) (CH_fr hH.2.1 (a6.1 _ (by decide)) (a6.1 _ (by decide)) (fun a h1 h2 => a6.2 a (by simp <;> omega))) a3
      obtain ⟨σm2, d1, d2, d3, d4⟩ := m_standL F hr i (whoB (wF H D nm hm tm om i) (hP H)) (fun q => decide (q < hP H) && wF H D nm hm tm om i q) H D (by omega) hB (by omega) hH.2.2.2.2.2.1 hi (by omega) (by omega) hs hsP F 0 (D 3 i) σm1 (by omega) (by omega) a5 (by rw [Dset_id]; exact a4)
      have e12 : xA σm1 12 i = nI (D 3 i) := (a4.2.2.1 i hi).2.2.1
      unfold mX1_tellingThing mX9_standOf
      simp only [bI_nf h1, bI_t h1, a1, a2, xin_nI (show i < 44 by omega) (by omega), nI_clamp (show i < 2 ^ 31 by omega), e12, xb1_s, xb2_s, xck_1, i10, i00, i11, ↓reduceIte]
      rw [show mX1_tellingThing_L16 F F (nI i) (nI hr) (whoB (wF H D nm hm tm om i) (hP H)) (-1) 9 0 σc1 = _ from c1, show mX9_standOf_L23 F F (nI i) (nI hr) (whoB (wF H D nm hm tm om i) (hP H)) (nI (D 3 i)) (-1) 0 0 σm1 = _ from d1, xb2_s, xb2_s]
      have fm : xFr mI (mA ++ [11, 12, 13]) σm σm2 := xFr_tr (xFr_mono a7 (by simp) (by simp)) (xFr_mono d3 (by simp) (by simp))
      refine ⟨_, _, _, rfl, rfl, Rel_day hR hH c2 rfl (fun e _ => ⟨rfl, rfl, rfl⟩) (xFr_tr (xFr_mono a6 (by simp) (by simp)) (xFr_mono c3 (by simp) (by simp))) fm (fun e he => ⟨?_, ?_, ?_⟩)⟩
      · rw [d3.2 11 (by decide), a7.2 11 (by decide)]
      · by_cases w : e = i
        · rw [w, (d2.2.2.1 i hi).2.2.1, y3]
        · rw [d4 e w, a8 e he]
      · rw [d3.2 13 (by decide), a7.2 13 (by decide)]
    · simp only [bI_nt h1, bI_f h1, xb1_s, xb2_s, xck_1, i10, i00, i11, ↓reduceIte]
      exact ⟨_, _, _, rfl, rfl, hR⟩
  · simp only [bI_nt h2, bI_f h2, xb1_s, xb2_s, xck_1, i10, i00, i11, ↓reduceIte]
    exact ⟨_, _, _, rfl, rfl, hR⟩
