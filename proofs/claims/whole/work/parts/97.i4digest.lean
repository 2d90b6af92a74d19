/-! ===== digest ===== -/
theorem dg_end {H : Hs} {D : Dy} {σc σm : xSt} (F : Nat) (v : Int64) (hF : 5000 ≤ F) (hRR : RQ H D σc σm) : ∃ r σc' σm', mX8_digest_L497 F v σc = some (r, σc') ∧ mX9_digest_L256 F v σm = some (r, σm') ∧ RQ H D σc' σm' := by
  obtain ⟨r1, σc1, σm1, a1, a2, a3⟩ := q_together F hF H D σc σm hRR (-1)
  rw [o_together F (-1) (by decide)] at a2
  obtain ⟨r2, σc2, σm2, b1, b2, b3⟩ := q_together F hF H D σc1 σm1 a3 0
  rw [o_together F 0 (by decide)] at b2
  obtain ⟨r3, r4, σc3, σc4, σm3, c1, c2, c3, c4, c5⟩ := o_frame F hF b3
  obtain ⟨r5, r6, σc5, σc6, σm4, d1, d2, d3, d4, d5⟩ := o_air F hF c5
  unfold mX8_digest_L497 mX9_digest_L256 mX9_digest_L323
  rw [a1, xb2_s, b1, xb2_s, c1, xb2_s, c2, xb2_s, d1, xb2_s, d2, xb2_s, a2, xb2_s, b2, xb2_s, c3, xb2_s]
  rcases c4 with ⟨e1, e2⟩ | ⟨e1, e2⟩
  · rw [if_pos e1, d3, xb2_s, d4, xb2_s, ← e2]
    exact ⟨_, _, _, rfl, rfl, d5⟩
  · rw [if_neg e1, e2, xb2_s, d3, xb2_s, d4, xb2_s]
    exact ⟨_, _, _, rfl, rfl, d5⟩
theorem dg_sit {H : Hs} {D : Dy} (F : Nat) (hF : 5000 ≤ F) : ∀ (d fu i : Nat) (v : Int64) (σc σm : xSt), i + d = D 0 0 → d < fu → RQ H D σc σm →
    ∃ r σc' σm', mX8_digest_L449 F fu v (nI i) σc = some (r, σc') ∧ mX9_digest_L214 F fu v (nI i) σm = some (r, σm') ∧ RQ H D σc' σm' := by
  intro d
  induction d with
  | zero =>
    intro fu i v σc σm e h hRR
    have hn := hRR.2.1.2.2.2.2.1.1
    obtain ⟨fu, rfl⟩ : ∃ f, fu = f + 1 := ⟨fu - 1, by omega⟩
    show ∃ r σc' σm', mX8_digest_S449 F (mX8_digest_L449 F fu) v (nI i) σc = some (r, σc') ∧ mX9_digest_S214 F (mX9_digest_L214 F fu) v (nI i) σm = some (r, σm') ∧ _
    unfold mX8_digest_S449 mX9_digest_S214
    rw [show xI σc (14 + 0) = nI (D 0 0) from hRR.2.1.2.2.1.2.1.1, hRR.2.1.2.2.2.2.1.2.1, if_pos (nI_le (by omega) (by omega)), if_pos (nI_le (by omega) (by omega))]
    exact dg_end F v hF hRR
  | succ d ih =>
    intro fu i v σc σm e h hRR
    have hn := hRR.2.1.2.2.2.2.1.1
    obtain ⟨fu, rfl⟩ : ∃ f, fu = f + 1 := ⟨fu - 1, by omega⟩
    show ∃ r σc' σm', mX8_digest_S449 F (mX8_digest_L449 F fu) v (nI i) σc = some (r, σc') ∧ mX9_digest_S214 F (mX9_digest_L214 F fu) v (nI i) σm = some (r, σm') ∧ _
    unfold mX8_digest_S449 mX9_digest_S214
    rw [show xI σc (14 + 0) = nI (D 0 0) from hRR.2.1.2.2.1.2.1.1, hRR.2.1.2.2.2.2.1.2.1, if_neg (nI_ge (by omega) (by omega)), if_neg (nI_ge (by omega) (by omega))]
    obtain ⟨r1, σc1, σm1, a1, a2, a3⟩ := q_who F hF H D σc σm hRR (nI i)
    rw [o_who F i hRR (by omega)] at a2
    obtain ⟨r2, σc2, σm2, b1, b2, b3⟩ := q_stand F hF H D σc1 σm1 a3 (nI i) 9
    rw [o_stand F i 9 (by decide) a3 (by omega)] at b2
    rw [a1, xb2_s, b1, xb2_s, a2, xb2_s, b2, xb2_s, nI_1]
    exact ih fu (i + 1) _ σc2 σm2 (by omega) (by omega) b3
theorem dg_hour {H : Hs} {D : Dy} {σc σm : xSt} (F fu k : Nat) (v : Int64) (hF : 5000 ≤ F) (hk : k < 5) (hRR : RQ H D σc σm) : ∃ w σc' σm', mX8_digest_L385 F (fu + 1) v 5 (nI k) σc = mX8_digest_L385 F fu w 5 (nI (k + 1)) σc' ∧ mX9_hourDigest F v (xDH k) σm = some (w, σm') ∧ RQ H D σc' σm' := by
  have hh : ∀ z, z < 5 → (0 ≤ xDH z ∧ xDH z ≤ 23) := by decide +kernel
  obtain ⟨r1, σc1, σm1, a1, a2, a3⟩ := q_tells F hF H D σc σm hRR (xDH k) (-1)
  rw [o_tells F _ (hh k hk)] at a2
  obtain ⟨r2, σc2, σm2, b1, b2, b3⟩ := q_nowhere F hF H D σc1 σm1 a3 (xDH k)
  rw [o_nowhere F _ (hh k hk)] at b2
  obtain ⟨r3, σc3, σm3, c1, c2, c3⟩ := q_known F hF H D σc2 σm2 b3 (xDH k)
  rw [o_known F _ (hh k hk)] at c2
  refine ⟨(31 * ((31 * ((31 * v) + (Int32.toInt64 r1))) + (Int32.toInt64 r2))) + (Int32.toInt64 r3), σc3, σm3, ?_, ?_, c3⟩
  · show mX8_digest_S385 F (mX8_digest_L385 F fu) v 5 (nI k) σc = _
    unfold mX8_digest_S385
    rw [if_neg (show ¬ ((5 : Int32) ≤ nI k) from nI_ge (b := 5) (by omega) (by omega)), xck_in (show k < 5 by omega) (by omega), nI_clamp (by omega), a1, xb2_s, b1, xb2_s, c1, xb2_s, nI_1]
  · unfold mX9_hourDigest
    rw [a2, xb2_s, b2, xb2_s, c2, xb2_s]
theorem dg_hours {H : Hs} {D : Dy} {σc σm : xSt} (F : Nat) (v : Int64) (hF : 5000 ≤ F) (hRR : RQ H D σc σm) : ∃ r σc' σm', mX8_digest_L374 F v σc = some (r, σc') ∧ mX9_digest_L175 F v σm = some (r, σm') ∧ RQ H D σc' σm' := by
  have hn := hRR.2.1.2.2.2.2.1.1
  obtain ⟨fu, hfu⟩ : ∃ f, F = f + 6 := ⟨F - 6, by omega⟩
  obtain ⟨w1, σc1, σm1, a1, a2, a3⟩ := dg_hour F (fu + 5) 0 v hF (by omega) hRR
  obtain ⟨w2, σc2, σm2, b1, b2, b3⟩ := dg_hour F (fu + 4) 1 w1 hF (by omega) a3
  obtain ⟨w3, σc3, σm3, c1, c2, c3⟩ := dg_hour F (fu + 3) 2 w2 hF (by omega) b3
  obtain ⟨w4, σc4, σm4, d1, d2, d3⟩ := dg_hour F (fu + 2) 3 w3 hF (by omega) c3
  obtain ⟨w5, σc5, σm5, e1, e2, e3⟩ := dg_hour F (fu + 1) 4 w4 hF (by omega) d3
  obtain ⟨r, σc', σm', z1, z2, z3⟩ := dg_sit F hF (D 0 0) F 0 w5 σc5 σm5 (by omega) (by omega) e3
  refine ⟨r, σc', σm', ?_, ?_, z3⟩
  · unfold mX8_digest_L374
    have e0 : mX8_digest_L385 F F v 5 0 σc = mX8_digest_L385 F (fu + 5 + 1) v 5 (nI 0) σc := by rw [show fu + 5 + 1 = F by omega]; rfl
    rw [e0, a1, show fu + 5 = fu + 4 + 1 from rfl, b1, show fu + 4 = fu + 3 + 1 from rfl, c1, show fu + 3 = fu + 2 + 1 from rfl, d1, show fu + 2 = fu + 1 + 1 from rfl, e1]
    show mX8_digest_S385 F (mX8_digest_L385 F fu) w5 5 (nI 5) σc5 = _
    unfold mX8_digest_S385 mX8_digest_L447
    rw [if_pos (by decide)]
    exact z1
  · unfold mX9_digest_L175
    rw [show mX9_hourDigest F v 0 σm = _ from a2, xb2_s, show mX9_hourDigest F w1 1 σm1 = _ from b2, xb2_s, show mX9_hourDigest F w2 5 σm2 = _ from c2, xb2_s, show mX9_hourDigest F w3 10 σm3 = _ from d2, xb2_s, show mX9_hourDigest F w4 23 σm4 = _ from e2, xb2_s]
    exact z2
theorem dg_per {H : Hs} {D : Dy} (F : Nat) (hF : 5000 ≤ F) : ∀ (d fu p : Nat) (v : Int64) (σc σm : xSt), p + d = hP H → d < fu → RQ H D σc σm → MH σm H →
    ∃ r σc' σm', mX8_digest_L266 F fu v (nI p) σc = some (r, σc') ∧ mX9_digest_L82 F fu v (nI p) σm = some (r, σm') ∧ RQ H D σc' σm' := by
  intro d
  induction d with
  | zero =>
    intro fu p v σc σm e h hRR hM'
    have hb2 := hRR.2.1.1.2.1
    obtain ⟨fu, rfl⟩ : ∃ f, fu = f + 1 := ⟨fu - 1, by omega⟩
    show ∃ r σc' σm', mX8_digest_S266 F (mX8_digest_L266 F fu) v (nI p) σc = some (r, σc') ∧ mX9_digest_S82 F (mX9_digest_L82 F fu) v (nI p) σm = some (r, σm') ∧ _
    unfold mX8_digest_S266 mX9_digest_S82
    rw [show xI σc (12 + 1) = nI (hP H) from hRR.2.1.2.1.2.2.1, hM'.2.2.1, if_pos (nI_le (by omega) (by omega)), if_pos (nI_le (by omega) (by omega))]
    exact dg_hours F v hF hRR
  | succ d ih =>
    intro fu p v σc σm e h hRR hM'
    have hb2 := hRR.2.1.1.2.1
    obtain ⟨fu, rfl⟩ : ∃ f, fu = f + 1 := ⟨fu - 1, by omega⟩
    show ∃ r σc' σm', mX8_digest_S266 F (mX8_digest_L266 F fu) v (nI p) σc = some (r, σc') ∧ mX9_digest_S82 F (mX9_digest_L82 F fu) v (nI p) σm = some (r, σm') ∧ _
    obtain ⟨r0, a1, a2⟩ := o_person F p 0 (by omega) (by omega) hRR hM'
    obtain ⟨r1, b1, b2⟩ := o_person F p 1 (by omega) (by omega) hRR hM'
    obtain ⟨r2, c1, c2⟩ := o_person F p 2 (by omega) (by omega) hRR hM'
    obtain ⟨r3, r4, σc1, σc2, σm1, d1, d2, d3, d4, d5⟩ := o_hide F p hF (by omega) hRR
    obtain ⟨r5, σc3, σm2, e1, e2, e3, e4⟩ := o_when F p hF (by omega) d5
    obtain ⟨f4, hf4⟩ : ∃ f, F = f + 1 + 1 + 1 + 1 := ⟨F - 4, by omega⟩
    have e93 : ∀ c82, mX9_digest_L93 F c82 F v (nI p) 0 σm = mX9_digest_L120 F c82 ((31 * ((31 * ((31 * v) + (Int32.toInt64 r0))) + (Int32.toInt64 r1))) + (Int32.toInt64 r2)) (nI p) σm := fun c82 => by
      have s : ∀ f w k, k < 3 → mX9_digest_L93 F c82 (f + 1) w (nI p) (nI k) σm = xb2 (mX9_personOf F (nI p) (nI k) σm) (fun r108 σ108 => mX9_digest_L93 F c82 f ((31 * w) + (Int32.toInt64 r108)) (nI p) (nI (k + 1)) σ108) := fun f w k hk => by
        show mX9_digest_S93 F c82 (mX9_digest_L93 F c82 f) w (nI p) (nI k) σm = _
        unfold mX9_digest_S93
        rw [if_neg (show ¬ ((3 : Int32) ≤ nI k) from nI_ge (b := 3) (by omega) (by omega)), nI_1]
      have s0 : mX9_digest_L93 F c82 F v (nI p) 0 σm = mX9_digest_L93 F c82 (f4 + 1 + 1 + 1 + 1) v (nI p) (nI 0) σm := by rw [← hf4]; rfl
      rw [s0, s _ _ 0 (by omega), a2, xb2_s, s _ _ 1 (by omega), b2, xb2_s, s _ _ 2 (by omega), c2, xb2_s]
      show mX9_digest_S93 F c82 (mX9_digest_L93 F c82 f4) _ (nI p) (nI 3) σm = _
      unfold mX9_digest_S93
      rw [if_pos (by decide)]
    unfold mX8_digest_S266 mX9_digest_S82
    rw [show xI σc (12 + 1) = nI (hP H) from hRR.2.1.2.1.2.2.1, hM'.2.2.1, if_neg (nI_ge (by omega) (by omega)), if_neg (nI_ge (by omega) (by omega)), e93]
    unfold mX9_digest_L120
    rw [show mX8_person F (nI p) 0 σc = _ from a1, xb2_s, show mX8_person F (nI p) 1 σc = _ from b1, xb2_s, show mX8_person F (nI p) 2 σc = _ from c1, xb2_s, d1, xb2_s, d2, xb2_s, e1, xb2_s, d3, xb2_s, d4, xb2_s, e2, xb2_s, nI_1]
    exact ih fu (p + 1) _ σc3 σm2 (by omega) (by omega) e3 e4
theorem dg_thing {H : Hs} {D : Dy} (F : Nat) (hF : 5000 ≤ F) : ∀ (d fu t : Nat) (v : Int64) (σc σm : xSt), t + d = hT H → d < fu → RQ H D σc σm → MH σm H →
    ∃ r σc' σm', mX8_digest_L59 F fu v (nI t) σc = some (r, σc') ∧ mX9_digest_L59 F fu v (nI t) σm = some (r, σm') ∧ RQ H D σc' σm' := by
  intro d
  induction d with
  | zero =>
    intro fu t v σc σm e h hRR hM'
    have hb1 := hRR.2.1.1.1
    have hb2 := hRR.2.1.1.2.1
    obtain ⟨fu, rfl⟩ : ∃ f, fu = f + 1 := ⟨fu - 1, by omega⟩
    show ∃ r σc' σm', mX8_digest_S59 F (mX8_digest_L59 F fu) v (nI t) σc = some (r, σc') ∧ mX9_digest_S59 F (mX9_digest_L59 F fu) v (nI t) σm = some (r, σm') ∧ _
    unfold mX8_digest_S59 mX9_digest_S59
    rw [show xI σc (12 + 0) = nI (hT H) from hRR.2.1.2.1.1, hM'.1, if_pos (nI_le (by omega) (by omega)), if_pos (nI_le (by omega) (by omega))]
    unfold mX8_digest_L264 mX9_digest_L80
    exact dg_per F hF (hP H) F 0 v σc σm (by omega) (by omega) hRR hM'
  | succ d ih =>
    intro fu t v σc σm e h hRR hM'
    have hb1 := hRR.2.1.1.1
    obtain ⟨fu, rfl⟩ : ∃ f, fu = f + 1 := ⟨fu - 1, by omega⟩
    show ∃ r σc' σm', mX8_digest_S59 F (mX8_digest_L59 F fu) v (nI t) σc = some (r, σc') ∧ mX9_digest_S59 F (mX9_digest_L59 F fu) v (nI t) σm = some (r, σm') ∧ _
    obtain ⟨r0, c0, m0, a1, a2, a3⟩ := q_thing F hF H D σc σm hRR (nI t) 0
    obtain ⟨r1, c1, m1, b1, b2, b3⟩ := q_thing F hF H D c0 m0 a3 (nI t) 1
    obtain ⟨r2, c2, m2, d1, d2, d3⟩ := q_thing F hF H D c1 m1 b3 (nI t) 2
    obtain ⟨r3, c3, m3, e1, e2, e3⟩ := o_layers F 9 t (-1) (by omega) (by omega) (by omega) (by decide) d3
    obtain ⟨r4, c4, m4, f1, f2, f3⟩ := o_layers F 9 t 0 (by omega) (by omega) (by omega) (by decide) e3
    obtain ⟨r5, c5, m5, g1, g2, g3⟩ := o_strong F 9 t 0 (by omega) (by omega) (by omega) (by omega) f3
    obtain ⟨r6, c6, m6, h1, h2, h3⟩ := q_last F hF H D c5 m5 g3 (nI t) 0
    obtain ⟨r7, c7, m7, i1, i2, i3⟩ := q_draughts F hF H D c6 m6 h3 5 (nI t) 0 4 0
    obtain ⟨r8, c8, m8, j1, j2, j3⟩ := q_draughts F hF H D c7 m7 i3 5 (nI t) 0 4 1
    obtain ⟨r9, c9, m9, k1, k2, k3⟩ := q_found F hF H D c8 m8 j3 21 (nI t) 1 0
    obtain ⟨r10, c10, m10, l1, l2, l3⟩ := q_found F hF H D c9 m9 k3 21 (nI t) 1 1
    obtain ⟨r11, c11, m11, n1, n2, n3, n4⟩ := o_day F 12 t 7 (by omega) (by omega) (by omega) l3
    obtain ⟨f4, hf4⟩ : ∃ f, F = f + 1 + 1 + 1 + 1 := ⟨F - 4, by omega⟩
    have e6' : mX9_thingDigest F v (nI t) σm = mX9_thingDigest_L35 F (nI t) ((31 * ((31 * ((31 * v) + (Int32.toInt64 r0))) + (Int32.toInt64 r1))) + (Int32.toInt64 r2)) m2 := by
      have s : ∀ f w k σ, k < 3 → mX9_thingDigest_L6 F (f + 1) (nI t) w (nI k) σ = xb2 (mX9_thing F (nI t) (nI k) σ) (fun r22 σ22 => mX9_thingDigest_L6 F f (nI t) ((31 * w) + (Int32.toInt64 r22)) (nI (k + 1)) σ22) := fun f w k σ hk => by
        show mX9_thingDigest_S6 F (mX9_thingDigest_L6 F f) (nI t) w (nI k) σ = _
        unfold mX9_thingDigest_S6
        rw [if_neg (show ¬ ((3 : Int32) ≤ nI k) from nI_ge (b := 3) (by omega) (by omega)), nI_1]
      have s0 : mX9_thingDigest F v (nI t) σm = mX9_thingDigest_L6 F (f4 + 1 + 1 + 1 + 1) (nI t) v (nI 0) σm := by rw [← hf4]; rfl
      rw [s0, s _ _ 0 _ (by omega), show mX9_thing F (nI t) (nI 0) σm = _ from a2, xb2_s, s _ _ 1 _ (by omega), show mX9_thing F (nI t) (nI 1) m0 = _ from b2, xb2_s, s _ _ 2 _ (by omega), show mX9_thing F (nI t) (nI 2) m1 = _ from d2, xb2_s]
      show mX9_thingDigest_S6 F (mX9_thingDigest_L6 F f4) (nI t) _ (nI 3) m2 = _
      unfold mX9_thingDigest_S6
      rw [if_pos (by decide)]
    unfold mX8_digest_S59 mX9_digest_S59
    rw [show xI σc (12 + 0) = nI (hT H) from hRR.2.1.2.1.1, hM'.1, if_neg (nI_ge (by omega) (by omega)), if_neg (nI_ge (by omega) (by omega)), e6']
    unfold mX9_thingDigest_L35
    rw [a1, xb2_s, b1, xb2_s, d1, xb2_s, show mX8_layers F 9 (nI t) (-1) c2 = _ from e1, xb2_s, show mX8_layers F 9 (nI t) 0 c3 = _ from f1, xb2_s, show mX8_strong F 9 (nI t) 0 c4 = _ from g1, xb2_s, h1, xb2_s, i1, xb2_s, j1, xb2_s, k1, xb2_s, l1, xb2_s, show mX8_day F 7 12 (nI t) c10 = _ from n1, xb2_s, show mX9_layersOf F 9 (nI t) (-1) m2 = _ from e2, xb2_s, show mX9_layersOf F 9 (nI t) 0 m3 = _ from f2, xb2_s, show mX9_strongOf F 9 (nI t) 0 m4 = _ from g2, xb2_s, h2, xb2_s, i2, xb2_s, j2, xb2_s, k2, xb2_s, l2, xb2_s, show mX9_dayOf F 7 12 (nI t) m10 = _ from n2, xb2_s, xb2_s, nI_1]
    exact ih fu (t + 1) _ c11 m11 (by omega) (by omega) n3 n4
theorem dg_count {H : Hs} {D : Dy} (F : Nat) (hF : 5000 ≤ F) : ∀ (d fu k : Nat) (v : Int64) (σc σm : xSt), k + d = 8 → d < fu → RQ H D σc σm →
    ∃ r σc' σm', mX8_digest_L6 F fu v (nI k) σc = some (r, σc') ∧ mX9_digest_L6 F fu v (nI k) σm = some (r, σm') ∧ RQ H D σc' σm' := by
  intro d
  induction d with
  | zero =>
    intro fu k v σc σm e h hRR
    have hb1 := hRR.2.1.1.1
    obtain ⟨fu, rfl⟩ : ∃ f, fu = f + 1 := ⟨fu - 1, by omega⟩
    show ∃ r σc' σm', mX8_digest_S6 F (mX8_digest_L6 F fu) v (nI k) σc = some (r, σc') ∧ mX9_digest_S6 F (mX9_digest_L6 F fu) v (nI k) σm = some (r, σm') ∧ _
    unfold mX8_digest_S6 mX9_digest_S6
    rw [if_pos (show (8 : Int32) ≤ nI k from nI_le (a := 8) (by omega) (by omega)), if_pos (show (8 : Int32) ≤ nI k from nI_le (a := 8) (by omega) (by omega))]
    unfold mX8_digest_L31 mX9_digest_L31
    obtain ⟨r0, σm0, a1, a2, a3, a4⟩ := o_fault F 0 hF (by omega) hRR
    obtain ⟨r1, σm1, b1, b2, b3, b4⟩ := o_fault F 1 hF (by omega) a3
    rw [show mX8_fault F 0 σc = _ from a1, xb2_s, show mX8_fault F 1 σc = _ from b1, xb2_s, show mX9_faultOf F 0 σm = _ from a2, xb2_s, show mX9_faultOf F 1 σm0 = _ from b2, xb2_s]
    exact dg_thing F hF (hT H) F 0 _ σc σm1 (by omega) (by omega) b3 b4
  | succ d ih =>
    intro fu k v σc σm e h hRR
    obtain ⟨fu, rfl⟩ : ∃ f, fu = f + 1 := ⟨fu - 1, by omega⟩
    show ∃ r σc' σm', mX8_digest_S6 F (mX8_digest_L6 F fu) v (nI k) σc = some (r, σc') ∧ mX9_digest_S6 F (mX9_digest_L6 F fu) v (nI k) σm = some (r, σm') ∧ _
    unfold mX8_digest_S6 mX9_digest_S6
    rw [if_neg (show ¬ ((8 : Int32) ≤ nI k) from nI_ge (b := 8) (by omega) (by omega)), if_neg (show ¬ ((8 : Int32) ≤ nI k) from nI_ge (b := 8) (by omega) (by omega))]
    obtain ⟨r1, σc1, σm1, a1, a2, a3⟩ := q_count F hF H D σc σm hRR (nI k)
    rw [a1, xb2_s, a2, xb2_s, nI_1]
    exact ih fu (k + 1) _ σc1 σm1 (by omega) (by omega) a3
theorem p_digest (F : Nat) (hF : 5000 ≤ F) : zP_digest F Rel := by
  intro σc σm hR
  obtain ⟨H, D, hRR⟩ := RQ_of hR
  obtain ⟨r, σc', σm', a, b, c⟩ := dg_count F hF 8 F 0 17 σc σm (by omega) (by omega) hRR
  exact ⟨r, σc', σm', a, b, c.1⟩
