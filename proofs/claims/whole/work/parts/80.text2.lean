theorem c_smellOf (F e b m : Nat) (σ : xSt) (he : 4 * e + 2 < 31) (hb : b < 256) (hok : b = 46 ∨ (97 ≤ b ∧ b ≤ 104)) (hm : m < 100) (h1 : xA σ 7 (4 * e + 2) = nI b) (h2 : xI σ 13 = nI m) : mX6_smellOf F 1 (nI e) σ = some (nI (if 97 ≤ b ∧ b - 97 < m then b - 97 else e), σ) := by
  unfold mX6_smellOf mX6_smellOf_L30 mX6_smellOf_L31
  have e4 : (4 : Int32) * nI e + 2 = nI (4 * e + 2) := by show nI 4 * nI e + nI 2 = _; rw [pk_mul, nI_add]
  rw [e4, xck_in (show 4 * e + 2 < lnB 1 by show _ < 31; omega) (by decide), nI_clamp (by omega), show (6 + 1) = 7 from rfl, show (12 + 1) = 13 from rfl, h1, h2]
  rcases hok with rfl | ⟨h3, h4⟩
  · rw [if_pos (show nI 46 - 97 < 0 by decide), if_neg (by omega)]
  · have e5 : nI b - 97 = nI (b - 97) := pk_sub (b := 97) h3
    rw [e5, if_neg (nI_pos (by omega))]
    by_cases q : b - 97 < m
    · rw [if_neg (nI_ge q (by omega)), if_pos ⟨h3, q⟩]
    · rw [if_pos (nI_le (by omega) (by omega)), if_neg (by omega)]
set_option maxHeartbeats 1000000 in
theorem c_parseL (F k n : Nat) (hk : k < 2) (hn : n ≤ lnB k) (B : Nat → Nat) (hB : ∀ j, j < n → B j < 256) :
    ∀ (fu e : Nat) (σ : xSt), e ≤ pEnt k B n → pEnt k B n < e + fu → xI σ (12 + k) = nI (pEnt k B n) → (∀ j, j < n → xA σ (6 + k) j = nI (B j)) → (∀ z, z < e → xA σ (8 + k) z = nI (B (4 * z) - 48) ∧ xA σ (10 + k) z = nI (B (4 * z + 1) - 48) ∧ xA σ (12 + k) z = nI (pThird k B n z)) →
    xOk (mX6_parse_L26 F k fu (nI e) σ) (fun σ' => xFr [] [8 + k, 10 + k, 12 + k] σ σ' ∧ ∀ z, z < pEnt k B n → xA σ' (8 + k) z = nI (B (4 * z) - 48) ∧ xA σ' (10 + k) z = nI (B (4 * z + 1) - 48) ∧ xA σ' (12 + k) z = nI (pThird k B n z)) := by
  have h31 := lnB_le hk
  have hE := lnB_E hk
  intro fu
  induction fu with
  | zero => intro e σ a b; omega
  | succ fu ih =>
    intro e σ a b h1 h2 h3
    show xOk (mX6_parse_S26 F k (mX6_parse_L26 F k fu) (nI e) σ) _
    unfold mX6_parse_S26 mX6_parse_L117
    rw [h1]
    have hme : pEnt k B n < 100 := by
      unfold pEnt
      by_cases q : (pFault k B n).isNone
      · rw [if_pos q]; omega
      · rw [if_neg q]; omega
    by_cases hem : e = pEnt k B n
    · refine xOk_t (by rw [hem]; exact nI_le (Nat.le_refl _) (by omega)) ?_
      exact xOk_ret ⟨xFr_rf, fun z hz => h3 z (by omega)⟩
    · have hlt : e < pEnt k B n := by omega
      obtain ⟨g1, g2, g3, g4⟩ := pEnt_ok hlt
      refine xOk_f (nI_ge hlt (by omega)) ?_
      have p0 := pOK_0 (k := k) (b := B (4 * e)) (by have := g1 (4 * e) (by omega); rw [show (4 * e) % 4 = 0 by omega] at this; exact this)
      have p1 := pOK_1 (k := k) (b := B (4 * e + 1)) (by have := g1 (4 * e + 1) (by omega); rw [show (4 * e + 1) % 4 = 1 by omega] at this; exact this)
      have e4 : (4 : Int32) * nI e = nI (4 * e) := pk_mul 4 e
      have e5 : nI (4 * e) + 2 = nI (4 * e + 2) := nI_add _ 2
      have f8 : ∀ (σ : xSt) (i : Nat) (v : Int32), xA (xsA σ (8 + k) i v) (6 + k) = xA σ (6 + k) := fun σ i v => xA_s0 (by omega)
      have f10 : ∀ (σ : xSt) (i : Nat) (v : Int32), xA (xsA σ (10 + k) i v) (6 + k) = xA σ (6 + k) := fun σ i v => xA_s0 (by omega)
      simp only [e4, e5, nI_1, f8, f10, xin_nI (show 4 * e < lnB k by omega) (show lnB k < 2 ^ 31 by omega), xin_nI (show 4 * e + 1 < lnB k by omega) (show lnB k < 2 ^ 31 by omega), xin_nI (show 4 * e + 2 < lnB k by omega) (show lnB k < 2 ^ 31 by omega), xin_nI (show e < lnE k by omega) (show lnE k < 2 ^ 31 by omega), nI_clamp (show 4 * e < 2 ^ 31 by omega), nI_clamp (show 4 * e + 1 < 2 ^ 31 by omega), nI_clamp (show 4 * e + 2 < 2 ^ 31 by omega), nI_clamp (show e < 2 ^ 31 by omega), h2 (4 * e) (by omega), h2 (4 * e + 1) (by omega), h2 (4 * e + 2) (by omega), sub48 (show 48 ≤ B (4 * e) by omega), sub48 p1.1, xck_1]
      -- what is stored, and on
      have key : ∀ v : Int32, v = nI (pThird k B n e) → xOk (mX6_parse_L110 F k (mX6_parse_L26 F k fu) (nI e) (nI e) v (xsA (xsA σ (8 + k) e (nI (B (4 * e) - 48))) (10 + k) e (nI (B (4 * e + 1) - 48)))) (fun σ' => xFr [] [8 + k, 10 + k, 12 + k] σ σ' ∧ ∀ z, z < pEnt k B n → xA σ' (8 + k) z = nI (B (4 * z) - 48) ∧ xA σ' (10 + k) z = nI (B (4 * z + 1) - 48) ∧ xA σ' (12 + k) z = nI (pThird k B n z)) := by
        intro v hv
        unfold mX6_parse_L110
        rw [xck_in (show e < lnE k by omega) (by omega), nI_1, nI_clamp (by omega)]
        refine xOk_mono (ih (e + 1) _ (by omega) (by omega) h1 (fun j hj => ?_) (fun z hz => ?_)) (fun σ' q => ⟨xFr_tr (xFr_tr (xFr_tr (xFr_sA (by simp)) (xFr_sA (by simp))) (xFr_sA (by simp))) q.1, q.2⟩)
        · rw [xA_s0 (by omega), xA_s0 (by omega), xA_s0 (by omega)]; exact h2 j hj
        · rw [xA_s0 (show 8 + k ≠ 12 + k by omega), xA_s0 (show 8 + k ≠ 10 + k by omega), xA_s1, xA_s0 (show 10 + k ≠ 12 + k by omega), xA_s1, xA_s0 (show 10 + k ≠ 8 + k by omega), xA_s1, xA_s0 (show 12 + k ≠ 10 + k by omega), xA_s0 (show 12 + k ≠ 8 + k by omega), upd_e, upd_e, upd_e]
          by_cases q : z = e
          · subst q; rw [if_pos rfl, if_pos rfl, if_pos rfl]; exact ⟨rfl, rfl, hv⟩
          · rw [if_neg q, if_neg q, if_neg q]; exact h3 z (by omega)
      rcases (show k = 0 ∨ k = 1 by omega) with rfl | rfl
      · have e117 : (nI (B (4 * e + 2)) = (117 : Int32)) = (B (4 * e + 2) = 117) := nI_eqL 117 (by have := hB (4 * e + 2) (by omega); omega) (by omega)
        simp only [show xOP 0 = 0 from rfl, e117, xb1_s, xb2_s, xck_1, i10, i00, i11, ↓reduceIte]
        by_cases q : B (4 * e + 2) = 117
        · simp only [q, xb1_s, xb2_s, xck_1, i10, i00, i11, ↓reduceIte]
          exact key 1 (by unfold pThird; rw [if_pos rfl, if_pos q]; rfl)
        · simp only [q, xb1_s, xb2_s, xck_1, i10, i00, i11, ↓reduceIte]
          exact key 0 (by unfold pThird; rw [if_pos rfl, if_neg q]; rfl)
      · simp only [show xOP 1 = 1 from rfl, xb1_s, xb2_s, xck_1, i10, i00, i11, ↓reduceIte]
        have p2 := pOK_2 (b := B (4 * e + 2)) (by have := g1 (4 * e + 2) (by omega); rw [show (4 * e + 2) % 4 = 2 by omega] at this; exact this)
        have hsm := c_smellOf F e (B (4 * e + 2)) (pEnt 1 B n) (xsA (xsA σ (8 + 1) e (nI (B (4 * e) - 48))) (10 + 1) e (nI (B (4 * e + 1) - 48))) (by omega) (hB _ (by omega)) p2 hme (by rw [xA_s0 (by decide), xA_s0 (by decide)]; exact h2 _ (by omega)) h1
        rw [hsm, xb2_s]
        exact key _ (by simp only [pThird, show ¬ (1 = 0) from by decide, ↓reduceIte])
theorem optI_m1 {o : Option Nat} (h : ∀ j, o = some j → j < 2 ^ 31) : (optI o = -1) = (o.isNone = true) := propext (by
  cases o with
  | none => exact ⟨fun _ => rfl, fun _ => rfl⟩
  | some j => exact ⟨fun q => absurd q (not_m1 (h j rfl)), fun q => by cases q⟩)
theorem pF_lt {k n j : Nat} {B : Nat → Nat} (h : pFault k B n = some j) : j ≤ n := by
  unfold pFault at h
  have key : ∀ (d i z : Nat), pBad k B i d = some z → z < i + d := by
    intro d
    induction d with
    | zero => intro i z q; cases q
    | succ d ih =>
      intro i z q
      unfold pBad at q
      by_cases e : pOK k (B i) (i % 4) = true
      · rw [if_pos e] at q; have := ih _ _ q; omega
      · rw [if_neg e] at q; cases q; omega
  by_cases e : (pBad k B 0 n).isSome
  · rw [if_pos e] at h; have := key _ _ _ h; omega
  · rw [if_neg e] at h
    by_cases q : n = 0 ∨ n % 4 = 3
    · rw [if_pos q] at h; cases h
    · rw [if_neg q] at h; cases h; omega
theorem c_parse (F k n : Nat) (hF : 100 ≤ F) (hk : k < 2) (hn : n ≤ lnB k) (B : Nat → Nat) (σ : xSt) (h1 : xI σ (10 + k) = nI n) (h2 : ∀ j, j < n → B j < 256 ∧ xA σ (6 + k) j = nI (B j)) : xOk (mX6_parse F k σ) (fun σ' => CText σ' k n B ∧ xFr [12 + k] [8 + k, 10 + k, 12 + k] σ σ') := by
  have h31 := lnB_le hk
  unfold mX6_parse mX6_parse_L21
  have e4 : (nI n + 1) / 4 = nI ((n + 1) / 4) := by rw [nI_1]; exact pk_div (d := 4) (by omega) (by omega) (by omega)
  have hme : pEnt k B n < 100 := by
    unfold pEnt
    by_cases q : (pFault k B n).isNone
    · rw [if_pos q]; omega
    · rw [if_neg q]; omega
  rw [c_faultPlace F k n hF hk hn B σ h1 h2, xb2_s, h1, e4, xck_t (show xnzI 4 = true from rfl)]
  have e5 : (if optI (pFault k B n) = -1 then mX6_parse_L26 F k F 0 (xsI σ (12 + k) (nI ((n + 1) / 4))) else mX6_parse_L26 F k F 0 (xsI σ (12 + k) 0)) = mX6_parse_L26 F k F (nI 0) (xsI σ (12 + k) (nI (pEnt k B n))) := by
    simp only [optI_m1 (fun j hj => Nat.lt_of_le_of_lt (pF_lt hj) (show n < 2 ^ 31 by omega))]
    unfold pEnt
    by_cases q : (pFault k B n).isNone = true
    · rw [if_pos q, if_pos q]; rfl
    · rw [if_neg q, if_neg q]; rfl
  rw [e5]
  refine xOk_mono (c_parseL F k n hk hn B (fun j hj => (h2 j hj).1) F 0 _ (by omega) (by omega) (by rw [xI_sI, if_pos rfl]) (fun j hj => (h2 j hj).2) (fun z hz => by omega)) (fun σ' q => ⟨⟨hn, ?_, fun j hj => ⟨(h2 j hj).1, ?_⟩, ?_, q.2⟩, ?_⟩)
  · rw [q.1.1 _ (by simp), xI_sI, if_neg (by omega)]; exact h1
  · rw [q.1.2 (6 + k) (by simp)]; exact (h2 j hj).2
  · rw [q.1.1 _ (by simp), xI_sI, if_pos rfl]
  · exact xFr_tr (xFr_sI (by simp)) (xFr_mono q.1 (by simp) (by simp))
/-- one text changes in both -/
theorem Rel_text {σc σc' σm σm' : xSt} (h : Rel σc σm) (k : Nat) (hk : k < 2) (hc : xFr [10 + k, 12 + k] [6 + k, 8 + k, 10 + k, 12 + k] σc σc') (hm : xFr [] [0, 1] σm σm') (hm0 : ∀ j, j ≠ k → xA σm' 0 j = xA σm 0 j) (hm1 : ∀ j, (j < 31 * k ∨ 31 * k + 31 ≤ j) → xA σm' 1 j = xA σm 1 j) (ht : RTx σc' σm' k) : Rel σc' σm' := by
  have ci : ∀ j, (j < 10 ∨ 14 ≤ j) → xI σc' j = xI σc j := fun j hj => hc.1 j (by simp <;> omega)
  have ca : ∀ j, (j < 6 ∨ 14 ≤ j) → xA σc' j = xA σc j := fun j hj => hc.2 j (by simp <;> omega)
  have other : ∀ j, j < 2 → j ≠ k → RTx σc σm j → RTx σc' σm' j := by
    intro j hj hjk ⟨n, B, a, b⟩
    refine ⟨n, B, CText_fr a (hc.1 _ (by simp <;> omega)) (hc.1 _ (by simp <;> omega)) (hc.2 _ (by simp <;> omega)) (hc.2 _ (by simp <;> omega)) (hc.2 _ (by simp <;> omega)) (hc.2 _ (by simp <;> omega)), ?_, fun i hi => ?_⟩
    · rw [hm0 j hjk]; exact b.1
    · have hn := a.1
      have h31 := lnB_le hj
      rw [hm1 _ (by omega)]; exact b.2 i hi
  obtain ⟨t0, t1, ⟨ns, hs, ts, ps, s1, s2, s3, s4, s5⟩, ⟨nw, hw, tw, w1, w2, w3, w4, w5⟩, ⟨nm, hm1', tm, om, m1, m2, m3, m4⟩, hsh, hf⟩ := h
  have mi : ∀ j, xI σm' j = xI σm j := fun j => hm.1 j (by simp)
  have ma : ∀ j, 2 ≤ j → xA σm' j = xA σm j := fun j hj => hm.2 j (by simp <;> omega)
  refine ⟨?_, ?_, ⟨ns, hs, ts, ps, s1, CTold_fr s2 (ci _ (by omega)) (ca _ (by omega)) (ca _ (by omega)) (ca _ (by omega)) (ca _ (by omega)), s3, by rw [mi]; exact s4, ?_⟩, ⟨nw, hw, tw, w1, CTold_fr w2 (ci _ (by omega)) (ca _ (by omega)) (ca _ (by omega)) (ca _ (by omega)) (ca _ (by omega)), w3, by rw [mi]; exact w4, ?_⟩, ⟨nm, hm1', tm, om, m1, CTold_fr m2 (ci _ (by omega)) (ca _ (by omega)) (ca _ (by omega)) (ca _ (by omega)) (ca _ (by omega)), m3, ?_⟩, fun j hj => RSh_fr (hsh j hj) (ci _ (by omega)) (ci _ (by omega)) (ca _ (by omega)) (by rw [ma 32 (by omega)]) (by rw [ma 33 (by omega)]) (by rw [ma 34 (by omega)]) (fun i _ => by rw [ma 35 (by omega)]), ?_⟩
  · by_cases e : k = 0
    · subst e; exact ht
    · exact other 0 (by omega) (by omega) t0
  · by_cases e : k = 1
    · subst e; exact ht
    · exact other 1 (by omega) (by omega) t1
  · unfold MSit; rw [ma 11 (by omega), ma 12 (by omega), ma 13 (by omega)]; exact s5
  · unfold MWin; rw [ma 15 (by omega), ma 16 (by omega)]; exact w5
  · unfold MSml; rw [mi, ma 28 (by omega), ma 29 (by omega), ma 30 (by omega)]; exact m4
  · unfold RFd; rw [ci 0 (by omega), mi]; exact hf
theorem c_textOf (F k : Nat) (hk : k < 2) (σ : xSt) : mX8_textOf F (nI k) σ = some (k, σ) := by
  rcases (show k = 0 ∨ k = 1 by omega) with rfl | rfl <;> rfl
theorem RTx_of {σc σm : xSt} (h : Rel σc σm) {k : Nat} (hk : k < 2) : RTx σc σm k := by
  rcases (show k = 0 ∨ k = 1 by omega) with rfl | rfl
  · exact h.1
  · exact h.2.1
theorem p_type (F : Nat) (hF : 5000 ≤ F) : zP_type F Rel := by
  intro σc σm hR t b
  unfold mX8_type mX9_type mX8_type_L18 mX9_type_L18
  by_cases h1 : 0 ≤ t ∧ t ≤ 1
  · by_cases h2 : 0 ≤ b ∧ b ≤ 255
    · obtain ⟨k, hk, rfl⟩ := rngI (n := 1) (by decide) (by decide) h1
      obtain ⟨b', hb, rfl⟩ := rngI (n := 255) (by decide) (by decide) h2
      obtain ⟨n, B, ⟨a1, a2, a3, a4, a5⟩, m1, m2⟩ := RTx_of hR (show k < 2 by omega)
      have h31 := lnB_le (show k < 2 by omega)
      have nb : ¬ nI b' < 0 := nI_pos (by omega)
      simp only [c_noText, m_isText, m_in, bI_nf h1, bI_t h1, bI_t h2, nb, c_textOf F k (by omega), show decide (k < 2) = true from decide_eq_true (by omega), xin_nI (show k < 2 by omega) (by omega), nI_clamp (show k < 2 ^ 31 by omega), m1, xb1_s, xb2_s, xck_1, i10, i00, i11, ↓reduceIte]
      simp only [h2.2, xb1_s, xb2_s, xck_1, i10, i00, i11, ↓reduceIte]
      have emost : (if nI k = 0 then mX9_type_L38 F (nI k) (nI b') (nI n) 23 σm else mX9_type_L38 F (nI k) (nI b') (nI n) 31 σm) = mX9_type_L38 F (nI k) (nI b') (nI n) (nI (lnB k)) σm := by
        rcases (show k = 0 ∨ k = 1 by omega) with rfl | rfl <;> rfl
      rw [emost]
      unfold mX9_type_L38 mX6_isFull mX6_isFull_L17
      rw [a2]
      by_cases hn : n = lnB k
      · rw [hn, if_neg (nI_nlt (Nat.le_refl _) (by omega)), if_pos rfl]
        exact ⟨_, _, _, rfl, rfl, hR⟩
      · rw [if_pos (nI_lt (show n < lnB k by omega) (by omega)), if_neg (by rw [nI_eq (by omega) (by omega)]; exact hn)]
        unfold mX6_append mX6_append_L36
        have e31 : (31 : Int32) * nI k = nI (31 * k) := pk_mul 31 k
        simp only [show xbit 0 = true from rfl, a2, xI_sA, eq_false (nI_ge (show n < lnB k by omega) (show lnB k < 2 ^ 31 by omega)), xin_nI (show n < lnB k by omega) (show lnB k < 2 ^ 31 by omega), nI_clamp (show n < 2 ^ 31 by omega), nI_1, e31, nI_add, xin_nI (show k < 2 by omega) (by omega), nI_clamp (show k < 2 ^ 31 by omega), m1, xin_nI (show 31 * k + n < 62 by omega) (by omega), nI_clamp (show 31 * k + n < 2 ^ 31 by omega), xA_s0 (show (0 : Nat) ≠ 1 by decide), xA_s1, upd_1, xb1_s, xb2_s, xck_1, i10, i00, i11, ↓reduceIte]
        obtain ⟨σ1, q1, q2, q3⟩ := c_parse F k (n + 1) (by omega) (by omega) (by omega) (ins B n b') (xsI (xsA σc (6 + k) n (nI b')) (10 + k) (nI (n + 1))) (by rw [xI_sI, if_pos rfl]) (fun j hj => by
            rw [xA_sI, xA_s1, upd_e]
            by_cases e : j = n
            · subst e; rw [if_pos rfl, ins_n]; exact ⟨by omega, rfl⟩
            · rw [if_neg e, ins_o e]; exact a3 j (by omega))
        rw [q1]
        refine ⟨nI (n + 1), σ1, _, ?_, rfl, ?_⟩
        · show some (xI σ1 (10 + k), σ1) = _
          rw [q2.2.1]
        · refine Rel_text hR k (by omega) (xFr_tr (xFr_tr (xFr_sA (by simp)) (xFr_sI (by simp))) (xFr_mono q3 (by simp) (by simp <;> omega))) (xFr_tr (xFr_sA (by decide)) (xFr_sA (by decide))) (fun j hj => ?_) (fun j hj => ?_) ⟨n + 1, ins B n b', q2, ?_, fun j hj => ?_⟩
          · rw [xA_s1, upd_0 hj, xA_s0 (by decide)]
          · rw [xA_s0 (by decide), xA_s1, upd_0 (by omega)]
          · rw [xA_s1, upd_1]
          · rw [xA_s0 (by decide), xA_s1, upd_e]
            by_cases e : j = n
            · subst e; rw [if_pos rfl, ins_n]
            · rw [if_neg (by omega), ins_o e]; exact m2 j (by omega)
    · simp only [c_noText, m_isText, m_in, bI_nf h1, bI_t h1, bI_f h2, xb1_s, xb2_s, xck_1, i10, i00, i11, ↓reduceIte]
      refine ⟨-2, σc, σm, ?_, rfl, hR⟩
      by_cases q : b < 0
      · simp only [q, xb1_s, xb2_s, xck_1, i10, i00, i11, ↓reduceIte]
      · have q2 : ¬ b ≤ 255 := fun z => h2 ⟨Int32.not_lt.mp q, z⟩
        simp only [q, q2, xb1_s, xb2_s, xck_1, i10, i00, i11, ↓reduceIte]
  · simp only [c_noText, m_isText, bI_nt h1, bI_f h1, xb1_s, xb2_s, xck_1, i10, i00, i11, ↓reduceIte]
    exact ⟨_, _, _, rfl, rfl, hR⟩
theorem p_wipe (F : Nat) (hF : 5000 ≤ F) : zP_wipe F Rel := by
  intro σc σm hR t
  unfold mX8_wipe mX9_wipe mX6_shorten
  by_cases h1 : 0 ≤ t ∧ t ≤ 1
  · obtain ⟨k, hk, rfl⟩ := rngI (n := 1) (by decide) (by decide) h1
    obtain ⟨n, B, ⟨a1, a2, a3, a4, a5⟩, m1, m2⟩ := RTx_of hR (show k < 2 by omega)
    simp only [c_noText, m_isText, bI_nf h1, bI_t h1, c_textOf F k (by omega), show decide (k < 2) = true from decide_eq_true (by omega), xin_nI (show k < 2 by omega) (by omega), nI_clamp (show k < 2 ^ 31 by omega), m1, a2, xb1_s, xb2_s, xck_1, i10, i00, i11, ↓reduceIte]
    obtain ⟨σ1, q1, q2, q3⟩ := c_parse F k 0 (by omega) (by omega) (by omega) B (xsI σc (10 + k) 0) (by rw [xI_sI, if_pos rfl]; rfl) (fun j hj => by omega)
    rw [q1]
    refine ⟨nI n, σ1, _, rfl, rfl, ?_⟩
    refine Rel_text hR k (by omega) (xFr_tr (xFr_sI (by simp)) (xFr_mono q3 (by simp) (by simp <;> omega))) (xFr_sA (by decide)) (fun j hj => ?_) (fun j hj => ?_) ⟨0, B, q2, ?_, fun j hj => by omega⟩
    · rw [xA_s1, upd_0 hj]
    · rw [xA_s0 (by decide)]
    · rw [xA_s1, upd_1]; rfl
  · simp only [c_noText, m_isText, bI_nt h1, bI_f h1, xb1_s, xb2_s, xck_1, i10, i00, i11, ↓reduceIte]
    exact ⟨_, _, _, rfl, rfl, hR⟩
theorem p_undo (F : Nat) (hF : 5000 ≤ F) : zP_undo F Rel := by
  intro σc σm hR t
  unfold mX8_undo mX9_undo mX6_shorten
  by_cases h1 : 0 ≤ t ∧ t ≤ 1
  · obtain ⟨k, hk, rfl⟩ := rngI (n := 1) (by decide) (by decide) h1
    obtain ⟨n, B, ⟨a1, a2, a3, a4, a5⟩, m1, m2⟩ := RTx_of hR (show k < 2 by omega)
    have h31 := lnB_le (show k < 2 by omega)
    simp only [c_noText, m_isText, bI_nf h1, bI_t h1, c_textOf F k (by omega), show decide (k < 2) = true from decide_eq_true (by omega), xin_nI (show k < 2 by omega) (by omega), nI_clamp (show k < 2 ^ 31 by omega), m1, a2, nI_eq0 (show n < 2 ^ 31 by omega), xA_s1, upd_1, xb1_s, xb2_s, xck_1, i10, i00, i11, ↓reduceIte]
    rcases Nat.eq_zero_or_pos n with e | e
    · simp only [e, xb1_s, xb2_s, xck_1, i10, i00, i11, ↓reduceIte]
      exact ⟨_, _, _, rfl, rfl, hR⟩
    · obtain ⟨m, rfl⟩ : ∃ m, n = m + 1 := ⟨n - 1, by omega⟩
      simp only [show ¬ (m + 1 = 0) from by omega, nI_pred, xb1_s, xb2_s, xck_1, i10, i00, i11, ↓reduceIte]
      obtain ⟨σ1, q1, q2, q3⟩ := c_parse F k m (by omega) (by omega) (by omega) B (xsI σc (10 + k) (nI m)) (by rw [xI_sI, if_pos rfl]) (fun j hj => a3 j (by omega))
      rw [q1]
      refine ⟨nI m, σ1, _, ?_, rfl, ?_⟩
      · show some (xI σ1 (10 + k), σ1) = _
        rw [q2.2.1]
      · refine Rel_text hR k (by omega) (xFr_tr (xFr_sI (by simp)) (xFr_mono q3 (by simp) (by simp <;> omega))) (xFr_sA (by decide)) (fun j hj => ?_) (fun j hj => ?_) ⟨m, B, q2, ?_, fun j hj => ?_⟩
        · rw [xA_s1, upd_0 hj]
        · rw [xA_s0 (by decide)]
        · rw [xA_s1, upd_1]
        · rw [xA_s0 (by decide)]; exact m2 j (by omega)
  · simp only [c_noText, m_isText, bI_nt h1, bI_f h1, xb1_s, xb2_s, xck_1, i10, i00, i11, ↓reduceIte]
    exact ⟨_, _, _, rfl, rfl, hR⟩
