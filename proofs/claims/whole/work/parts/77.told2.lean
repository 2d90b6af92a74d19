theorem c_dropL (F k n : Nat) (hk : k < 3) (hn : n < lnT k) (P Q : List Nat) (hl : P.length + Q.length = n) (hP : ∀ q, q ∈ P → q < n) :
    ∀ (fu i : Nat) (σ : xSt), i ≤ n → n < i + fu → xI σ (14 + k) = nI n → (∀ j q, j < i → (P ++ Q)[j]? = some q → xA σ (24 + k) j = nI q) → (∀ j q, i ≤ j → (P ++ n :: Q)[j]? = some q → xA σ (24 + k) j = nI q) →
    xOk (mX7_drop_L22 F k fu (bI (P.length < i)) (nI i) σ) (fun σ' => xFr [] [24 + k] σ σ' ∧ ∀ j q, (P ++ Q)[j]? = some q → xA σ' (24 + k) j = nI q) := by
  have h44 := lnT_le hk
  intro fu
  induction fu with
  | zero => intro i σ h1 h2; omega
  | succ fu ih =>
    intro i σ h1 h2 h3 h4 h5
    show xOk (mX7_drop_S22 F k (mX7_drop_L22 F k fu) (bI (P.length < i)) (nI i) σ) _
    unfold mX7_drop_S22
    rw [h3]
    by_cases hin : i = n
    · subst hin
      refine xOk_t (nI_le (by omega) (by omega)) ?_
      refine xOk_ret ⟨xFr_rf, fun j q hq => ?_⟩
      have := (List.getElem?_eq_some_iff.mp hq).1
      rw [List.length_append] at this
      exact h4 j q (by omega) hq
    · refine xOk_f (nI_ge (by omega) (by omega)) ?_
      unfold mX7_drop_L47 mX7_drop_L52 mX7_drop_L71
      rcases Nat.lt_or_ge i P.length with hip | hip
      · -- ahead of it
        have hPi : (P ++ n :: Q)[i]? = some P[i] := by rw [List.getElem?_append_left hip]; exact List.getElem?_eq_getElem hip
        have hv := h5 i _ (Nat.le_refl i) hPi
        have hlt := hP P[i] (List.getElem_mem hip)
        rw [bI_f (by omega)]
        refine xOk_t rfl ?_
        rw [xck_in (by omega) (by omega), nI_clamp (by omega), hv]
        refine xOk_f (by rw [nI_eq (by omega) (by omega)]; omega) ?_
        refine xOk_t rfl ?_
        rw [nI_1]
        have := ih (i + 1) σ (by omega) (by omega) h3 (fun j q hj hq => by
            by_cases e : j = i
            · subst e
              rw [List.getElem?_append_left hip, List.getElem?_eq_getElem hip] at hq
              rw [← Option.some.inj hq]; exact hv
            · exact h4 j q (by omega) hq) (fun j q hj hq => h5 j q (by omega) hq)
        rw [bI_f (by omega)] at this
        exact this
      · -- it or behind it
        have hi1 : i - P.length < Q.length := by omega
        have hq1 : (P ++ n :: Q)[i + 1]? = some Q[i - P.length] := by
          rw [List.getElem?_append_right (by omega), show i + 1 - P.length = (i - P.length) + 1 by omega, List.getElem?_cons_succ]
          exact List.getElem?_eq_getElem hi1
        have hv := h5 (i + 1) _ (by omega) hq1
        have step : xOk (if (1 : Int32) = 0 then mX7_drop_L22 F k fu 1 (nI i + 1) σ else xck (xin (nI i + 1) (lnT k)) (xck (xin (nI i) (lnT k)) (mX7_drop_L22 F k fu 1 (nI i + 1) (xsA σ (24 + k) (Int32.toNatClampNeg (nI i)) (xA σ (24 + k) (Int32.toNatClampNeg (nI i + 1))))))) (fun σ' => xFr [] [24 + k] σ σ' ∧ ∀ j q, (P ++ Q)[j]? = some q → xA σ' (24 + k) j = nI q) := by
          refine xOk_f (by decide) ?_
          rw [nI_1, xck_in (by omega) (by omega), xck_in (by omega) (by omega), nI_clamp (by omega), nI_clamp (by omega), hv]
          have := ih (i + 1) (xsA σ (24 + k) i (nI Q[i - P.length])) (by omega) (by omega) h3 (fun j q hj hq => by
              rw [xA_s1, upd_e]
              by_cases e : j = i
              · rw [if_pos e]
                subst e
                rw [List.getElem?_append_right (by omega), List.getElem?_eq_getElem hi1] at hq
                rw [Option.some.inj hq]
              · rw [if_neg e]; exact h4 j q (by omega) hq) (fun j q hj hq => by
              rw [xA_s1, upd_0 (by omega)]; exact h5 j q (by omega) hq)
          rw [bI_t (by omega)] at this
          exact xOk_mono this (fun σ' h => ⟨xFr_tr (xFr_sA (by simp)) h.1, h.2⟩)
        rcases Nat.eq_or_lt_of_le hip with e | e
        · have hvi := h5 i n (Nat.le_refl i) (by rw [List.getElem?_append_right (by omega), show i - P.length = 0 by omega, List.getElem?_cons_zero])
          rw [bI_f (by omega)]
          refine xOk_t rfl ?_
          rw [xck_in (by omega) (by omega), nI_clamp (by omega), hvi]
          refine xOk_t rfl ?_
          rw [nI_clamp (by omega)] at step
          exact step
        · rw [bI_t (by omega)]
          refine xOk_f (by decide) ?_
          exact step
theorem c_drop (F k n : Nat) (hF : 100 ≤ F) (hk : k < 3) (h t o : Nat → Nat) (hn : n < lnT k) (σ : xSt) (C : CTold σ k (n + 1) h t o) : xOk (mX7_drop F k σ) (fun σ' => CTold σ' k n h t o ∧ xFr [14 + k] [24 + k] σ σ') := by
  have h44 := lnT_le hk
  obtain ⟨c1, c2, c3⟩ := C
  have hx := (c2 n (by omega)).1
  have hlen := bks_len h n (fun i hi => (c2 i (by omega)).1)
  have hsp := bks_split h n hx
  rw [hsp, List.length_append] at hlen
  unfold mX7_drop
  rw [c1]
  refine xOk_f (nI_ne0 (by omega) (by omega)) ?_
  rw [nI_pred]
  have := c_dropL F k n hk hn (bks h n 0 (h n + 1)) (bks h n (h n + 1) (23 - h n)) hlen (fun q hq => (bks_mem hq).1) F 0 (xsI σ (14 + k) (nI n)) (by omega) (by omega) (by rw [xI_sI, if_pos rfl]) (fun j q hj => by omega) (fun j q _ hq => by
      rw [xA_sI]
      exact c3 j q (by rw [bks_succ rfl hx]; exact hq))
  rw [bI_f (by omega)] at this
  refine xOk_mono this (fun σ' hs => ⟨⟨?_, fun i hi => ?_, fun i q hq => hs.2 i q (by rw [← hsp]; exact hq)⟩, xFr_tr (xFr_sI (by simp)) (xFr_mono hs.1 (by simp) (by simp))⟩)
  · rw [hs.1.1 _ (by simp), xI_sI, if_pos rfl]
  · rw [hs.1.2 (15 + k) (by simp), hs.1.2 (18 + k) (by simp), hs.1.2 (21 + k) (by simp)]
    exact c2 i (by omega)
theorem c_isFull (F k n : Nat) (hk : k < 3) (σ : xSt) (h : xI σ (14 + k) = nI n) (hn : n ≤ 20) : mX7_isFull F k σ = some (bI (¬ n < (if k = 0 then 20 else 8)), σ) := by
  unfold mX7_isFull mX7_isFull_L16 xMost
  rw [h]
  by_cases e : k = 0
  · simp only [e, ↓reduceIte]
    by_cases q : n < 20
    · rw [if_pos (show nI n < 20 from nI_lt (b := 20) q (by omega)), bI_nf q]; rfl
    · rw [if_neg (show ¬ nI n < 20 from nI_nlt (b := 20) (by omega) (by omega)), bI_nt q]; rfl
  · simp only [e, ↓reduceIte]
    by_cases q : n < 8
    · rw [if_pos (show nI n < 8 from nI_lt (b := 8) q (by omega)), bI_nf q]; rfl
    · rw [if_neg (show ¬ nI n < 8 from nI_nlt (b := 8) (by omega) (by omega)), bI_nt q]; rfl
/-- the class's told rows k and the model's change alone; the rest of the relation stays -/
theorem Rel_told {σc σc' σm σm' : xSt} (h : Rel σc σm) (k : Nat) (hk : k < 3) (hc : xFr [14 + k] [15 + k, 18 + k, 21 + k, 24 + k] σc σc') (hm : xFr [10, 14, 27] [11, 12, 13, 15, 16, 28, 29, 30] σm σm')
    (h0 : RSit σc' σm') (h1 : RWin σc' σm') (h2 : RSml σc' σm') : Rel σc' σm' := by
  have ci : ∀ j, j < 14 ∨ 17 ≤ j → xI σc' j = xI σc j := fun j hj => hc.1 j (by simp; omega)
  have ca : ∀ j, j < 15 ∨ 27 ≤ j → xA σc' j = xA σc j := fun j hj => hc.2 j (by simp; omega)
  obtain ⟨⟨n0, B0, t0, u0⟩, ⟨n1, B1, t1, u1⟩, -, -, -, hsh, hf⟩ := h
  refine ⟨⟨n0, B0, CText_fr t0 (ci _ (by omega)) (ci _ (by omega)) (ca _ (by omega)) (ca _ (by omega)) (ca _ (by omega)) (ca _ (by omega)), MText_fr u0 (hm.2 0 (by decide)) (hm.2 1 (by decide))⟩, ⟨n1, B1, CText_fr t1 (ci _ (by omega)) (ci _ (by omega)) (ca _ (by omega)) (ca _ (by omega)) (ca _ (by omega)) (ca _ (by omega)), MText_fr u1 (hm.2 0 (by decide)) (hm.2 1 (by decide))⟩, h0, h1, h2, fun j hj => RSh_fr (hsh j hj) (ci _ (by omega)) (ci _ (by omega)) (ca _ (by omega)) (by rw [hm.2 32 (by decide)]) (by rw [hm.2 33 (by decide)]) (by rw [hm.2 34 (by decide)]) (fun i _ => by rw [hm.2 35 (by decide)]), ?_⟩
  unfold RFd; rw [ci 0 (by omega), hm.1 37 (by decide)]; exact hf
theorem RWin_fr {σc σc' σm σm' : xSt} (h : RWin σc σm) (c0 : xI σc' 15 = xI σc 15) (c1 : xA σc' 16 = xA σc 16) (c2 : xA σc' 19 = xA σc 19) (c3 : xA σc' 22 = xA σc 22) (c4 : xA σc' 25 = xA σc 25) (m0 : xI σm' 14 = xI σm 14) (m1 : xA σm' 15 = xA σm 15) (m2 : xA σm' 16 = xA σm 16) : RWin σc' σm' := by
  obtain ⟨n, h, t, a1, a2, a3, a4, a5⟩ := h
  exact ⟨n, h, t, a1, CTold_fr a2 c0 c1 c2 c3 c4, a3, by rw [m0]; exact a4, by unfold MWin; rw [m1, m2]; exact a5⟩
theorem RSit_fr {σc σc' σm σm' : xSt} (h : RSit σc σm) (c0 : xI σc' 14 = xI σc 14) (c1 : xA σc' 15 = xA σc 15) (c2 : xA σc' 18 = xA σc 18) (c3 : xA σc' 21 = xA σc 21) (c4 : xA σc' 24 = xA σc 24) (m0 : xI σm' 10 = xI σm 10) (m1 : xA σm' 11 = xA σm 11) (m2 : xA σm' 12 = xA σm 12) (m3 : xA σm' 13 = xA σm 13) : RSit σc' σm' := by
  obtain ⟨n, h, t, p, a1, a2, a3, a4, a5⟩ := h
  exact ⟨n, h, t, p, a1, CTold_fr a2 c0 c1 c2 c3 c4, a3, by rw [m0]; exact a4, by unfold MSit; rw [m1, m2, m3]; exact a5⟩
theorem RSml_fr {σc σc' σm σm' : xSt} (h : RSml σc σm) (c0 : xI σc' 16 = xI σc 16) (c1 : xA σc' 17 = xA σc 17) (c2 : xA σc' 20 = xA σc 20) (c3 : xA σc' 23 = xA σc 23) (c4 : xA σc' 26 = xA σc 26) (m0 : xI σm' 27 = xI σm 27) (m1 : xA σm' 28 = xA σm 28) (m2 : xA σm' 29 = xA σm 29) (m3 : xA σm' 30 = xA σm 30) : RSml σc' σm' := by
  obtain ⟨n, h, t, o, a1, a2, a3, a4⟩ := h
  exact ⟨n, h, t, o, a1, CTold_fr a2 c0 c1 c2 c3 c4, a3, by unfold MSml; rw [m0, m1, m2, m3]; exact a4⟩
