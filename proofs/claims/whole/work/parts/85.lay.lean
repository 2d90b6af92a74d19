/-! ===== the layers of a thing: smell and strength, from over all others on ===== -/
abbrev Ly : Type := List (Nat × Nat)
def fadeL (Q : Nat → Nat) (l : Ly) : Ly := l.filterMap (fun x => if Q x.1 < x.2 then some (x.1, x.2 - Q x.1) else none)
def outL (m : Nat) (l : Ly) : Ly := l.filter (fun x => decide (x.1 ≠ m))
def comeL (u K m g : Nat) (l : Ly) : Ly :=
  if u = 1 then (if (outL m l ++ [(m, g)]).length ≤ K then outL m l ++ [(m, g)] else (outL m l ++ [(m, g)]).tail)
  else (if ((m, g) :: outL m l).length ≤ K then (m, g) :: outL m l else ((m, g) :: outL m l).dropLast)
/-- how the model holds the layers of thing t -/
def rep (σ : xSt) (t : Nat) (l : Ly) : Prop := l.length ≤ 6 ∧ xA σ 17 t = nI l.length ∧ ∀ i x, l[i]? = some x → xA σ 18 (6 * t + i) = nI x.1 ∧ xA σ 19 (6 * t + i) = nI x.2
def repH (σ : xSt) (t : Nat) (l : Ly) (h : Nat) : Prop := l.length ≤ 6 ∧ xA σ 17 t = nI l.length ∧ ∀ i x, i ≠ h → l[i]? = some x → xA σ 18 (6 * t + i) = nI x.1 ∧ xA σ 19 (6 * t + i) = nI x.2
theorem rep_H {σ : xSt} {t : Nat} {l : Ly} {h : Nat} (r : rep σ t l) : repH σ t l h := ⟨r.1, r.2.1, fun i x _ q => r.2.2 i x q⟩
/-- only thing t's layers change -/
def xFt (t : Nat) (σ σ' : xSt) : Prop := xFr [] [17, 18, 19] σ σ' ∧ ∀ t', t' ≠ t → xA σ' 17 t' = xA σ 17 t' ∧ ∀ i, i < 6 → xA σ' 18 (6 * t' + i) = xA σ 18 (6 * t' + i) ∧ xA σ' 19 (6 * t' + i) = xA σ 19 (6 * t' + i)
theorem xFt_rf {t : Nat} {σ : xSt} : xFt t σ σ := ⟨xFr_rf, fun _ _ => ⟨rfl, fun _ _ => ⟨rfl, rfl⟩⟩⟩
theorem xFt_tr {t : Nat} {σ σ' σ'' : xSt} (h : xFt t σ σ') (h' : xFt t σ' σ'') : xFt t σ σ'' :=
  ⟨xFr_tr h.1 h'.1, fun t' ht => ⟨(h'.2 t' ht).1.trans (h.2 t' ht).1, fun i hi => ⟨((h'.2 t' ht).2 i hi).1.trans ((h.2 t' ht).2 i hi).1, ((h'.2 t' ht).2 i hi).2.trans ((h.2 t' ht).2 i hi).2⟩⟩⟩
theorem xFt_17 {t : Nat} {σ : xSt} {v : Int32} : xFt t σ (xsA σ 17 t v) := ⟨xFr_sA (by decide), fun t' ht => ⟨by rw [xA_s1, upd_0 ht], fun i _ => ⟨by rw [xA_s0 (by decide)], by rw [xA_s0 (by decide)]⟩⟩⟩
theorem xFt_18 {t i : Nat} {σ : xSt} {v : Int32} (hi : i < 6) : xFt t σ (xsA σ 18 (6 * t + i) v) := ⟨xFr_sA (by decide), fun t' ht => ⟨by rw [xA_s0 (by decide)], fun j hj => ⟨by rw [xA_s1, upd_0 (by omega)], by rw [xA_s0 (by decide)]⟩⟩⟩
theorem xFt_19 {t i : Nat} {σ : xSt} {v : Int32} (hi : i < 6) : xFt t σ (xsA σ 19 (6 * t + i) v) := ⟨xFr_sA (by decide), fun t' ht => ⟨by rw [xA_s0 (by decide)], fun j hj => ⟨by rw [xA_s0 (by decide)], by rw [xA_s1, upd_0 (by omega)]⟩⟩⟩
theorem rep_o {σ σ' : xSt} {t t' : Nat} {l : Ly} (h : xFt t σ σ') (ht : t' ≠ t) (r : rep σ t' l) : rep σ' t' l := by
  obtain ⟨a, b⟩ := h.2 t' ht
  refine ⟨r.1, a.trans r.2.1, fun i x q => ?_⟩
  have hi : i < l.length := (List.getElem?_eq_some_iff.mp q).1
  have := r.1
  obtain ⟨c, d⟩ := b i (by omega)
  rw [c, d]; exact r.2.2 i x q
theorem e6 (t : Nat) : (6 : Int32) * nI t = nI (6 * t) := pk_mul 6 t
theorem m_takesL (F t n : Nat) (ht : t < 6) (hn : n ≤ 6) : ∀ (fu j : Nat) (σ : xSt), n ≤ j + fu → j + 1 ≤ n → xA σ 17 t = nI n →
    ∃ σ', mX9_takesOut_L2 F fu (nI t) (nI j) σ = some σ' ∧ xFt t σ σ' ∧ xA σ' 17 t = nI (n - 1) ∧ ∀ i, (xA σ' 18 (6 * t + i) = if j ≤ i ∧ i + 1 < n then xA σ 18 (6 * t + i + 1) else xA σ 18 (6 * t + i)) ∧ (xA σ' 19 (6 * t + i) = if j ≤ i ∧ i + 1 < n then xA σ 19 (6 * t + i + 1) else xA σ 19 (6 * t + i)) := by
  intro fu
  induction fu with
  | zero => intro j σ a b; omega
  | succ fu ih =>
    intro j σ a b h17
    show ∃ σ', mX9_takesOut_S2 F (mX9_takesOut_L2 F fu) (nI t) (nI j) σ = some σ' ∧ _
    unfold mX9_takesOut_S2 mX9_takesOut_L68
    have en : nI n - 1 = nI (n - 1) := pk_sub (b := 1) (by omega)
    simp only [xin_nI (show t < 6 by omega) (by omega), nI_clamp (show t < 2 ^ 31 by omega), h17, en, e6, nI_add, nI_1, xb1_s, xb2_s, xck_1, i10, i00, i11, ↓reduceIte]
    by_cases q : n - 1 ≤ j
    · rw [if_pos (nI_le q (by omega))]
      refine ⟨_, rfl, xFt_17, by rw [xA_s1, upd_1], fun i => ?_⟩
      rw [if_neg (by omega), if_neg (by omega), xA_s0 (by decide), xA_s0 (by decide)]
      exact ⟨rfl, rfl⟩
    · rw [if_neg (nI_ge (by omega) (by omega))]
      simp only [xin_nI (show 6 * t + j + 1 < 36 by omega) (by omega), xin_nI (show 6 * t + j < 36 by omega) (by omega), nI_clamp (show 6 * t + j < 2 ^ 31 by omega), nI_clamp (show 6 * t + j + 1 < 2 ^ 31 by omega), xb1_s, xb2_s, xck_1, i10, i00, i11, ↓reduceIte]
      obtain ⟨σ', w1, w2, w3, w4⟩ := ih (j + 1) (xsA (xsA σ 18 (6 * t + j) (xA σ 18 (6 * t + j + 1))) 19 (6 * t + j) (xA (xsA σ 18 (6 * t + j) (xA σ 18 (6 * t + j + 1))) 19 (6 * t + j + 1))) (by omega) (by omega) (by rw [xA_s0 (by decide), xA_s0 (by decide)]; exact h17)
      refine ⟨σ', w1, xFt_tr (xFt_tr (xFt_18 (by omega)) (xFt_19 (by omega))) w2, w3, fun i => ?_⟩
      obtain ⟨z1, z2⟩ := w4 i
      rw [z1, z2, xA_s0 (show 18 ≠ 19 by decide), xA_s1, xA_s1, xA_s0 (show 19 ≠ 18 by decide)]
      by_cases e : i = j
      · subst e
        rw [if_neg (by omega), if_pos (by omega), if_neg (by omega), if_pos (by omega), upd_1, upd_1]
        exact ⟨rfl, rfl⟩
      · by_cases e2 : j ≤ i ∧ i + 1 < n
        · rw [if_pos (by omega), if_pos e2, if_pos (by omega), if_pos e2, upd_0 (by omega), upd_0 (by omega)]
          exact ⟨rfl, rfl⟩
        · rw [if_neg (by omega), if_neg e2, if_neg (by omega), if_neg e2, upd_0 (by omega), upd_0 (by omega)]
          exact ⟨rfl, rfl⟩
theorem m_takesOut (F t i : Nat) (hF : 100 ≤ F) (ht : t < 6) (l : Ly) (σ : xSt) (hi : i < l.length) (r : repH σ t l i) : ∃ σ', mX9_takesOut F (nI t) (nI i) σ = some σ' ∧ xFt t σ σ' ∧ rep σ' t (l.eraseIdx i) := by
  have r1 := r.1
  obtain ⟨σ', w1, w2, w3, w4⟩ := m_takesL F t l.length ht r.1 F i σ (by omega) (by omega) r.2.1
  have hl : (l.eraseIdx i).length = l.length - 1 := by rw [List.length_eraseIdx, if_pos hi]
  refine ⟨σ', w1, w2, by omega, by rw [hl]; exact w3, fun j x q => ?_⟩
  have hj : j < l.length - 1 := by rw [← hl]; exact (List.getElem?_eq_some_iff.mp q).1
  obtain ⟨z1, z2⟩ := w4 j
  rw [z1, z2]
  rw [List.getElem?_eraseIdx] at q
  by_cases e : j < i
  · rw [if_pos e] at q
    rw [if_neg (by omega), if_neg (by omega)]
    exact r.2.2 j x (by omega) q
  · rw [if_neg e] at q
    rw [if_pos (by omega), if_pos (by omega)]
    exact r.2.2 (j + 1) x (by omega) q
theorem m_putsL (F t at' : Nat) (m g : Int32) (ht : t < 6) : ∀ (fu j : Nat) (σ : xSt) (n : Nat), n < 6 → xA σ 17 t = nI n → at' ≤ j → j ≤ n → j < at' + fu →
    ∃ σ', mX9_putsIn_L8 F fu (nI t) (nI at') m g (nI j) σ = some σ' ∧ xFt t σ σ' ∧ xA σ' 17 t = nI (n + 1) ∧ ∀ i, (xA σ' 18 (6 * t + i) = if i = at' then m else if at' < i ∧ i ≤ j then xA σ 18 (6 * t + i - 1) else xA σ 18 (6 * t + i)) ∧ (xA σ' 19 (6 * t + i) = if i = at' then g else if at' < i ∧ i ≤ j then xA σ 19 (6 * t + i - 1) else xA σ 19 (6 * t + i)) := by
  intro fu
  induction fu with
  | zero => intro j σ n _ _ a b; omega
  | succ fu ih =>
    intro j σ n hn h17 a b c
    show ∃ σ', mX9_putsIn_S8 F (mX9_putsIn_L8 F fu) (nI t) (nI at') m g (nI j) σ = some σ' ∧ _
    unfold mX9_putsIn_S8 mX9_putsIn_L72
    simp only [e6, nI_add, xb1_s, xb2_s, xck_1, i10, i00, i11, ↓reduceIte]
    by_cases q : j = at'
    · subst q
      rw [if_pos (nI_le (Nat.le_refl _) (by omega))]
      simp only [xin_nI (show t < 6 by omega) (by omega), nI_clamp (show t < 2 ^ 31 by omega), xin_nI (show 6 * t + j < 36 by omega) (by omega), nI_clamp (show 6 * t + j < 2 ^ 31 by omega), xA_s0 (show 17 ≠ 18 by decide), xA_s0 (show 17 ≠ 19 by decide), h17, nI_1, xb1_s, xb2_s, xck_1, i10, i00, i11, ↓reduceIte]
      refine ⟨_, rfl, xFt_tr (xFt_tr (xFt_18 (by omega)) (xFt_19 (by omega))) xFt_17, by rw [xA_s1, upd_1], fun i => ?_⟩
      rw [xA_s0 (show 18 ≠ 17 by decide), xA_s0 (show 18 ≠ 19 by decide), xA_s1, xA_s0 (show 19 ≠ 17 by decide), xA_s1, xA_s0 (show 19 ≠ 18 by decide)]
      by_cases e : i = j
      · subst e; rw [if_pos rfl, if_pos rfl, upd_1, upd_1]; exact ⟨rfl, rfl⟩
      · rw [if_neg e, if_neg e, if_neg (by omega), if_neg (by omega), upd_0 (by omega), upd_0 (by omega)]; exact ⟨rfl, rfl⟩
    · rw [if_neg (nI_ge (by omega) (by omega))]
      have e1 : nI (6 * t + j) - 1 = nI (6 * t + j - 1) := pk_sub (b := 1) (by omega)
      have e2 : nI j + (-1) = nI (j - 1) := by
        obtain ⟨j', rfl⟩ : ∃ j', j = j' + 1 := ⟨j - 1, by omega⟩
        exact pk_m1 j'
      simp only [e1, e2, xin_nI (show 6 * t + j - 1 < 36 by omega) (by omega), xin_nI (show 6 * t + j < 36 by omega) (by omega), nI_clamp (show 6 * t + j < 2 ^ 31 by omega), nI_clamp (show 6 * t + j - 1 < 2 ^ 31 by omega), xb1_s, xb2_s, xck_1, i10, i00, i11, ↓reduceIte]
      obtain ⟨σ', w1, w2, w3, w4⟩ := ih (j - 1) (xsA (xsA σ 18 (6 * t + j) (xA σ 18 (6 * t + j - 1))) 19 (6 * t + j) (xA (xsA σ 18 (6 * t + j) (xA σ 18 (6 * t + j - 1))) 19 (6 * t + j - 1))) n hn (by rw [xA_s0 (by decide), xA_s0 (by decide)]; exact h17) (by omega) (by omega) (by omega)
      refine ⟨σ', w1, xFt_tr (xFt_tr (xFt_18 (by omega)) (xFt_19 (by omega))) w2, w3, fun i => ?_⟩
      obtain ⟨z1, z2⟩ := w4 i
      rw [z1, z2, xA_s0 (show 18 ≠ 19 by decide), xA_s1, xA_s1, xA_s0 (show 19 ≠ 18 by decide)]
      by_cases e : i = at'
      · rw [if_pos e, if_pos e, if_pos e, if_pos e]; exact ⟨rfl, rfl⟩
      · rw [if_neg e, if_neg e, if_neg e, if_neg e]
        by_cases e2 : i = j
        · subst e2
          rw [if_neg (by omega), if_pos (by omega), if_neg (by omega), if_pos (by omega), upd_1, upd_1]; exact ⟨rfl, rfl⟩
        · by_cases e3 : at' < i ∧ i ≤ j
          · rw [if_pos (by omega), if_pos e3, if_pos (by omega), if_pos e3, upd_0 (by omega), upd_0 (by omega)]; exact ⟨rfl, rfl⟩
          · rw [if_neg (by omega), if_neg e3, if_neg (by omega), if_neg e3, upd_0 (by omega), upd_0 (by omega)]; exact ⟨rfl, rfl⟩
theorem m_puts0 (F t : Nat) (hF : 100 ≤ F) (ht : t < 6) (m g : Nat) (l : Ly) (σ : xSt) (hl : l.length < 6) (r : rep σ t l) : ∃ σ', mX9_putsIn F (nI t) 0 (nI m) (nI g) σ = some σ' ∧ xFt t σ σ' ∧ rep σ' t ((m, g) :: l) := by
  obtain ⟨σ', w1, w2, w3, w4⟩ := m_putsL F t 0 (nI m) (nI g) ht F l.length σ l.length hl r.2.1 (by omega) (by omega) (by omega)
  refine ⟨σ', ?_, w2, by show l.length + 1 ≤ 6; omega, w3, fun i x q => ?_⟩
  · unfold mX9_putsIn
    rw [xck_in ht (by omega), nI_clamp (by omega), r.2.1]; exact w1
  · obtain ⟨z1, z2⟩ := w4 i
    rw [z1, z2]
    cases i with
    | zero => rw [if_pos rfl, if_pos rfl]; cases q; exact ⟨rfl, rfl⟩
    | succ i =>
      have q' : l[i]? = some x := q
      have hi : i < l.length := (List.getElem?_eq_some_iff.mp q').1
      rw [if_neg (by omega), if_pos (by omega), if_neg (by omega), if_pos (by omega)]
      exact r.2.2 i x q'
theorem m_putsN (F t : Nat) (hF : 100 ≤ F) (ht : t < 6) (m g : Nat) (l : Ly) (σ : xSt) (hl : l.length < 6) (r : rep σ t l) : ∃ σ', mX9_putsIn F (nI t) (nI l.length) (nI m) (nI g) σ = some σ' ∧ xFt t σ σ' ∧ rep σ' t (l ++ [(m, g)]) := by
  obtain ⟨σ', w1, w2, w3, w4⟩ := m_putsL F t l.length (nI m) (nI g) ht F l.length σ l.length hl r.2.1 (by omega) (by omega) (by omega)
  refine ⟨σ', ?_, w2, by rw [List.length_append]; show l.length + 1 ≤ 6; omega, by rw [List.length_append]; exact w3, fun i x q => ?_⟩
  · unfold mX9_putsIn
    rw [xck_in ht (by omega), nI_clamp (by omega), r.2.1]; exact w1
  · obtain ⟨z1, z2⟩ := w4 i
    rw [z1, z2]
    by_cases e : i < l.length
    · rw [List.getElem?_append_left e] at q
      rw [if_neg (by omega), if_neg (by omega), if_neg (by omega), if_neg (by omega)]
      exact r.2.2 i x q
    · have hi : i < l.length + 1 := by
        have := (List.getElem?_eq_some_iff.mp q).1
        rw [List.length_append] at this; exact this
      have e2 : i = l.length := by omega
      subst e2
      rw [List.getElem?_append_right (Nat.le_refl _), Nat.sub_self] at q
      cases q
      rw [if_pos rfl, if_pos rfl]; exact ⟨rfl, rfl⟩
