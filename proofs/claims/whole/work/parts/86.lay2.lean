theorem rep_19 {σ : xSt} {t : Nat} {pre rest : Ly} {x : Nat × Nat} {g : Nat} (r : rep σ t (pre ++ x :: rest)) : rep (xsA σ 19 (6 * t + pre.length) (nI g)) t (pre ++ (x.1, g) :: rest) := by
  obtain ⟨a, b, c⟩ := r
  refine ⟨by rw [List.length_append] at a ⊢; exact a, by rw [xA_s0 (by decide), b, List.length_append, List.length_append]; rfl, fun i y q => ?_⟩
  rw [xA_s0 (by decide), xA_s1]
  by_cases e : i < pre.length
  · rw [List.getElem?_append_left e] at q
    have := c i y (by rw [List.getElem?_append_left e]; exact q)
    rw [upd_0 (by omega)]; exact this
  · rw [List.getElem?_append_right (by omega)] at q
    by_cases e2 : i = pre.length
    · subst e2
      rw [Nat.sub_self] at q
      cases q
      have := c pre.length x (by rw [List.getElem?_append_right (Nat.le_refl _), Nat.sub_self]; rfl)
      rw [upd_1]; exact ⟨this.1, rfl⟩
    · obtain ⟨j, hj⟩ : ∃ j, i - pre.length = j + 1 := ⟨i - pre.length - 1, by omega⟩
      rw [hj, List.getElem?_cons_succ] at q
      have := c i y (by rw [List.getElem?_append_right (by omega), hj, List.getElem?_cons_succ]; exact q)
      rw [upd_0 (by omega)]; exact this
theorem repH_19 {σ : xSt} {t i : Nat} {l : Ly} {v : Int32} (r : rep σ t l) : repH (xsA σ 19 (6 * t + i) v) t l i := by
  obtain ⟨a, b, c⟩ := r
  refine ⟨a, by rw [xA_s0 (by decide)]; exact b, fun j x hj q => ?_⟩
  rw [xA_s0 (by decide), xA_s1, upd_0 (by omega)]; exact c j x q
theorem MH_t {σ σ' : xSt} {H : Hs} {t : Nat} (h : MH σ H) (f : xFt t σ σ') : MH σ' H := MH_fr h f.1 (by simp) (by simp)
theorem eraseIdx_at {pre rest : Ly} {x : Nat × Nat} : (pre ++ x :: rest).eraseIdx pre.length = pre ++ rest := by
  induction pre with
  | nil => rfl
  | cons a pre ih => show a :: ((pre ++ x :: rest).eraseIdx pre.length) = _; rw [ih]; rfl
theorem m_fadesL (F t : Nat) (H : Hs) (hF : 100 ≤ F) (ht : t < 6) (hB : HB H) : ∀ (fu : Nat) (rest pre : Ly) (σ : xSt), rest.length < fu → MH σ H → (∀ x, x ∈ rest → x.1 < hP H ∧ x.2 ≤ 9) → rep σ t (pre ++ rest) →
    ∃ σ', mX9_fades_L2 F fu (nI t) (nI pre.length) σ = some σ' ∧ xFt t σ σ' ∧ rep σ' t (pre ++ fadeL (hQ H) rest) := by
  have hb2 := hB.2.1
  intro fu
  induction fu with
  | zero => intro rest pre σ a; omega
  | succ fu ih =>
    intro rest pre σ a hH hx r
    show ∃ σ', mX9_fades_S2 F (mX9_fades_L2 F fu) (nI t) (nI pre.length) σ = some σ' ∧ _
    unfold mX9_fades_S2 mX9_fades_L71
    have r6 := r.1
    rw [List.length_append] at r6
    rw [xck_in ht (by omega), nI_clamp (show t < 2 ^ 31 by omega), r.2.1, List.length_append]
    cases rest with
    | nil =>
      rw [if_pos (nI_le (by show pre.length + 0 ≤ _; omega) (by omega))]
      exact ⟨σ, rfl, xFt_rf, r⟩
    | cons x rest =>
      have hlen : (x :: rest).length = rest.length + 1 := rfl
      rw [if_neg (nI_ge (by omega) (by omega))]
      obtain ⟨h18, h19⟩ := r.2.2 pre.length x (by rw [List.getElem?_append_right (Nat.le_refl _), Nat.sub_self]; rfl)
      obtain ⟨x1, x2⟩ := hx x (by simp)
      obtain ⟨q1, q2, q3⟩ := hB.2.2.2 x.1 x1
      simp only [e6, nI_add, xin_nI (show 6 * t + pre.length < 36 by omega) (by omega), nI_clamp (show 6 * t + pre.length < 2 ^ 31 by omega), h18, h19, xin_nI (show x.1 < 9 by omega) (by omega), nI_clamp (show x.1 < 2 ^ 31 by omega), (hH.2.2.2 x.1 x1).2.1, xA_s1, upd_1, nI_1, xb1_s, xb2_s, xck_1, i10, i00, i11, ↓reduceIte]
      by_cases q : hQ H x.1 < x.2
      · have e1 : nI x.2 - nI (hQ H x.1) = nI (x.2 - hQ H x.1) := pk_sub (by omega)
        rw [e1, if_pos (show (0 : Int32) < nI (x.2 - hQ H x.1) from nI_lt (a := 0) (by omega) (by omega))]
        have r' := rep_19 (g := x.2 - hQ H x.1) r
        obtain ⟨σ', w1, w2, w3⟩ := ih rest (pre ++ [(x.1, x.2 - hQ H x.1)]) (xsA σ 19 (6 * t + pre.length) (nI (x.2 - hQ H x.1))) (by omega) (MH_t hH (xFt_19 (by omega))) (fun y hy => hx y (by simp [hy])) (by rw [List.append_assoc]; exact r')
        rw [List.length_append] at w1
        refine ⟨σ', w1, xFt_tr (xFt_19 (by omega)) w2, ?_⟩
        unfold fadeL at w3 ⊢
        rw [List.filterMap_cons, if_pos q]
        rw [List.append_assoc] at w3
        exact w3
      · have hneg : ¬ (0 : Int32) < nI x.2 - nI (hQ H x.1) := by
          intro z
          have := Int32.lt_iff_toInt_lt.mp z
          rw [pk_sub_toInt (by omega) (by omega)] at this
          have h0 : (0 : Int32).toInt = 0 := by decide
          omega
        rw [if_neg hneg]
        obtain ⟨σ1, z1, z2, z3⟩ := m_takesOut F t pre.length hF ht (pre ++ x :: rest) (xsA σ 19 (6 * t + pre.length) (nI x.2 - nI (hQ H x.1))) (by rw [List.length_append, hlen]; omega) (repH_19 r)
        rw [z1, xb1_s]
        rw [eraseIdx_at] at z3
        obtain ⟨σ', w1, w2, w3⟩ := ih rest pre σ1 (by omega) (MH_t (MH_t hH (xFt_19 (by omega))) z2) (fun y hy => hx y (by simp [hy])) z3
        refine ⟨σ', w1, xFt_tr (xFt_tr (xFt_19 (by omega)) z2) w2, ?_⟩
        unfold fadeL at w3 ⊢
        rw [List.filterMap_cons, if_neg q]
        exact w3
theorem m_fades (F t : Nat) (H : Hs) (hF : 100 ≤ F) (ht : t < 6) (hB : HB H) (l : Ly) (σ : xSt) (hH : MH σ H) (hx : ∀ x, x ∈ l → x.1 < hP H ∧ x.2 ≤ 9) (r : rep σ t l) :
    ∃ σ', mX9_fades F (nI t) σ = some σ' ∧ xFt t σ σ' ∧ rep σ' t (fadeL (hQ H) l) := m_fadesL F t H hF ht hB F l [] σ (by have := r.1; omega) hH hx r
theorem m_airs (F t : Nat) (hF : 100 ≤ F) (ht : t < 6) (l : Ly) (σ : xSt) (r : rep σ t l) : ∃ σ', mX9_airs F (nI t) σ = some σ' ∧ xFt t σ σ' ∧ rep σ' t l.tail := by
  unfold mX9_airs mX9_airs_L15
  have r6 := r.1
  rw [xck_in ht (by omega), nI_clamp (by omega), r.2.1]
  simp only [nI_le0 (show l.length < 2 ^ 31 by omega)]
  cases l with
  | nil => rw [if_pos (show ([] : Ly).length = 0 from rfl)]; exact ⟨σ, rfl, xFt_rf, r⟩
  | cons x l =>
    rw [if_neg (by simp)]
    obtain ⟨σ1, z1, z2, z3⟩ := m_takesOut F t 0 hF ht (x :: l) σ (by simp) (rep_H r)
    rw [show (0 : Int32) = nI 0 from rfl, z1, xb1_s]
    exact ⟨σ1, rfl, z2, z3⟩
theorem m_sitsL (F p t m : Nat) (hF : 100 ≤ F) (ht : t < 6) (hm : m < 100) : ∀ (i fu : Nat) (l : Ly) (σ : xSt), i ≤ l.length → i < fu → (∀ x, x ∈ l → x.1 < 100) → rep σ t l →
    ∃ σ', mX9_sits_L16 F fu (nI p) (nI t) (nI m) (nI i - 1) σ = mX9_sits_L50 F (nI p) (nI t) (nI m) σ' ∧ xFt t σ σ' ∧ rep σ' t (outL m (l.take i) ++ l.drop i) := by
  intro i
  induction i with
  | zero =>
    intro fu l σ a b _ r
    obtain ⟨fu, rfl⟩ : ∃ f, fu = f + 1 := ⟨fu - 1, by omega⟩
    show ∃ σ', mX9_sits_S16 F (mX9_sits_L16 F fu) (nI p) (nI t) (nI m) (nI 0 - 1) σ = _ ∧ _
    unfold mX9_sits_S16
    rw [if_pos (by decide)]
    exact ⟨σ, rfl, xFt_rf, r⟩
  | succ i ih =>
    intro fu l σ a b hx r
    have r6 := r.1
    obtain ⟨fu, rfl⟩ : ∃ f, fu = f + 1 := ⟨fu - 1, by omega⟩
    show ∃ σ', mX9_sits_S16 F (mX9_sits_L16 F fu) (nI p) (nI t) (nI m) (nI (i + 1) - 1) σ = _ ∧ _
    unfold mX9_sits_S16 mX9_sits_L44
    have hi : i < l.length := by omega
    have hg : l[i]? = some l[i] := List.getElem?_eq_getElem hi
    obtain ⟨h18, _⟩ := r.2.2 i l[i] hg
    have e1 : nI i + (-1) = nI i - 1 := by rw [Int32.sub_eq_add_neg]
    rw [nI_pred, if_neg (nI_pos (by omega)), e6, nI_add, xck_in (by omega) (by omega), nI_clamp (by omega), h18, e1]
    have htd : l.take (i + 1) = l.take i ++ [l[i]] := by rw [List.take_succ, hg]; rfl
    by_cases q : l[i].1 = m
    · rw [if_pos (by rw [q])]
      obtain ⟨σ1, z1, z2, z3⟩ := m_takesOut F t i hF ht l σ hi (rep_H r)
      rw [z1, xb1_s]
      have hel : (l.eraseIdx i).length = l.length - 1 := by rw [List.length_eraseIdx, if_pos hi]
      obtain ⟨σ', w1, w2, w3⟩ := ih fu (l.eraseIdx i) σ1 (by omega) (by omega) (fun x hx' => hx x (List.mem_of_mem_eraseIdx hx')) z3
      refine ⟨σ', w1, xFt_tr z2 w2, ?_⟩
      have t1 : (l.eraseIdx i).take i = l.take i := by rw [List.eraseIdx_eq_take_drop_succ, List.take_append_of_le_length (by rw [List.length_take]; omega), List.take_take, Nat.min_self]
      have t2 : (l.eraseIdx i).drop i = l.drop (i + 1) := by
        rw [List.eraseIdx_eq_take_drop_succ, List.drop_append_of_le_length (by rw [List.length_take]; omega), List.drop_eq_nil_of_le (by rw [List.length_take]; omega), List.nil_append]
      rw [t1, t2] at w3
      rw [htd]
      unfold outL at w3 ⊢
      rw [List.filter_append, List.filter_cons_of_neg (by simp [q]), List.filter_nil, List.append_nil]
      exact w3
    · have hl := hx l[i] (List.getElem_mem hi)
      rw [if_neg (by rw [nI_eq (by omega) (by omega)]; exact q)]
      obtain ⟨σ', w1, w2, w3⟩ := ih fu l σ (by omega) (by omega) hx r
      refine ⟨σ', w1, w2, ?_⟩
      rw [htd]
      unfold outL at w3 ⊢
      rw [List.filter_append, List.filter_cons_of_pos (by simp [q]), List.filter_nil, List.append_assoc]
      rw [List.drop_eq_getElem_cons hi] at w3
      exact w3
theorem outL_le {m : Nat} {l : Ly} : (outL m l).length ≤ l.length := List.length_filter_le _ _
theorem erase_last : ∀ (l : Ly) (n : Nat), l.length = n + 1 → l.eraseIdx n = l.dropLast
  | [], n, h => by cases h
  | [a], n, h => by
    have : n = 0 := by have h' : 0 + 1 = n + 1 := h; omega
    subst this; rfl
  | a :: b :: l, 0, h => by have h' : l.length + 1 + 1 = 0 + 1 := h; omega
  | a :: b :: l, n + 1, h => by
    show a :: (b :: l).eraseIdx n = a :: (b :: l).dropLast
    rw [erase_last (b :: l) n (by have h' : l.length + 1 + 1 = n + 1 + 1 := h; show l.length + 1 = n + 1; omega)]
theorem m_sits (F p t : Nat) (H : Hs) (hF : 100 ≤ F) (hB : HB H) (ht : t < hT H) (hp : p < hP H) (l : Ly) (σ : xSt) (hH : MH σ H) (hx : ∀ x, x ∈ l → x.1 < hP H ∧ x.2 ≤ 9) (hl : l.length ≤ hK H t) (r : rep σ t l) :
    ∃ σ', mX9_sits F (nI p) (nI t) σ = some σ' ∧ xFt t σ σ' ∧ rep σ' t (comeL (hU H t) (hK H t) (hM H p) (hS H p) l) := by
  have hb1 := hB.1
  have hb2 := hB.2.1
  obtain ⟨⟨k1, k2⟩, _, u1⟩ := hB.2.2.1 t ht
  obtain ⟨s1, _, m1⟩ := hB.2.2.2 p hp
  have r6 := r.1
  obtain ⟨σ1, w1, w2, w3⟩ := m_sitsL F p t (hM H p) hF (by omega) (by omega) l.length F l σ (Nat.le_refl _) (by omega) (fun x hx' => by have := (hx x hx').1; omega) r
  rw [List.take_length, List.drop_length, List.append_nil] at w3
  unfold mX9_sits
  rw [m_smellOf F p hH hB hp, xb2_s, xck_in (show t < 6 by omega) (by omega), nI_clamp (by omega), r.2.1, w1]
  have hH1 := MH_t hH w2
  have ol := @outL_le (hM H p) l
  unfold mX9_sits_L50 mX9_sits_L72 mX9_sits_L121 mX9_sits_L124
  have eU : ∀ σ2, MH σ2 H → (xA σ2 5 t = 1) = (hU H t = 1) := fun σ2 h2 => by rw [(h2.2.1 t ht).2.2]; exact nI_eqL 1 (by omega) (by omega)
  simp only [xin_nI (show t < 7 by omega) (by omega), xin_nI (show t < 6 by omega) (by omega), xin_nI (show p < 9 by omega) (by omega), nI_clamp (show t < 2 ^ 31 by omega), nI_clamp (show p < 2 ^ 31 by omega), eU σ1 hH1, w3.2.1, (hH1.2.2.2 p hp).1, xb1_s, xb2_s, xck_1, i10, i00, i11, ↓reduceIte]
  unfold comeL
  by_cases q : hU H t = 1
  · rw [if_pos q, if_pos q]
    obtain ⟨σ2, z1, z2, z3⟩ := m_putsN F t hF (by omega) (hM H p) (hS H p) (outL (hM H p) l) σ1 (by omega) w3
    have hH2 := MH_t hH1 z2
    rw [z1, xb1_s, z3.2.1, (hH2.2.1 t ht).1]
    have z6 := z3.1
    by_cases q2 : (outL (hM H p) l ++ [(hM H p, hS H p)]).length ≤ hK H t
    · rw [if_pos (nI_le q2 (by omega)), if_pos q2]
      exact ⟨σ2, rfl, xFt_tr w2 z2, z3⟩
    · rw [if_neg (nI_ge (by omega) (by omega)), if_neg q2]
      simp only [eU σ2 hH2, q, xb1_s, xb2_s, xck_1, i10, i00, i11, ↓reduceIte]
      obtain ⟨σ3, y1, y2, y3⟩ := m_takesOut F t 0 hF (by omega) _ σ2 (by rw [List.length_append]; show 0 < _ + 1; omega) (rep_H z3)
      rw [show (0 : Int32) = nI 0 from rfl, y1, xb1_s]
      rw [List.eraseIdx_zero] at y3
      exact ⟨σ3, rfl, xFt_tr (xFt_tr w2 z2) y2, y3⟩
  · rw [if_neg q, if_neg q]
    obtain ⟨σ2, z1, z2, z3⟩ := m_puts0 F t hF (by omega) (hM H p) (hS H p) (outL (hM H p) l) σ1 (by omega) w3
    have hH2 := MH_t hH1 z2
    rw [z1, xb1_s, z3.2.1, (hH2.2.1 t ht).1]
    have z6 := z3.1
    by_cases q2 : ((hM H p, hS H p) :: outL (hM H p) l).length ≤ hK H t
    · rw [if_pos (nI_le q2 (by omega)), if_pos q2]
      exact ⟨σ2, rfl, xFt_tr w2 z2, z3⟩
    · rw [if_neg (nI_ge (by omega) (by omega)), if_neg q2]
      have el : ((hM H p, hS H p) :: outL (hM H p) l).length = (outL (hM H p) l).length + 1 := rfl
      simp only [eU σ2 hH2, q, el, nI_pred, xb1_s, xb2_s, xck_1, i10, i00, i11, ↓reduceIte]
      obtain ⟨σ3, y1, y2, y3⟩ := m_takesOut F t (outL (hM H p) l).length hF (by omega) _ σ2 (by rw [el]; omega) (rep_H z3)
      rw [y1, xb1_s]
      rw [erase_last _ _ el] at y3
      exact ⟨σ3, rfl, xFt_tr (xFt_tr w2 z2) y2, y3⟩
