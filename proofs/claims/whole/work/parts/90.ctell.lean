def airR (u : Nat) (r : Ly) : Ly := if u = 1 then r.dropLast else r.tail
def revU (u : Nat) (l : Ly) : Ly := if u = 1 then l.reverse else l
theorem c_loseE (n : Nat) (hn : n ≤ 5) (σ : xSt) (h1 : xI σ 1 = nI n) : ∃ σ', (if nI n ≤ 0 then some σ else some (xsI σ 1 (nI n - 1))) = some σ' ∧ xFr [1] [2, 3, 4] σ σ' ∧ xI σ' 1 = nI (n - 1) ∧ ∀ a, xA σ' a = xA σ a := by
  by_cases q : n = 0
  · subst q
    exact ⟨σ, by rw [if_pos (by decide)], xFr_rf, h1, fun _ => rfl⟩
  · have e : nI n - 1 = nI (n - 1) := pk_sub (b := 1) (by omega)
    exact ⟨xsI σ 1 (nI (n - 1)), by rw [if_neg (show ¬ (nI n ≤ 0) from nI_ge (a := 0) (by omega) (by omega)), e], xFr_sI (by decide), by rw [xI_sI, if_pos rfl], fun _ => rfl⟩
theorem c_loseL (F n : Nat) (hn : n ≤ 5) : ∀ (fu j : Nat) (σ : xSt), n ≤ j + fu → 0 < fu → j < 100 → xI σ 1 = nI n → xI σ 2 = 0 →
    ∃ σ', mX3_loseOver_L2 F fu (nI j) σ = some σ' ∧ xFr [1] [2, 3, 4] σ σ' ∧ xI σ' 1 = nI (n - 1) ∧ ∀ i, (xA σ' 2 i = if j ≤ i ∧ i + 1 < n then xA σ 2 (i + 1) else xA σ 2 i) ∧ (xA σ' 3 i = if j ≤ i ∧ i + 1 < n then xA σ 3 (i + 1) else xA σ 3 i) ∧ (xA σ' 4 i = if j ≤ i ∧ i + 1 < n then xA σ 4 (i + 1) else xA σ 4 i) := by
  intro fu
  induction fu with
  | zero => intro j σ a b; omega
  | succ fu ih =>
    intro j σ a b hj h1 h2
    show ∃ σ', mX3_loseOver_S2 F (mX3_loseOver_L2 F fu) (nI j) σ = some σ' ∧ _
    unfold mX3_loseOver_S2 mX3_loseOver_L67 mX3_loseOver_L84
    rw [h1, h2, nI_1]
    by_cases q : n ≤ j + 1
    · · rw [if_pos (nI_le q (by omega))]
        obtain ⟨σ', w1, w2, w3, w4⟩ := c_loseE n hn σ h1
        refine ⟨σ', w1, w2, w3, fun i => ?_⟩
        have z : ¬ (j ≤ i ∧ i + 1 < n) := by omega
        rw [if_neg z, if_neg z, if_neg z, w4, w4, w4]; exact ⟨rfl, rfl, rfl⟩
    · rw [if_neg (nI_ge (by omega) (by omega)), if_pos rfl]
      simp only [xin_nI (show j < 5 by omega) (by omega), xin_nI (show j + 1 < 5 by omega) (by omega), nI_clamp (show j < 2 ^ 31 by omega), nI_clamp (show j + 1 < 2 ^ 31 by omega), xA_s0 (show 3 ≠ 2 by decide), xA_s0 (show 4 ≠ 3 by decide), xA_s0 (show 4 ≠ 2 by decide), xb1_s, xb2_s, xck_1, i10, i00, i11, ↓reduceIte]
      obtain ⟨σ', w1, w2, w3, w4⟩ := ih (j + 1) (xsA (xsA (xsA σ 2 j (xA σ 2 (j + 1))) 3 j (xA σ 3 (j + 1))) 4 j (xA σ 4 (j + 1))) (by omega) (by omega) (by omega) h1 h2
      refine ⟨σ', w1, xFr_tr (xFr_tr (xFr_tr (xFr_sA (by decide)) (xFr_sA (by decide))) (xFr_sA (by decide))) w2, w3, fun i => ?_⟩
      obtain ⟨z1, z2, z3⟩ := w4 i
      rw [z1, z2, z3, xA_s0 (show 2 ≠ 4 by decide), xA_s0 (show 2 ≠ 3 by decide), xA_s1, xA_s0 (show 3 ≠ 4 by decide), xA_s1, xA_s0 (show 3 ≠ 2 by decide), xA_s1, xA_s0 (show 4 ≠ 3 by decide), xA_s0 (show 4 ≠ 2 by decide)]
      by_cases e : i = j
      · subst e
        have c1 : ¬ (i + 1 ≤ i ∧ i + 1 < n) := by omega
        have c2 : i ≤ i ∧ i + 1 < n := by omega
        rw [if_neg c1, if_pos c2, if_neg c1, if_pos c2, if_neg c1, if_pos c2, upd_1, upd_1, upd_1]
        exact ⟨rfl, rfl, rfl⟩
      · by_cases e2 : j ≤ i ∧ i + 1 < n
        · simp only [e2, show (j + 1 ≤ i ∧ i + 1 < n) by omega, upd_0 (show i + 1 ≠ j by omega), and_self, ↓reduceIte]
        · simp only [e2, show ¬ (j + 1 ≤ i ∧ i + 1 < n) by omega, upd_0 e, and_self, ↓reduceIte]
theorem c_lose (F u : Nat) (Q : Nat → Nat) (hF : 100 ≤ F) (hu : u ≤ 1) (r : Ly) (σ : xSt) (h2 : xI σ 2 = nI u) (h : crep σ Q r) : ∃ σ', mX3_loseOver F σ = some σ' ∧ xFr [1] [2, 3, 4] σ σ' ∧ crep σ' Q (airR u r) := by
  have h5 := h.1
  unfold airR mX3_loseOver
  rcases (show u = 0 ∨ u = 1 by omega) with rfl | rfl
  · obtain ⟨σ', w1, w2, w3, w4⟩ := c_loseL F r.length h5 F 0 σ (by omega) (by omega) (by omega) h.2.1 h2
    refine ⟨σ', w1, w2, ?_⟩
    rw [if_neg (by decide)]
    refine ⟨by rw [List.length_tail]; omega, by rw [List.length_tail]; exact w3, fun i x q => ?_⟩
    rw [List.getElem?_tail] at q
    have hl := lt_of_get q
    obtain ⟨z1, z2, z3⟩ := w4 i
    unfold vals
    rw [z1, z2, z3]
    simp only [show 0 ≤ i ∧ i + 1 < r.length by omega, and_self, ↓reduceIte]
    exact h.2.2 (i + 1) x q
  · obtain ⟨f, rfl⟩ : ∃ f, F = f + 1 := ⟨F - 1, by omega⟩
    show ∃ σ', mX3_loseOver_S2 (f + 1) (mX3_loseOver_L2 (f + 1) f) 0 σ = some σ' ∧ _
    unfold mX3_loseOver_S2 mX3_loseOver_L67 mX3_loseOver_L84
    rw [h.2.1, h2, if_neg (show ¬ (nI 1 = 0) by decide), ite_self]
    obtain ⟨σ', w1, w2, w3, w4⟩ := c_loseE r.length h5 σ h.2.1
    rw [if_pos rfl]
    refine ⟨σ', w1, w2, by rw [List.length_dropLast]; omega, by rw [w3, List.length_dropLast], fun i x q => ?_⟩
    have hl := lt_of_get q
    rw [List.length_dropLast] at hl
    rw [List.getElem?_dropLast, if_pos hl] at q
    unfold vals
    rw [w4, w4, w4]
    exact h.2.2 i x q
theorem c_toldL (F u N : Nat) (Q : Nat → Nat) (hu : u ≤ 1) (hN : N ≤ 5) (l : Ly) (σ : xSt) (h2 : xI σ 2 = nI u) (h : crep σ Q (revU u l)) : ∀ (fu i : Nat) (b : Int32), i ≤ (l.take N).length → (l.take N).length < i + fu →
    mX3_toldBy_L4 F fu (nI N) b (nI i) σ = some (((l.take N).drop i).foldl toldF b, σ) := by
  have hlen : (revU u l).length = l.length := by
    unfold revU
    by_cases e : u = 1
    · rw [if_pos e, List.length_reverse]
    · rw [if_neg e]
  have h5 := h.1
  have h1 := h.2.1
  rw [hlen] at h5 h1
  have htl : (l.take N).length = min N l.length := List.length_take
  intro fu
  induction fu with
  | zero => intro i b x y; omega
  | succ fu ih =>
    intro i b x y
    show mX3_toldBy_S4 F (mX3_toldBy_L4 F fu) (nI N) b (nI i) σ = _
    unfold mX3_toldBy_S4 mX3_toldBy_L52 mX3_toldBy_L42
    rw [h1, h2, nI_1]
    by_cases q1 : l.length ≤ i
    · rw [if_pos (nI_le q1 (by omega)), List.drop_eq_nil_of_le (by omega)]; rfl
    · rw [if_neg (nI_ge (by omega) (by omega))]
      by_cases q2 : N ≤ i
      · rw [if_pos (nI_le q2 (by omega)), List.drop_eq_nil_of_le (by omega)]; rfl
      · rw [if_neg (nI_ge (by omega) (by omega))]
        have hi : i < (l.take N).length := by omega
        have hil : i < l.length := by omega
        have hg : l[i]? = some (l.take N)[i] := by
          rw [List.getElem_take]; exact List.getElem?_eq_getElem (by omega)
        rw [List.drop_eq_getElem_cons hi, List.foldl_cons]
        rcases (show u = 0 ∨ u = 1 by omega) with rfl | rfl
        · rw [if_pos (show nI 0 = 0 from rfl), xck_in (by omega) (by omega), nI_clamp (by omega), (h.2.2 i _ (by unfold revU; rw [if_neg (by decide)]; exact hg)).1]
          exact ih (i + 1) _ (by omega) (by omega)
        · have e1 : nI l.length - 1 - nI i = nI (l.length - 1 - i) := by
            rw [show nI l.length - 1 = nI (l.length - 1) from pk_sub (b := 1) (by omega)]; exact pk_sub (by omega)
          rw [if_neg (show ¬ (nI 1 = 0) by decide), e1, xck_in (by omega) (by omega), nI_clamp (by omega), (h.2.2 (l.length - 1 - i) _ (by
            unfold revU; rw [if_pos rfl, List.getElem?_reverse (by omega), show l.length - 1 - (l.length - 1 - i) = i by omega]; exact hg)).1]
          exact ih (i + 1) _ (by omega) (by omega)
theorem c_toldBy (F u N : Nat) (Q : Nat → Nat) (hF : 100 ≤ F) (hu : u ≤ 1) (hN : N ≤ 5) (l : Ly) (σ : xSt) (h2 : xI σ 2 = nI u) (h : crep σ Q (revU u l)) : mX3_toldBy F (nI N) σ = some (toldL N l, σ) := by
  unfold mX3_toldBy
  have := c_toldL F u N Q hu hN l σ h2 h F 0 0 (by omega) (by rw [List.length_take]; omega)
  exact this
theorem rev_fade {Q : Nat → Nat} {u : Nat} {l : Ly} : fadeL Q (revU u l) = revU u (fadeL Q l) := by
  unfold revU
  by_cases e : u = 1
  · rw [if_pos e, if_pos e]; unfold fadeL; rw [List.filterMap_reverse]
  · rw [if_neg e, if_neg e]
theorem rev_air {u : Nat} {l : Ly} : airR u (revU u l) = revU u l.tail := by
  unfold airR revU
  by_cases e : u = 1
  · simp only [e, ↓reduceIte]; rw [List.dropLast_reverse]
  · simp only [e, ↓reduceIte]
theorem rev_come {u K m g : Nat} {l : Ly} : comeR K m g (revU u l) = revU u (comeL u K m g l) := by
  unfold comeR revU comeL
  by_cases e : u = 1
  · simp only [e, ↓reduceIte]
    have eo : outL m l.reverse = (outL m l).reverse := by unfold outL; rw [List.filter_reverse]
    have e2 : (m, g) :: outL m l.reverse = (outL m l ++ [(m, g)]).reverse := by rw [eo, List.reverse_append]; rfl
    rw [e2, List.length_reverse]
    by_cases q : (outL m l ++ [(m, g)]).length ≤ K
    · rw [if_pos q, if_pos q]
    · rw [if_neg q, if_neg q, List.dropLast_reverse]
  · simp only [e, ↓reduceIte]
theorem OkL_rev {H : Hs} {t u : Nat} {l : Ly} (hB : HB H) (h : OkL H t l) : LB (hQ H) (revU u l) ∧ (revU u l).length ≤ hK H t ∧ ((revU u l).map Prod.fst).Nodup := by
  have hb2 := hB.2.1
  have lb : ∀ x, x ∈ l → x.1 < 9 ∧ x.2 ≤ 9 ∧ hQ H x.1 ≤ 9 := fun x hx => by
    obtain ⟨a, b⟩ := h.2.1 x hx
    exact ⟨by omega, b, (hB.2.2.2 x.1 a).2.1⟩
  unfold revU
  by_cases e : u = 1
  · rw [if_pos e]
    refine ⟨fun x hx => lb x (List.mem_reverse.mp hx), by rw [List.length_reverse]; exact h.1, ?_⟩
    rw [List.map_reverse]
    exact List.pairwise_reverse.mpr (List.Pairwise.imp (fun h => h.symm) h.2.2)
  · rw [if_neg e]; exact ⟨lb, h.1, h.2.2⟩
