theorem firstF_cg {f g : Nat → Bool} : ∀ (d a : Nat), (∀ j, a ≤ j → j < a + d → f j = g j) → firstF f a d = firstF g a d
  | 0, _, _ => rfl
  | d + 1, a, h => by
    show (if f a then some a else firstF f (a + 1) d) = (if g a then some a else firstF g (a + 1) d)
    rw [h a (by omega) (by omega), firstF_cg d (a + 1) (fun j h1 h2 => h j (by omega) (by omega))]
theorem firstF_no {f : Nat → Bool} : ∀ (d a : Nat), (∀ j, a ≤ j → j < a + d → f j = false) → firstF f a d = none
  | 0, _, _ => rfl
  | d + 1, a, h => by
    show (if f a then some a else firstF f (a + 1) d) = none
    rw [h a (by omega) (by omega), firstF_no d (a + 1) (fun j h1 h2 => h j (by omega) (by omega))]; rfl
abbrev f2I (H : Hs) (D : Dy) (x hr : Nat) (lk wt ex : Int32) (t : Nat) : Nat → Bool := fun q => mpX H ex q && decide (okD H (Dadd D x t q) hr lk wt t)
theorem c_seat48 (F t p x hr : Nat) (lk wt ex : Int32) (H : Hs) (D : Dy) (c2 : Int32 → Int32 → Int32 → xSt → Option (Int32 × xSt)) (hF : 100 ≤ F) (hB : HB H) (ht : t < hT H) (hx : x < 24) (hr1 : hr < 24) (h7 : ∀ x, D 7 x = 0) (hn : D 0 0 < 44) : ∀ (d fu a : Nat) (σ : xSt), a + d = hP H → d + 1 < fu → CH σ H → CD σ D → Pl σ x hr lk wt →
    ∃ σ', mX4_seatTwo_L48 F c2 fu (nI t) ex (nI p) (-1) (nI a) σ = mX4_seatTwo_L95 F c2 (nI t) ex (nI p) (optI (firstF (f2I H D x hr lk wt ex t) a d)) σ' ∧ CD σ' D ∧ xFr [1, 2, 14] [2, 3, 4, 15, 18, 21, 24] σ σ' := by
  have hb1 := hB.1
  have hb2 := hB.2.1
  intro d
  induction d with
  | zero =>
    intro fu a σ e h hC hD hp
    obtain ⟨fu, rfl⟩ : ∃ f, fu = f + 1 := ⟨fu - 1, by omega⟩
    show ∃ σ', mX4_seatTwo_S48 F c2 (mX4_seatTwo_L48 F c2 fu) (nI t) ex (nI p) (-1) (nI a) σ = _ ∧ _
    unfold mX4_seatTwo_S48
    rw [show xI σ (12 + 1) = nI (hP H) from hC.2.2.1, if_pos (nI_le (by omega) (by omega))]
    exact ⟨σ, rfl, hD, xFr_rf⟩
  | succ d ih =>
    intro fu a σ e h hC hD hp
    obtain ⟨fu, rfl⟩ : ∃ f, fu = f + 2 := ⟨fu - 2, by omega⟩
    show ∃ σ', mX4_seatTwo_S48 F c2 (mX4_seatTwo_L48 F c2 (fu + 1)) (nI t) ex (nI p) (-1) (nI a) σ = _ ∧ _
    unfold mX4_seatTwo_S48 mX4_seatTwo_L89
    rw [show xI σ (12 + 1) = nI (hP H) from hC.2.2.1, if_neg (nI_ge (by omega) (by omega)), if_pos rfl, nI_1]
    have ef : firstF (f2I H D x hr lk wt ex t) a (d + 1) = if f2I H D x hr lk wt ex t a then some a else firstF (f2I H D x hr lk wt ex t) (a + 1) d := rfl
    have em : mpX H ex a = !decide (nI a = ex) := by unfold mpX; rw [decide_eq_true (by omega), Bool.true_and]
    by_cases q : nI a = ex
    · rw [if_pos q, ef, if_neg (by show ¬ (mpX H ex a && _) = true; rw [em, decide_eq_true q]; simp)]
      exact ih (fu + 1) (a + 1) σ (by omega) (by omega) hC hD hp
    · obtain ⟨σ1, a1, a2, a3⟩ := c_plWith F t a x hr lk wt H D hF hB ht hx hr1 (by omega) h7 hn σ hC hD hp
      have hC1 : CH σ1 H := CH_p hC (xFr_mono a3 (by simp) (by simp))
      rw [if_neg q, a1, xb2_s]
      have ev : f2I H D x hr lk wt ex t a = decide (okD H (Dadd D x t a) hr lk wt t) := by
        show (mpX H ex a && _) = _
        rw [em, decide_eq_false q]; rfl
      by_cases q2 : okD H (Dadd D x t a) hr lk wt t
      · rw [bI_t q2, if_neg (by decide), ef, if_pos (by rw [ev]; exact decide_eq_true q2)]
        refine ⟨σ1, ?_, a2, a3⟩
        show mX4_seatTwo_S48 F c2 (mX4_seatTwo_L48 F c2 fu) (nI t) ex (nI p) (nI a) (nI (a + 1)) σ1 = mX4_seatTwo_L95 F c2 (nI t) ex (nI p) (nI a) σ1
        unfold mX4_seatTwo_S48
        by_cases w : xI σ1 (12 + 1) ≤ nI (a + 1)
        · rw [if_pos w]
        · rw [if_neg w, if_neg (nI_m1 (by omega))]
      · rw [bI_f q2, if_pos rfl, ef, if_neg (by rw [ev]; exact fun w => q2 (of_decide_eq_true w))]
        obtain ⟨σ', z1, z2, z3⟩ := ih (fu + 1) (a + 1) σ1 (by omega) (by omega) hC1 a2 (Pl_fr hp a3 (by decide) (by decide) (by decide) (by decide))
        exact ⟨σ', z1, z2, xFr_tr a3 z3⟩
abbrev f2X (H : Hs) (D : Dy) (x hr : Nat) (lk wt ex : Int32) (t : Nat) : Nat → Nat → Bool := fun p q => mpX H ex p && (mpX H ex q && gS H D x hr lk wt t [8 * t + p, 8 * t + q])
theorem c_seatTwoL (F t x hr : Nat) (lk wt ex : Int32) (H : Hs) (D : Dy) (hF : 100 ≤ F) (hB : HB H) (ht : t < hT H) (hx : x < 24) (hr1 : hr < 24) (h7 : ∀ x, D 7 x = 0) (hn : D 0 0 < 40) (R : Option (List Nat)) : ∀ (d fu a : Nat) (σ : xSt), a + d = hP H → d < fu → CH σ H → CD σ D → Pl σ x hr lk wt → RowC σ R →
    ∃ σ', mX4_seatTwo_L2 F fu (nI t) ex (nI a) σ = some (bI ((pairF 1 (f2X H D x hr lk wt ex t) a d).isSome = true), σ') ∧ CD σ' D ∧ RowC σ' (match pairF 1 (f2X H D x hr lk wt ex t) a d with | some (p, q) => tkR 2 (8 * t + q) (tkR 2 (8 * t + p) R) | none => R) ∧ xFr [1, 2, 14, 3] [2, 3, 4, 15, 18, 21, 24, 0] σ σ' := by
  have hb1 := hB.1
  have hb2 := hB.2.1
  intro d
  induction d with
  | zero =>
    intro fu a σ e h hC hD hp hr'
    obtain ⟨fu, rfl⟩ : ∃ f, fu = f + 1 := ⟨fu - 1, by omega⟩
    show ∃ σ', mX4_seatTwo_S2 F (mX4_seatTwo_L2 F fu) (nI t) ex (nI a) σ = _ ∧ _
    unfold mX4_seatTwo_S2 mX4_seatTwo_L142
    rw [show xI σ (12 + 1) = nI (hP H) from hC.2.2.1, if_pos (nI_le (by omega) (by omega))]
    exact ⟨σ, rfl, hD, hr', xFr_rf⟩
  | succ d ih =>
    intro fu a σ e h hC hD hp hr'
    obtain ⟨fu, rfl⟩ : ∃ f, fu = f + 1 := ⟨fu - 1, by omega⟩
    show ∃ σ', mX4_seatTwo_S2 F (mX4_seatTwo_L2 F fu) (nI t) ex (nI a) σ = _ ∧ _
    unfold mX4_seatTwo_S2 mX4_seatTwo_L136
    rw [show xI σ (12 + 1) = nI (hP H) from hC.2.2.1, if_neg (nI_ge (by omega) (by omega)), nI_1]
    have ef : pairF 1 (f2X H D x hr lk wt ex t) a (d + 1) = match firstF (f2X H D x hr lk wt ex t a) (a + 1) d with | some e => some (a, e) | none => pairF 1 (f2X H D x hr lk wt ex t) (a + 1) d := rfl
    have em : mpX H ex a = !decide (nI a = ex) := by unfold mpX; rw [decide_eq_true (by omega), Bool.true_and]
    by_cases q : nI a = ex
    · have e0 : firstF (f2X H D x hr lk wt ex t a) (a + 1) d = none := firstF_no d (a + 1) (fun j _ _ => by
        show (mpX H ex a && _) = false
        rw [em, decide_eq_true q]; rfl)
      rw [if_pos q, ef, e0]
      exact ih fu (a + 1) σ (by omega) (by omega) hC hD hp hr'
    · have e0 : firstF (f2X H D x hr lk wt ex t a) (a + 1) d = firstF (f2I H (Dadd D x t a) x hr lk wt ex t) (a + 1) d := firstF_cg d (a + 1) (fun j h1 h2 => by
        show (mpX H ex a && (mpX H ex j && gS H D x hr lk wt t [8 * t + a, 8 * t + j])) = (mpX H ex j && decide (okD H (Dadd (Dadd D x t a) x t j) hr lk wt t))
        rw [em, decide_eq_false q]
        unfold gS
        rw [SL_2 D x t a j (by omega) (by omega)]; rfl)
      obtain ⟨σ1, a1, a2, a3⟩ := c_addD F x t a D σ hF hx (by omega) (by omega) (by omega) hD
      have hn1 : (Dadd D x t a) 0 0 < 44 := by show D 0 0 + 1 < 44; omega
      obtain ⟨σ2, b1, b2, b3⟩ := c_seat48 F t a x hr lk wt ex H (Dadd D x t a) (mX4_seatTwo_L2 F fu) hF hB ht hx hr1 h7 hn1 d F (a + 1) σ1 (by omega) (by omega) (CH_w hC a3) a2 (Pl_fr hp a3 (by decide) (by decide) (by decide) (by decide))
      obtain ⟨σ3, c1, c2, c3⟩ := c_dropD F (D 0 0) (Dadd D x t a) σ2 hF rfl b2
      have hD3 : CD σ3 D := CD_back hD.2.2.1 c2
      have fr : xFr [1, 2, 14] [2, 3, 4, 15, 18, 21, 24] σ σ3 := xFr_tr (xFr_tr (xFr_mono a3 (by simp) (by simp)) b3) (xFr_mono c3 (by simp) (by simp))
      have fr' : xFr [1, 2, 14, 3] [2, 3, 4, 15, 18, 21, 24, 0] σ σ3 := xFr_mono fr (by simp) (by simp)
      have hr3 : RowC σ3 R := RowC_fr hr' (fr.1 3 (by decide)) (fr.2 0 (by decide))
      rw [if_neg q, hp.1, a1, xb1_s, b1, ef, e0]
      unfold mX4_seatTwo_L95
      rw [c1, xb1_s]
      cases q2 : firstF (f2I H (Dadd D x t a) x hr lk wt ex t) (a + 1) d with
      | none =>
        unfold mX4_seatTwo_L136
        rw [show optI none = -1 from rfl, if_pos rfl, nI_1]
        obtain ⟨σ', z1, z2, z3, z4⟩ := ih fu (a + 1) σ3 (by omega) (by omega) (CH_p hC fr') hD3 (Pl_fr hp fr (by decide) (by decide) (by decide) (by decide)) hr3
        exact ⟨σ', z1, z2, z3, xFr_tr fr' z4⟩
      | some r =>
        have hr8 := (firstF_some q2).2.1
        unfold mX4_seatTwo_L111
        rw [show optI (some r) = nI r from rfl, if_neg (nI_m1 (by omega)), e8tp, e8tp]
        obtain ⟨σ4, d1, d2, d3⟩ := c_take F (8 * t + a) 2 (by omega) σ3 R hr3
        rw [show mX4_take F (nI (8 * t + a)) 2 σ3 = _ from d1, xb1_s]
        obtain ⟨σ5, e1, e2, e3⟩ := c_take F (8 * t + r) 2 (by omega) σ4 _ d2
        rw [show mX4_take F (nI (8 * t + r)) 2 σ4 = _ from e1, xb1_s]
        exact ⟨σ5, rfl, CD_l' (CD_l' hD3 d3) e3, e2, xFr_tr fr' (xFr_mono (xFr_tr d3 e3) (by simp) (by simp))⟩
abbrev gX (H : Hs) (D : Dy) (x hr : Nat) (lk wt : Int32) : Nat → List Nat → Bool := fun t L => gS H D x hr lk wt t L
theorem clR_none {S : Nat → Bool} {g : Nat → List Nat → Bool} {mp : Nat → Bool} {P n : Nat} (h : clR S g mp P n = none) : ∀ d, clR S g mp P (n + d) = none
  | 0 => h
  | d + 1 => by
    show stepR S g mp P (clR S g mp P (n + d)) (n + d) = none
    rw [clR_none h d]; rfl
theorem c_seatL (F x hr : Nat) (v lk wt ex : Int32) (H : Hs) (D : Dy) (hF : 100 ≤ F) (hB : HB H) (hx : x < 24) (hr1 : hr < 24) (h7 : ∀ x, D 7 x = 0) (hn : D 0 0 < 40) : ∀ (d fu a : Nat) (σ : xSt), a + d = hT H → d < fu → CH σ H → CD σ D → Pl σ x hr lk wt → RowC σ (clR (fun t => decide (hasB v t)) (gX H D x hr lk wt) (mpX H ex) (hP H) a) →
    ∃ σ', mX4_seat_L2 F fu v ex (nI a) σ = some σ' ∧ CD σ' D ∧ RowC σ' (clR (fun t => decide (hasB v t)) (gX H D x hr lk wt) (mpX H ex) (hP H) (hT H)) ∧ xFr [1, 2, 14, 3] [2, 3, 4, 15, 18, 21, 24, 0] σ σ' := by
  have hb1 := hB.1
  have hb2 := hB.2.1
  intro d
  induction d with
  | zero =>
    intro fu a σ e h hC hD hp hr'
    obtain ⟨fu, rfl⟩ : ∃ f, fu = f + 1 := ⟨fu - 1, by omega⟩
    show ∃ σ', mX4_seat_S2 F (mX4_seat_L2 F fu) v ex (nI a) σ = _ ∧ _
    unfold mX4_seat_S2 mX4_seat_L69
    rw [show xI σ (12 + 0) = nI (hT H) from hC.1, if_pos (nI_le (by omega) (by omega))]
    exact ⟨σ, rfl, hD, by rw [show hT H = a by omega]; exact hr', xFr_rf⟩
  | succ d ih =>
    intro fu a σ e h hC hD hp hr'
    obtain ⟨fu, rfl⟩ : ∃ f, fu = f + 1 := ⟨fu - 1, by omega⟩
    show ∃ σ', mX4_seat_S2 F (mX4_seat_L2 F fu) v ex (nI a) σ = _ ∧ _
    unfold mX4_seat_S2 mX4_seat_L63 mX4_seat_L69
    rw [show xI σ (12 + 0) = nI (hT H) from hC.1, if_neg (nI_ge (by omega) (by omega)), nI_1]
    have es : clR (fun t => decide (hasB v t)) (gX H D x hr lk wt) (mpX H ex) (hP H) (a + 1) = stepR (fun t => decide (hasB v t)) (gX H D x hr lk wt) (mpX H ex) (hP H) (clR (fun t => decide (hasB v t)) (gX H D x hr lk wt) (mpX H ex) (hP H) a) a := rfl
    cases hR' : clR (fun t => decide (hasB v t)) (gX H D x hr lk wt) (mpX H ex) (hP H) a with
    | none =>
      rw [hR'] at hr'
      rw [show xI σ 3 = -1 from hr', if_pos rfl]
      refine ⟨σ, rfl, hD, ?_, xFr_rf⟩
      rw [show hT H = a + (d + 1) by omega, clR_none hR' (d + 1)]; exact hr'
    | some L =>
      rw [hR'] at hr' es
      obtain ⟨r1, r2, r3⟩ := hr'
      rw [r2, if_neg (nI_m1 (by omega)), c_hold, xb2_s]
      have next : ∀ σ1, xFr [1, 2, 14, 3] [2, 3, 4, 15, 18, 21, 24, 0] σ σ1 → CD σ1 D → RowC σ1 (clR (fun t => decide (hasB v t)) (gX H D x hr lk wt) (mpX H ex) (hP H) (a + 1)) → ∃ σ', mX4_seat_L2 F fu v ex (nI (a + 1)) σ1 = some σ' ∧ CD σ' D ∧ RowC σ' (clR (fun t => decide (hasB v t)) (gX H D x hr lk wt) (mpX H ex) (hP H) (hT H)) ∧ xFr [1, 2, 14, 3] [2, 3, 4, 15, 18, 21, 24, 0] σ σ' := fun σ1 f1 hD1 hr1' => by
        obtain ⟨σ', z1, z2, z3, z4⟩ := ih fu (a + 1) σ1 (by omega) (by omega) (CH_p hC f1) hD1 (Pl_fr hp f1 (by decide) (by decide) (by decide) (by decide)) hr1'
        exact ⟨σ', z1, z2, z3, xFr_tr f1 z4⟩
      by_cases q : hasB v a
      · rw [bI_t q, if_neg (by decide)]
        obtain ⟨σ1, a1, a2⟩ := c_plOut F a x hr lk wt H D hF hB (by omega) hr1 h7 σ hC hD hp
        have a2' : xFr [1, 2, 14, 3] [2, 3, 4, 15, 18, 21, 24, 0] σ σ1 := xFr_mono a2 (by simp) (by simp)
        have hR1 : RowC σ1 (some L) := RowC_fr (R := some L) ⟨r1, r2, r3⟩ (a2.1 3 (by decide)) (a2.2 0 (by decide))
        rw [a1, xb2_s]
        have es1 : clR (fun t => decide (hasB v t)) (gX H D x hr lk wt) (mpX H ex) (hP H) (a + 1) = if gX H D x hr lk wt a [] = true then some L else needR (gX H D x hr lk wt) (mpX H ex) (hP H) a L := by
          rw [es]
          show (if decide (hasB v a) = true then _ else _) = _
          rw [if_pos (decide_eq_true q)]
        have eg : gX H D x hr lk wt a [] = decide (okD H D hr lk wt a) := rfl
        by_cases q2 : okD H D hr lk wt a
        · rw [bI_t q2, if_neg (by decide)]
          refine next σ1 a2' (CD_l hD a2) ?_
          rw [es1, if_pos (by rw [eg]; exact decide_eq_true q2)]; exact hR1
        · rw [bI_f q2, if_pos rfl]
          rw [if_neg (by rw [eg]; exact fun w => q2 (of_decide_eq_true w))] at es1
          obtain ⟨σ2, b1, b2, b3, b4⟩ := c_seatOneL F a x hr lk wt ex H D hF hB (by omega) hx hr1 h7 (by omega) (some L) (hP H) F 0 σ1 (by omega) (by omega) (CH_p hC a2') (CD_l hD a2) (Pl_fr hp a2 (by decide) (by decide) (by decide) (by decide)) hR1
          unfold mX4_seatOne
          rw [show mX4_seatOne_L2 F F (nI a) ex 0 σ1 = _ from b1, xb2_s]
          have f2 := xFr_tr a2' b4
          unfold needR at es1
          cases q3 : firstF (f1X H D x hr lk wt ex a) 0 (hP H) with
          | some p =>
            rw [q3] at b3
            rw [show firstF (fun p => mpX H ex p && gX H D x hr lk wt a [8 * a + p]) 0 (hP H) = some p from q3] at es1
            rw [show bI ((some p).isSome = true) = 1 from rfl, if_neg (by decide)]
            exact next σ2 f2 b2 (by rw [es1]; exact b3)
          | none =>
            rw [q3] at b3
            rw [show firstF (fun p => mpX H ex p && gX H D x hr lk wt a [8 * a + p]) 0 (hP H) = none from q3] at es1
            rw [show bI ((none : Option Nat).isSome = true) = 0 from rfl, if_pos rfl]
            obtain ⟨σ3, c1, c2, c3, c4⟩ := c_seatTwoL F a x hr lk wt ex H D hF hB (by omega) hx hr1 h7 hn (some L) (hP H) F 0 σ2 (by omega) (by omega) (CH_p hC f2) b2 (Pl_fr hp f2 (by decide) (by decide) (by decide) (by decide)) b3
            unfold mX4_seatTwo
            rw [show mX4_seatTwo_L2 F F (nI a) ex 0 σ2 = _ from c1, xb2_s]
            have f3 := xFr_tr f2 c4
            cases q4 : pairF 1 (f2X H D x hr lk wt ex a) 0 (hP H) with
            | some pq =>
              obtain ⟨p, r⟩ := pq
              rw [q4] at c3
              rw [show pairF 1 (fun p q => mpX H ex p && (mpX H ex q && gX H D x hr lk wt a [8 * a + p, 8 * a + q])) 0 (hP H) = some (p, r) from q4] at es1
              rw [show bI ((some (p, r)).isSome = true) = 1 from rfl, if_neg (by decide)]
              exact next σ3 f3 c2 (by rw [es1]; exact c3)
            | none =>
              rw [show pairF 1 (fun p q => mpX H ex p && (mpX H ex q && gX H D x hr lk wt a [8 * a + p, 8 * a + q])) 0 (hP H) = none from q4] at es1
              rw [show bI ((none : Option (Nat × Nat)).isSome = true) = 0 from rfl, if_pos rfl]
              have f4 : xFr [3] [0] σ3 (xsI σ3 3 (-1)) := xFr_sI (by decide)
              exact next (xsI σ3 3 (-1)) (xFr_tr f3 (xFr_mono f4 (by simp) (by simp))) (CD_l' c2 f4) (by rw [es1]; show xI (xsI σ3 3 (-1)) 3 = -1; rw [xI_sI, if_pos rfl])
      · rw [bI_f q, if_pos rfl]
        refine next σ xFr_rf hD ?_
        rw [es]
        show RowC σ (if decide (hasB v a) = true then _ else some L)
        rw [if_neg (fun w => q (of_decide_eq_true w))]
        exact ⟨r1, r2, r3⟩
theorem c_seat (F x hr : Nat) (v lk wt ex : Int32) (H : Hs) (D : Dy) (hF : 100 ≤ F) (hB : HB H) (hx : x < 24) (hr1 : hr < 24) (h7 : ∀ x, D 7 x = 0) (hn : D 0 0 < 40) (σ : xSt) (hC : CH σ H) (hD : CD σ D) :
    ∃ σ', xb1 (mX4_aim F (nI x) (nI hr) lk wt σ) (fun σ1 => mX4_seat F v ex σ1) = some σ' ∧ CD σ' D ∧ RowC σ' (clR (fun t => decide (hasB v t)) (gX H D x hr lk wt) (mpX H ex) (hP H) (hT H)) ∧ xFr [1, 2, 14, 3, 4, 5, 6, 7] [2, 3, 4, 15, 18, 21, 24, 0] σ σ' := by
  have hb1 := hB.1
  unfold mX4_aim mX4_seat
  rw [xb1_s]
  have f0 : xFr [3, 4, 5, 6, 7] [] σ (xsI (xsI (xsI (xsI (xsI σ 4 (nI x)) 5 (nI hr)) 6 lk) 7 wt) 3 0) := xFr_tr (xFr_tr (xFr_tr (xFr_tr (xFr_sI (by decide)) (xFr_sI (by decide))) (xFr_sI (by decide))) (xFr_sI (by decide))) (xFr_sI (by decide))
  generalize hs : xsI (xsI (xsI (xsI (xsI σ 4 (nI x)) 5 (nI hr)) 6 lk) 7 wt) 3 0 = σ1 at f0
  have hp : Pl σ1 x hr lk wt := by
    rw [← hs]; exact ⟨rfl, rfl, rfl, rfl⟩
  have h3 : xI σ1 3 = 0 := by rw [← hs]; rfl
  have hC1 : CH σ1 H := CH_fr hC (f0.1 _ (by decide)) (f0.1 _ (by decide)) (fun a h1 h2 => f0.2 a (by simp))
  have hD1 : CD σ1 D := by
    obtain ⟨a, b, c, d, ⟨o, e⟩, g⟩ := hD
    exact ⟨a, CTold_fr b (f0.1 _ (by decide)) (f0.2 _ (by simp)) (f0.2 _ (by simp)) (f0.2 _ (by simp)) (f0.2 _ (by simp)), c, d, ⟨o, CTold_fr e (f0.1 _ (by decide)) (f0.2 _ (by simp)) (f0.2 _ (by simp)) (f0.2 _ (by simp)) (f0.2 _ (by simp))⟩, g⟩
  obtain ⟨σ', z1, z2, z3, z4⟩ := c_seatL F x hr v lk wt ex H D hF hB hx hr1 h7 hn (hT H) F 0 σ1 (by omega) (by omega) hC1 hD1 hp ⟨by simp, h3, fun i e he => by simp at he⟩
  exact ⟨σ', z1, z2, z3, xFr_tr (xFr_mono f0 (by simp) (by simp)) (xFr_mono z4 (by simp) (by simp))⟩
def ansR (R : Option (List Nat)) (v : Int32) : Int32 := match R with
  | none => -1
  | some L => if v = -1 then nI L.length else match L[v.toNatClampNeg]? with
    | some e => nI e
    | none => -1
theorem c_answer (F : Nat) (v : Int32) (σ : xSt) (R : Option (List Nat)) (h : RowC σ R) (hv : v = -1 ∨ ∃ j, j < 3 ∧ v = nI j) : mX4_answer F v σ = some (ansR R v, σ) := by
  unfold mX4_answer mX4_answer_L13 mX4_answer_L48 mX4_answer_L49
  cases R with
  | none => rw [if_pos (show xI σ 3 = -1 from h), show xI σ 3 = -1 from h]; rfl
  | some L =>
    obtain ⟨a, b, c⟩ := h
    rw [b, if_neg (nI_m1 (by omega))]
    rcases hv with rfl | ⟨j, hj, rfl⟩
    · rw [if_pos rfl]; rfl
    · rw [if_neg (nI_m1 (by omega)), if_neg (nI_pos (by omega))]
      show _ = some (if nI j = -1 then _ else match L[(nI j).toNatClampNeg]? with | some e => nI e | none => -1, σ)
      rw [if_neg (nI_m1 (by omega)), nI_clamp (by omega)]
      by_cases q : L.length ≤ j
      · rw [if_pos (nI_le q (by omega)), List.getElem?_eq_none q]
      · have hj2 : j < L.length := by omega
        have hg := List.getElem?_eq_getElem hj2
        rw [if_neg (nI_ge hj2 (by omega)), if_neg (nI_ge hj (by omega)), xck_in hj (by omega), c j _ hg, hg]
