/-! ===== the class's plan ===== -/
def RowC (σ : xSt) : Option (List Nat) → Prop
  | none => xI σ 3 = -1
  | some L => L.length ≤ 3 ∧ xI σ 3 = nI L.length ∧ ∀ i e, L[i]? = some e → xA σ 0 i = nI e
theorem RowC_fr {σ σ' : xSt} {R : Option (List Nat)} (h : RowC σ R) (h1 : xI σ' 3 = xI σ 3) (h2 : xA σ' 0 = xA σ 0) : RowC σ' R := by
  cases R with
  | none => exact h1.trans h
  | some L =>
    obtain ⟨a, b, c⟩ := h
    exact ⟨a, h1.trans b, fun i e he => by rw [h2]; exact c i e he⟩
theorem c_take (F c most : Nat) (hm : most ≤ 3) (σ : xSt) (R : Option (List Nat)) (h : RowC σ R) : ∃ σ', mX4_take F (nI c) (nI most) σ = some σ' ∧ RowC σ' (tkR most c R) ∧ xFr [3] [0] σ σ' := by
  unfold mX4_take mX4_take_L28 mX4_take_L56
  cases R with
  | none =>
    rw [if_pos (show xI σ 3 = -1 from h)]
    exact ⟨_, rfl, by show xI (xsI σ 3 (-1)) 3 = -1; rw [xI_sI, if_pos rfl], xFr_sI (by decide)⟩
  | some L =>
    obtain ⟨a, b, g⟩ := h
    rw [b, if_neg (nI_m1 (by omega))]
    unfold tkR
    by_cases q : most ≤ L.length
    · simp only [if_pos q]
      rw [if_pos (nI_le q (by omega))]
      exact ⟨_, rfl, by show xI (xsI σ 3 (-1)) 3 = -1; rw [xI_sI, if_pos rfl], xFr_sI (by decide)⟩
    · simp only [if_neg q]
      rw [if_neg (nI_ge (by omega) (by omega)), if_pos (nI_lt (by omega) (by omega)), xck_in (show L.length < 3 by omega) (by omega), nI_clamp (by omega), xI_sA, b, nI_1]
      refine ⟨_, rfl, ⟨by rw [List.length_append]; show L.length + 1 ≤ 3; omega, by rw [xI_sI, if_pos rfl, List.length_append]; rfl, fun i e he => ?_⟩, xFr_tr (xFr_sA (by decide)) (xFr_sI (by decide))⟩
      rw [xA_sI, xA_s1, upd_e]
      by_cases w : i = L.length
      · subst w
        rw [if_pos rfl]
        rw [List.getElem?_append_right (Nat.le_refl _)] at he
        simp at he
        rw [he]
      · rw [if_neg w]
        have hi : i < L.length := by
          have h9 := (List.getElem?_eq_some_iff.mp he).1
          rw [List.length_append] at h9
          have h10 : i < L.length + 1 := h9
          omega
        rw [List.getElem?_append_left hi] at he
        exact g i e he
def Pl (σ : xSt) (x hr : Nat) (lk wt : Int32) : Prop := xI σ 4 = nI x ∧ xI σ 5 = nI hr ∧ xI σ 6 = lk ∧ xI σ 7 = wt
theorem Pl_fr {σ σ' : xSt} {x hr : Nat} {lk wt : Int32} {I A : List Nat} (h : Pl σ x hr lk wt) (f : xFr I A σ σ') (h4 : 4 ∉ I) (h5 : 5 ∉ I) (h6 : 6 ∉ I) (h7 : 7 ∉ I) : Pl σ' x hr lk wt := by
  unfold Pl
  rw [f.1 4 h4, f.1 5 h5, f.1 6 h6, f.1 7 h7]; exact h
abbrev okD (H : Hs) (D : Dy) (hr : Nat) (lk wt : Int32) (t : Nat) : Prop := (toldL (hN H t) (dayL H D t (hr + 1)) &&& lk) = wt
theorem c_plOut (F t x hr : Nat) (lk wt : Int32) (H : Hs) (D : Dy) (hF : 100 ≤ F) (hB : HB H) (ht : t < hT H) (hr1 : hr < 24) (h7 : ∀ x, D 7 x = 0) (σ : xSt) (hC : CH σ H) (hD : CD σ D) (hp : Pl σ x hr lk wt) : ∃ σ', mX4_comesOut F (nI t) σ = some (bI (okD H D hr lk wt t), σ') ∧ xFr [1, 2] [2, 3, 4] σ σ' := by
  have hb1 := hB.1
  obtain ⟨σ', a, b⟩ := c_tellsAny F t hr H D hF hB (by omega) hr1 h7 σ hC hD
  obtain ⟨p1, p2, p3, p4⟩ := hp
  refine ⟨σ', ?_, b⟩
  unfold mX4_comesOut mX4_comesOut_L30
  rw [p2, a, xb2_s, b.1 6 (by decide), b.1 7 (by decide), p3, p4, if_pos ht]
  by_cases q : okD H D hr lk wt t
  · rw [if_pos q, bI_t q]; rfl
  · rw [if_neg q, bI_f q]; rfl
theorem CD_back {σ : xSt} {D : Dy} {x t p : Nat} (hD : ∀ i, i < D 0 0 → D 2 i < 1000 ∧ D 3 i < 1000) (h : CD σ (setN (Dadd D x t p) (D 0 0))) : CD σ D := by
  obtain ⟨x1, x2, x3, x4, x5, x6⟩ := h
  refine ⟨x1, CTold_cg (fun i hi => ?_) x2, hD, x4, x5, x6⟩
  have hi' : i < D 0 0 := hi
  exact ⟨ins_o (by omega), ins_o (by omega), ins_o (by omega)⟩
theorem CH_p {σ σ' : xSt} {H : Hs} (h : CH σ H) (f : xFr [1, 2, 14, 3] [2, 3, 4, 15, 18, 21, 24, 0] σ σ') : CH σ' H := CH_fr h (f.1 _ (by decide)) (f.1 _ (by decide)) (fun a h1 h2 => f.2 a (by simp <;> omega))
theorem c_plWith (F t p x hr : Nat) (lk wt : Int32) (H : Hs) (D : Dy) (hF : 100 ≤ F) (hB : HB H) (ht : t < hT H) (hx : x < 24) (hr1 : hr < 24) (hpp : p < 8) (h7 : ∀ x, D 7 x = 0) (hn : D 0 0 < 44) (σ : xSt) (hC : CH σ H) (hD : CD σ D) (hp : Pl σ x hr lk wt) : ∃ σ', mX4_comesOutWith F (nI t) (nI p) σ = some (bI (okD H (Dadd D x t p) hr lk wt t), σ') ∧ CD σ' D ∧ xFr [1, 2, 14] [2, 3, 4, 15, 18, 21, 24] σ σ' := by
  have hb1 := hB.1
  obtain ⟨σ1, a1, a2, a3⟩ := c_addD F x t p D σ hF hx (by omega) (by omega) hn hD
  obtain ⟨p1, p2, p3, p4⟩ := hp
  obtain ⟨σ2, b1, b2⟩ := c_tellsAny F t hr H (Dadd D x t p) hF hB (by omega) hr1 h7 σ1 (CH_w hC a3) a2
  obtain ⟨σ3, c1, c2, c3⟩ := c_dropD F (D 0 0) (Dadd D x t p) σ2 hF rfl (CD_l a2 b2)
  have fr : xFr [1, 2, 14] [2, 3, 4, 15, 18, 21, 24] σ σ3 := xFr_tr (xFr_tr (xFr_mono a3 (by simp) (by simp)) (xFr_mono b2 (by simp) (by simp))) (xFr_mono c3 (by simp) (by simp))
  refine ⟨σ3, ?_, CD_back hD.2.2.1 c2, fr⟩
  unfold mX4_comesOutWith mX4_comesOutWith_L58
  rw [p1, a1, xb1_s, a3.1 5 (by decide), p2, b1, xb2_s, c1, xb1_s, fr.1 6 (by decide), fr.1 7 (by decide), p3, p4, if_pos ht]
  by_cases q : okD H (Dadd D x t p) hr lk wt t
  · rw [if_pos q, bI_t q]; rfl
  · rw [if_neg q, bI_f q]; rfl
theorem CD_l' {σ σ' : xSt} {D : Dy} (h : CD σ D) (f : xFr [3] [0] σ σ') : CD σ' D := by
  obtain ⟨a, b, c, d, ⟨o, e⟩, g⟩ := h
  exact ⟨a, CTold_fr b (f.1 _ (by decide)) (f.2 _ (by decide)) (f.2 _ (by decide)) (f.2 _ (by decide)) (f.2 _ (by decide)), c, d, ⟨o, CTold_fr e (f.1 _ (by decide)) (f.2 _ (by decide)) (f.2 _ (by decide)) (f.2 _ (by decide)) (f.2 _ (by decide))⟩, g⟩
def mpX (H : Hs) (ex : Int32) (p : Nat) : Bool := decide (p < hP H) && !decide (nI p = ex)
theorem SL_1 (D : Dy) (x t p : Nat) (hp : p < 8) : SL D x [8 * t + p] = Dadd D x t p := by
  show Dadd D x ((8 * t + p) / 8) ((8 * t + p) % 8) = _
  rw [show (8 * t + p) / 8 = t by omega, show (8 * t + p) % 8 = p by omega]
theorem SL_2 (D : Dy) (x t p q : Nat) (hp : p < 8) (hq : q < 8) : SL D x [8 * t + p, 8 * t + q] = Dadd (Dadd D x t p) x t q := by
  show Dadd (Dadd D x ((8 * t + p) / 8) ((8 * t + p) % 8)) x ((8 * t + q) / 8) ((8 * t + q) % 8) = _
  rw [show (8 * t + p) / 8 = t by omega, show (8 * t + p) % 8 = p by omega, show (8 * t + q) / 8 = t by omega, show (8 * t + q) % 8 = q by omega]
theorem e8tp (t p : Nat) : (8 : Int32) * nI t + nI p = nI (8 * t + p) := by show nI 8 * nI t + nI p = _; rw [pk_mul, nI_add]
abbrev f1X (H : Hs) (D : Dy) (x hr : Nat) (lk wt ex : Int32) (t : Nat) : Nat → Bool := fun p => mpX H ex p && gS H D x hr lk wt t [8 * t + p]
theorem c_seatOneL (F t x hr : Nat) (lk wt ex : Int32) (H : Hs) (D : Dy) (hF : 100 ≤ F) (hB : HB H) (ht : t < hT H) (hx : x < 24) (hr1 : hr < 24) (h7 : ∀ x, D 7 x = 0) (hn : D 0 0 < 44) (R : Option (List Nat)) : ∀ (d fu a : Nat) (σ : xSt), a + d = hP H → d < fu → CH σ H → CD σ D → Pl σ x hr lk wt → RowC σ R →
    ∃ σ', mX4_seatOne_L2 F fu (nI t) ex (nI a) σ = some (bI ((firstF (f1X H D x hr lk wt ex t) a d).isSome = true), σ') ∧ CD σ' D ∧ RowC σ' (match firstF (f1X H D x hr lk wt ex t) a d with | some p => tkR 2 (8 * t + p) R | none => R) ∧ xFr [1, 2, 14, 3] [2, 3, 4, 15, 18, 21, 24, 0] σ σ' := by
  have hb1 := hB.1
  have hb2 := hB.2.1
  intro d
  induction d with
  | zero =>
    intro fu a σ e h hC hD hp hr'
    obtain ⟨fu, rfl⟩ : ∃ f, fu = f + 1 := ⟨fu - 1, by omega⟩
    show ∃ σ', mX4_seatOne_S2 F (mX4_seatOne_L2 F fu) (nI t) ex (nI a) σ = _ ∧ _
    unfold mX4_seatOne_S2 mX4_seatOne_L49
    rw [show xI σ (12 + 1) = nI (hP H) from hC.2.2.1, if_pos (nI_le (by omega) (by omega))]
    exact ⟨σ, rfl, hD, hr', xFr_rf⟩
  | succ d ih =>
    intro fu a σ e h hC hD hp hr'
    obtain ⟨fu, rfl⟩ : ∃ f, fu = f + 1 := ⟨fu - 1, by omega⟩
    show ∃ σ', mX4_seatOne_S2 F (mX4_seatOne_L2 F fu) (nI t) ex (nI a) σ = _ ∧ _
    unfold mX4_seatOne_S2 mX4_seatOne_L43 mX4_seatOne_L30
    rw [show xI σ (12 + 1) = nI (hP H) from hC.2.2.1, if_neg (nI_ge (by omega) (by omega)), nI_1]
    have ef : firstF (f1X H D x hr lk wt ex t) a (d + 1) = if f1X H D x hr lk wt ex t a then some a else firstF (f1X H D x hr lk wt ex t) (a + 1) d := rfl
    have em : mpX H ex a = !decide (nI a = ex) := by unfold mpX; rw [decide_eq_true (by omega), Bool.true_and]
    by_cases q : nI a = ex
    · rw [if_pos q, ef, if_neg (by show ¬ (mpX H ex a && _) = true; rw [em, decide_eq_true q]; simp)]
      exact ih fu (a + 1) σ (by omega) (by omega) hC hD hp hr'
    · obtain ⟨σ1, a1, a2, a3⟩ := c_plWith F t a x hr lk wt H D hF hB ht hx hr1 (by omega) h7 hn σ hC hD hp
      have a3' : xFr [1, 2, 14, 3] [2, 3, 4, 15, 18, 21, 24, 0] σ σ1 := xFr_mono a3 (by simp) (by simp)
      have hr1' : RowC σ1 R := RowC_fr hr' (a3.1 3 (by decide)) (a3.2 0 (by decide))
      rw [if_neg q, a1, xb2_s]
      have eg : gS H D x hr lk wt t [8 * t + a] = decide (okD H (Dadd D x t a) hr lk wt t) := by
        unfold gS; rw [SL_1 D x t a (by omega)]
      have ev : f1X H D x hr lk wt ex t a = decide (okD H (Dadd D x t a) hr lk wt t) := by
        show (mpX H ex a && gS H D x hr lk wt t [8 * t + a]) = _
        rw [em, decide_eq_false q, eg]; rfl
      by_cases q2 : okD H (Dadd D x t a) hr lk wt t
      · rw [bI_t q2, if_neg (by decide), ef, if_pos (by rw [ev]; exact decide_eq_true q2), e8tp]
        obtain ⟨σ2, b1, b2, b3⟩ := c_take F (8 * t + a) 2 (by omega) σ1 R hr1'
        rw [show mX4_take F (nI (8 * t + a)) 2 σ1 = _ from b1, xb1_s]
        exact ⟨σ2, rfl, CD_l' a2 b3, b2, xFr_tr a3' (xFr_mono b3 (by simp) (by simp))⟩
      · rw [bI_f q2, if_pos rfl, ef, if_neg (by rw [ev]; exact fun w => q2 (of_decide_eq_true w))]
        obtain ⟨σ', z1, z2, z3, z4⟩ := ih fu (a + 1) σ1 (by omega) (by omega) (CH_p hC a3') a2 (Pl_fr hp a3 (by decide) (by decide) (by decide) (by decide)) hr1'
        exact ⟨σ', z1, z2, z3, xFr_tr a3' z4⟩
