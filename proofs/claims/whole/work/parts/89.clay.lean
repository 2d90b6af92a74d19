/-! ===== the layers of the class: from the last that came on ===== -/
def vals (σ : xSt) (Q : Nat → Nat) (j : Nat) (x : Nat × Nat) : Prop := xA σ 2 j = nI x.1 ∧ xA σ 3 j = nI x.2 ∧ xA σ 4 j = nI (Q x.1)
def crep (σ : xSt) (Q : Nat → Nat) (r : Ly) : Prop := r.length ≤ 5 ∧ xI σ 1 = nI r.length ∧ ∀ i x, r[i]? = some x → vals σ Q i x
def LB (Q : Nat → Nat) (l : Ly) : Prop := ∀ x, x ∈ l → x.1 < 9 ∧ x.2 ≤ 9 ∧ Q x.1 ≤ 9
theorem lt_of_get {α : Type} {l : List α} {i : Nat} {x : α} (h : l[i]? = some x) : i < l.length := (List.getElem?_eq_some_iff.mp h).1
theorem c_fadeL (F : Nat) (Q : Nat → Nat) : ∀ (fu : Nat) (rest out : Ly) (i : Nat) (σ : xSt), rest.length < fu → out.length ≤ i → i + rest.length ≤ 5 → LB Q rest → xI σ 1 = nI (i + rest.length) → (∀ j x, out[j]? = some x → vals σ Q j x) → (∀ j x, rest[j]? = some x → vals σ Q (i + j) x) →
    ∃ σ', mX3_fade_L4 F fu (nI out.length) (nI i) σ = some σ' ∧ xFr [1] [2, 3, 4] σ σ' ∧ crep σ' Q (out ++ fadeL Q rest) := by
  intro fu
  induction fu with
  | zero => intro rest out i σ a; omega
  | succ fu ih =>
    intro rest out i σ a b c hx h1 ho hr
    show ∃ σ', mX3_fade_S4 F (mX3_fade_L4 F fu) (nI out.length) (nI i) σ = some σ' ∧ _
    unfold mX3_fade_S4 mX3_fade_L70 mX3_fade_L64
    rw [h1]
    cases rest with
    | nil =>
      rw [if_pos (nI_le (by show i + 0 ≤ _; omega) (by omega))]
      refine ⟨_, rfl, xFr_sI (by decide), ?_⟩
      rw [show fadeL Q [] = [] from rfl, List.append_nil]
      exact ⟨by omega, by rw [xI_sI, if_pos rfl], ho⟩
    | cons x rest =>
      have hlen : (x :: rest).length = rest.length + 1 := rfl
      obtain ⟨v1, v2, v3⟩ := hr 0 x rfl
      rw [Nat.add_zero] at v1 v2 v3
      obtain ⟨x1, x2, x3⟩ := hx x (by simp)
      rw [if_neg (nI_ge (by omega) (by omega))]
      simp only [xin_nI (show i < 5 by omega) (by omega), nI_clamp (show i < 2 ^ 31 by omega), xin_nI (show out.length < 5 by omega) (by omega), nI_clamp (show out.length < 2 ^ 31 by omega), v1, v2, nI_1, xA_s0 (show 4 ≠ 3 by decide), xA_s0 (show 4 ≠ 2 by decide), v3, xb1_s, xb2_s, xck_1, i10, i00, i11, ↓reduceIte]
      by_cases q : Q x.1 < x.2
      · have e1 : nI x.2 - nI (Q x.1) = nI (x.2 - Q x.1) := pk_sub (by omega)
        rw [e1, if_neg (show ¬ (nI (x.2 - Q x.1) ≤ 0) from nI_ge (a := 0) (by omega) (by omega))]
        have ho' : ∀ j y, (out ++ [(x.1, x.2 - Q x.1)])[j]? = some y → vals (xsA (xsA (xsA σ 2 out.length (nI x.1)) 3 out.length (nI (x.2 - Q x.1))) 4 out.length (nI (Q x.1))) Q j y := by
          intro j y hj
          unfold vals
          rw [xA_s0 (show 2 ≠ 4 by decide), xA_s0 (show 2 ≠ 3 by decide), xA_s1, xA_s0 (show 3 ≠ 4 by decide), xA_s1, xA_s0 (show 3 ≠ 2 by decide), xA_s1, xA_s0 (show 4 ≠ 3 by decide), xA_s0 (show 4 ≠ 2 by decide)]
          by_cases e : j < out.length
          · rw [List.getElem?_append_left e] at hj
            rw [upd_0 (by omega), upd_0 (by omega), upd_0 (by omega)]
            exact ho j y hj
          · have hjl := lt_of_get hj
            rw [List.length_append] at hjl
            have e2 : j = out.length := by
              have : ([(x.1, x.2 - Q x.1)] : Ly).length = 1 := rfl
              omega
            subst e2
            rw [List.getElem?_append_right (Nat.le_refl _), Nat.sub_self] at hj
            cases hj
            rw [upd_1, upd_1, upd_1]; exact ⟨rfl, rfl, rfl⟩
        have hr' : ∀ j y, rest[j]? = some y → vals (xsA (xsA (xsA σ 2 out.length (nI x.1)) 3 out.length (nI (x.2 - Q x.1))) 4 out.length (nI (Q x.1))) Q (i + 1 + j) y := by
          intro j y hj
          unfold vals
          rw [xA_s0 (show 2 ≠ 4 by decide), xA_s0 (show 2 ≠ 3 by decide), xA_s1, xA_s0 (show 3 ≠ 4 by decide), xA_s1, xA_s0 (show 3 ≠ 2 by decide), xA_s1, xA_s0 (show 4 ≠ 3 by decide), xA_s0 (show 4 ≠ 2 by decide), upd_0 (by omega), upd_0 (by omega), upd_0 (by omega), show i + 1 + j = i + (j + 1) by omega]
          exact hr (j + 1) y hj
        obtain ⟨σ', w1, w2, w3⟩ := ih rest (out ++ [(x.1, x.2 - Q x.1)]) (i + 1) (xsA (xsA (xsA σ 2 out.length (nI x.1)) 3 out.length (nI (x.2 - Q x.1))) 4 out.length (nI (Q x.1))) (by omega) (by rw [List.length_append]; show out.length + 1 ≤ _; omega) (by omega) (fun y hy => hx y (by simp [hy])) (by show xI σ 1 = _; rw [h1, hlen]; congr 1; omega) ho' hr'
        rw [List.length_append] at w1
        refine ⟨σ', w1, xFr_tr (xFr_tr (xFr_tr (xFr_sA (by decide)) (xFr_sA (by decide))) (xFr_sA (by decide))) w2, ?_⟩
        unfold fadeL at w3 ⊢
        rw [List.filterMap_cons, if_pos q]
        rw [List.append_assoc] at w3
        exact w3
      · have hneg : nI x.2 - nI (Q x.1) ≤ 0 := by
          apply Int32.le_iff_toInt_le.mpr
          rw [pk_sub_toInt (by omega) (by omega)]
          have h0 : (0 : Int32).toInt = 0 := by decide
          omega
        rw [if_pos hneg]
        obtain ⟨σ', w1, w2, w3⟩ := ih rest out (i + 1) σ (by omega) (by omega) (by omega) (fun y hy => hx y (by simp [hy])) (by rw [h1, hlen]; congr 1; omega) ho (fun j y hj => by rw [show i + 1 + j = i + (j + 1) by omega]; exact hr (j + 1) y hj)
        refine ⟨σ', w1, w2, ?_⟩
        unfold fadeL at w3 ⊢
        rw [List.filterMap_cons, if_neg q]
        exact w3
theorem c_fade (F : Nat) (Q : Nat → Nat) (hF : 100 ≤ F) (r : Ly) (σ : xSt) (hx : LB Q r) (h : crep σ Q r) : ∃ σ', mX3_fade F σ = some σ' ∧ xFr [1] [2, 3, 4] σ σ' ∧ crep σ' Q (fadeL Q r) := by
  have h5 := h.1
  exact c_fadeL F Q F r [] 0 σ (by omega) (Nat.le_refl _) (by omega) hx (by rw [Nat.zero_add]; exact h.2.1) (fun j x q => by simp at q) (fun j x q => by rw [Nat.zero_add]; exact h.2.2 j x q)
theorem c_comeS (F : Nat) (m g f : Int32) : ∀ (j fu : Nat) (σ : xSt), j < 5 → j < fu →
    ∃ σ', mX3_come_L87 F fu m g f (nI j) σ = some σ' ∧ xFr [] [2, 3, 4] σ σ' ∧ ∀ i, (xA σ' 2 i = if i = 0 then m else if i ≤ j then xA σ 2 (i - 1) else xA σ 2 i) ∧ (xA σ' 3 i = if i = 0 then g else if i ≤ j then xA σ 3 (i - 1) else xA σ 3 i) ∧ (xA σ' 4 i = if i = 0 then f else if i ≤ j then xA σ 4 (i - 1) else xA σ 4 i) := by
  intro j
  induction j with
  | zero =>
    intro fu σ a b
    obtain ⟨fu, rfl⟩ : ∃ f, fu = f + 1 := ⟨fu - 1, by omega⟩
    show ∃ σ', mX3_come_S87 F (mX3_come_L87 F fu) m g f (nI 0) σ = some σ' ∧ _
    unfold mX3_come_S87 mX3_come_L146
    rw [if_pos (by decide)]
    refine ⟨xsA (xsA (xsA σ 2 0 m) 3 0 g) 4 0 f, rfl, xFr_tr (xFr_tr (xFr_sA (by decide)) (xFr_sA (by decide))) (xFr_sA (by decide)), fun i => ?_⟩
    rw [xA_s0 (show 2 ≠ 4 by decide), xA_s0 (show 2 ≠ 3 by decide), xA_s1, xA_s0 (show 3 ≠ 4 by decide), xA_s1, xA_s0 (show 3 ≠ 2 by decide), xA_s1, xA_s0 (show 4 ≠ 3 by decide), xA_s0 (show 4 ≠ 2 by decide), upd_e, upd_e, upd_e]
    by_cases e : i = 0
    · simp only [e, ↓reduceIte, and_self]
    · simp only [e, show ¬ (i ≤ 0) by omega, ↓reduceIte, and_self]
  | succ j ih =>
    intro fu σ a b
    obtain ⟨fu, rfl⟩ : ∃ f, fu = f + 1 := ⟨fu - 1, by omega⟩
    show ∃ σ', mX3_come_S87 F (mX3_come_L87 F fu) m g f (nI (j + 1)) σ = some σ' ∧ _
    unfold mX3_come_S87
    simp only [eq_false (show ¬ (nI (j + 1) ≤ 0) from nI_ge (a := 0) (by omega) (by omega)), nI_pred, pk_m1, xin_nI (show j < 5 by omega) (by omega), xin_nI (show j + 1 < 5 by omega) (by omega), nI_clamp (show j < 2 ^ 31 by omega), nI_clamp (show j + 1 < 2 ^ 31 by omega), xA_s0 (show 3 ≠ 2 by decide), xA_s0 (show 4 ≠ 3 by decide), xA_s0 (show 4 ≠ 2 by decide), xb1_s, xb2_s, xck_1, i10, i00, i11, ↓reduceIte]
    obtain ⟨σ', w1, w2, w3⟩ := ih fu (xsA (xsA (xsA σ 2 (j + 1) (xA σ 2 j)) 3 (j + 1) (xA σ 3 j)) 4 (j + 1) (xA σ 4 j)) (by omega) (by omega)
    refine ⟨σ', w1, xFr_tr (xFr_tr (xFr_tr (xFr_sA (by decide)) (xFr_sA (by decide))) (xFr_sA (by decide))) w2, fun i => ?_⟩
    obtain ⟨z1, z2, z3⟩ := w3 i
    rw [z1, z2, z3, xA_s0 (show 2 ≠ 4 by decide), xA_s0 (show 2 ≠ 3 by decide), xA_s1, xA_s0 (show 3 ≠ 4 by decide), xA_s1, xA_s0 (show 3 ≠ 2 by decide), xA_s1, xA_s0 (show 4 ≠ 3 by decide), xA_s0 (show 4 ≠ 2 by decide)]
    by_cases e : i = 0
    · simp only [e, ↓reduceIte, and_self]
    · by_cases e2 : i ≤ j
      · simp only [e, e2, show i ≤ j + 1 by omega, upd_0 (show i - 1 ≠ j + 1 by omega), ↓reduceIte, and_self]
      · by_cases e3 : i = j + 1
        · simp only [e3, show ¬ (j + 1 = 0) by omega, show ¬ (j + 1 ≤ j) by omega, Nat.le_refl, upd_1, Nat.add_sub_cancel, ↓reduceIte, and_self]
        · simp only [e, e2, show ¬ (i ≤ j + 1) by omega, upd_0 e3, ↓reduceIte, and_self]
def comeR (K m g : Nat) (r : Ly) : Ly := if ((m, g) :: outL m r).length ≤ K then (m, g) :: outL m r else ((m, g) :: outL m r).dropLast
theorem out_same {m : Nat} : ∀ {r : Ly}, (∀ x, x ∈ r → x.1 ≠ m) → outL m r = r
  | [], _ => rfl
  | x :: r, h => by
    unfold outL
    rw [List.filter_cons_of_pos (by simp [h x (by simp)])]
    exact congrArg (x :: ·) (out_same (fun y hy => h y (by simp [hy])))
theorem out_at {m : Nat} : ∀ (r : Ly) (p : Nat) (x : Nat × Nat), (r.map Prod.fst).Nodup → r[p]? = some x → x.1 = m → outL m r = r.eraseIdx p
  | [], p, x, _, h, _ => by simp at h
  | y :: r, 0, x, hn, h, e => by
    cases h
    unfold outL
    rw [List.filter_cons_of_neg (by simp [e])]
    refine out_same (fun z hz q => ?_)
    exact (List.nodup_cons.mp hn).1 (List.mem_map.mpr ⟨z, hz, by rw [q, e]⟩)
  | y :: r, p + 1, x, hn, h, e => by
    have hn' := List.nodup_cons.mp hn
    have hm : x ∈ r := List.mem_of_getElem? (show r[p]? = some x from h)
    unfold outL
    rw [List.filter_cons_of_pos (by simp only [ne_eq, decide_not, Bool.not_eq_eq_eq_not, Bool.not_true, decide_eq_false_iff_not]; exact fun q => hn'.1 (List.mem_map.mpr ⟨x, hm, by rw [q, e]⟩))]
    exact congrArg (y :: ·) (out_at r p x hn'.2 h e)
theorem c_come (F : Nat) (Q : Nat → Nat) (hF : 100 ≤ F) (K m g : Nat) (hm : m < 9) (hK : 1 ≤ K ∧ K ≤ 5) (r : Ly) (σ : xSt) (hx : LB Q r) (hl : r.length ≤ K) (hn : (r.map Prod.fst).Nodup) (h : crep σ Q r) :
    ∃ σ', mX3_come F (nI m) (nI g) (nI (Q m)) (nI K) σ = some σ' ∧ xFr [1] [2, 3, 4] σ σ' ∧ crep σ' Q (comeR K m g r) := by
  have h5 := h.1
  have search : ∀ (fu i : Nat), i ≤ r.length → r.length < i + fu → (∀ j x, j < i → r[j]? = some x → x.1 ≠ m) →
      ∃ p, p ≤ r.length ∧ mX3_come_L3 F fu (nI m) (nI g) (nI (Q m)) (nI K) (nI i) σ = mX3_come_L29 F (nI m) (nI g) (nI (Q m)) (nI K) (nI p) σ ∧ (∀ j x, j < p → r[j]? = some x → x.1 ≠ m) ∧ (p < r.length → ∃ x, r[p]? = some x ∧ x.1 = m) := by
    intro fu
    induction fu with
    | zero => intro i a b; omega
    | succ fu ih =>
      intro i a b hz
      show ∃ p, _ ∧ mX3_come_S3 F (mX3_come_L3 F fu) (nI m) (nI g) (nI (Q m)) (nI K) (nI i) σ = _ ∧ _
      unfold mX3_come_S3
      rw [h.2.1]
      by_cases q : i = r.length
      · rw [if_pos (by rw [q]; exact nI_le (Nat.le_refl _) (by omega))]
        exact ⟨i, a, rfl, hz, fun w => by omega⟩
      · have hi : i < r.length := by omega
        have hg : r[i]? = some r[i] := List.getElem?_eq_getElem hi
        have hxm := hx r[i] (List.getElem_mem hi)
        rw [if_neg (nI_ge hi (by omega)), xck_in (by omega) (by omega), nI_clamp (by omega), (h.2.2 i _ hg).1, nI_1]
        by_cases q2 : r[i].1 = m
        · rw [if_pos (by rw [q2])]
          exact ⟨i, a, rfl, hz, fun _ => ⟨_, hg, q2⟩⟩
        · rw [if_neg (by rw [nI_eq (by omega) (by omega)]; exact q2)]
          exact ih (i + 1) (by omega) (by omega) (fun j x hj hq => by
            by_cases e : j = i
            · subst e; rw [hg] at hq; cases hq; exact q2
            · exact hz j x (by omega) hq)
  obtain ⟨p, p1, p2, p3, p4⟩ := search F 0 (by omega) (by omega) (fun j x hj => by omega)
  unfold mX3_come
  rw [show (0 : Int32) = nI 0 from rfl, p2]
  unfold mX3_come_L29 mX3_come_L65 mX3_come_L85
  rw [h.2.1]
  by_cases q : p = r.length
  · have hno : ∀ x, x ∈ r → x.1 ≠ m := by
      intro x hxr
      obtain ⟨j, hj⟩ := List.getElem?_of_mem hxr
      exact p3 j x (by have := lt_of_get hj; omega) hj
    rw [if_pos (by rw [q])]
    unfold comeR
    rw [out_same hno, show ((m, g) :: r).length = r.length + 1 from rfl]
    by_cases q2 : K ≤ r.length
    · have e1 : nI r.length - 1 = nI (r.length - 1) := pk_sub (b := 1) (by omega)
      rw [if_pos (nI_le q2 (by omega)), e1, q, if_pos (nI_le (Nat.le_refl _) (by omega)), if_neg (show ¬ (r.length + 1 ≤ K) by omega)]
      obtain ⟨σ', w1, w2, w3⟩ := c_comeS F (nI m) (nI g) (nI (Q m)) (r.length - 1) F σ (by omega) (by omega)
      refine ⟨σ', w1, xFr_mono w2 (by simp) (by simp), by rw [List.length_dropLast]; show r.length + 1 - 1 ≤ 5; omega, by rw [w2.1 1 (by simp), h.2.1, List.length_dropLast]; rfl, fun i x hq => ?_⟩
      have hil := lt_of_get hq
      rw [List.length_dropLast] at hil
      rw [List.getElem?_dropLast, if_pos hil] at hq
      have hil' : i < r.length := hil
      obtain ⟨z1, z2, z3⟩ := w3 i
      unfold vals
      rw [z1, z2, z3]
      cases i with
      | zero => cases hq; exact ⟨rfl, rfl, rfl⟩
      | succ i =>
        simp only [show ¬ (i + 1 = 0) by omega, show i + 1 ≤ r.length - 1 by omega, Nat.add_sub_cancel, ↓reduceIte]
        exact h.2.2 i x hq
    · rw [if_neg (nI_ge (by omega) (by omega)), if_neg (show ¬ ((5 : Int32) ≤ nI r.length) from nI_ge (b := 5) (by omega) (by omega))]
      rw [xI_sI, if_pos rfl, nI_1, nI_pred, q, if_neg (nI_ge (Nat.lt_succ_self _) (by omega)), if_pos (show r.length + 1 ≤ K by omega)]
      obtain ⟨σ', w1, w2, w3⟩ := c_comeS F (nI m) (nI g) (nI (Q m)) r.length F (xsI σ 1 (nI (r.length + 1))) (by omega) (by omega)
      refine ⟨σ', w1, xFr_tr (xFr_sI (by decide)) (xFr_mono w2 (by simp) (by simp)), by show r.length + 1 ≤ 5; omega, by rw [w2.1 1 (by simp), xI_sI, if_pos rfl]; rfl, fun i x hq => ?_⟩
      have hil := lt_of_get hq
      have hil' : i < r.length + 1 := hil
      obtain ⟨z1, z2, z3⟩ := w3 i
      unfold vals
      rw [z1, z2, z3]
      cases i with
      | zero => cases hq; exact ⟨rfl, rfl, rfl⟩
      | succ i =>
        simp only [show ¬ (i + 1 = 0) by omega, show i + 1 ≤ r.length by omega, Nat.add_sub_cancel, ↓reduceIte]
        exact h.2.2 i x hq
  · obtain ⟨x0, g1, g2⟩ := p4 (by omega)
    have hp : p < r.length := lt_of_get g1
    rw [if_neg (by rw [nI_eq (by omega) (by omega)]; exact q)]
    have e1 : nI r.length - 1 = nI (r.length - 1) := pk_sub (b := 1) (by omega)
    rw [e1, if_neg (nI_ge hp (by omega))]
    unfold comeR
    have hlen : ((m, g) :: r.eraseIdx p).length = r.length := by
      show (r.eraseIdx p).length + 1 = _
      rw [List.length_eraseIdx, if_pos hp]; omega
    rw [out_at r p x0 hn g1 g2, hlen, if_pos hl]
    obtain ⟨σ', w1, w2, w3⟩ := c_comeS F (nI m) (nI g) (nI (Q m)) p F σ (by omega) (by omega)
    refine ⟨σ', w1, xFr_mono w2 (by simp) (by simp), by omega, by rw [w2.1 1 (by simp), h.2.1, hlen], fun i x hq => ?_⟩
    obtain ⟨z1, z2, z3⟩ := w3 i
    unfold vals
    rw [z1, z2, z3]
    cases i with
    | zero => cases hq; exact ⟨rfl, rfl, rfl⟩
    | succ i =>
      have hq' : (r.eraseIdx p)[i]? = some x := hq
      rw [List.getElem?_eraseIdx] at hq'
      by_cases e : i < p
      · rw [if_pos e] at hq'
        simp only [show ¬ (i + 1 = 0) by omega, show i + 1 ≤ p by omega, Nat.add_sub_cancel, ↓reduceIte]
        exact h.2.2 i x hq'
      · rw [if_neg e] at hq'
        simp only [show ¬ (i + 1 = 0) by omega, show ¬ (i + 1 ≤ p) by omega, ↓reduceIte]
        exact h.2.2 (i + 1) x hq'
