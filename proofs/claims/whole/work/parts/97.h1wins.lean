/-! ===== windows more ===== -/
def Wadd (D : Dy) (x t : Nat) : Dy := fun j e => match j with
  | 0 => D 0 e
  | 1 => D 1 e
  | 2 => D 2 e
  | 3 => D 3 e
  | 4 => D 4 0 + 1
  | 5 => ins (D 5) (D 4 0) x e
  | 6 => ins (D 6) (D 4 0) t e
  | k + 7 => D (k + 7) e
theorem win_add (D : Dy) (x t t' hh : Nat) (l : Ly) : winL (Wadd D x t) t' hh l = if x = hh ∧ t = t' then (winL D t' hh l).tail else winL D t' hh l := by
  unfold winL
  show (List.range (D 4 0 + 1)).foldl _ l = _
  rw [List.range_succ, List.foldl_append]
  have e : (List.range (D 4 0)).foldl (stW (Wadd D x t) t' hh) l = (List.range (D 4 0)).foldl (stW D t' hh) l := by
    refine fold_cg _ _ (fun k hk l => ?_)
    have hk' := List.mem_range.mp hk
    unfold stW
    show (if ins (D 5) (D 4 0) x k = hh ∧ ins (D 6) (D 4 0) t k = t' then l.tail else l) = _
    rw [ins_o (by omega), ins_o (by omega)]
  rw [e]
  generalize (List.range (D 4 0)).foldl (stW D t' hh) l = l1
  show stW (Wadd D x t) t' hh l1 (D 4 0) = _
  unfold stW
  show (if ins (D 5) (D 4 0) x (D 4 0) = hh ∧ ins (D 6) (D 4 0) t (D 4 0) = t' then l1.tail else l1) = _
  rw [ins_n, ins_n]
def WL (D : Dy) (x : Nat) (L : List Nat) : Dy := L.foldl (fun D t => Wadd D x t) D
theorem WL_hi (x : Nat) : ∀ (L : List Nat) (D : Dy) (j : Nat), WL D x L (j + 7) = D (j + 7)
  | [], _, _ => rfl
  | c :: L, D, j => WL_hi x L (Wadd D x c) j
theorem WL_lo (x : Nat) : ∀ (L : List Nat) (D : Dy), WL D x L 0 = D 0 ∧ WL D x L 1 = D 1 ∧ WL D x L 2 = D 2 ∧ WL D x L 3 = D 3
  | [], _ => ⟨rfl, rfl, rfl, rfl⟩
  | c :: L, D => WL_lo x L (Wadd D x c)
theorem win_WL (x t hh : Nat) (l : Ly) : ∀ (L : List Nat) (D : Dy), winL (WL D x L) t hh l = if x = hh then (winL D t hh l).drop (L.count t) else winL D t hh l
  | [], D => by
    by_cases q : x = hh
    · rw [if_pos q]; rfl
    · rw [if_neg q]; rfl
  | c :: L, D => by
    show winL (WL (Wadd D x c) x L) t hh l = _
    rw [win_WL x t hh l L, win_add]
    by_cases q : x = hh
    · rw [if_pos q, if_pos q]
      by_cases q2 : c = t
      · rw [if_pos ⟨q, q2⟩, q2, List.count_cons_self, ← List.drop_one, List.drop_drop, Nat.add_comm]
      · rw [if_neg (fun w => q2 w.2), List.count_cons_of_ne q2]
    · rw [if_neg q, if_neg q, if_neg (fun w => q w.1)]
theorem sit_WL (H : Hs) (D : Dy) (x t hh : Nat) (l : Ly) (L : List Nat) : sitL H (WL D x L) t hh l = sitL H D t hh l := by
  obtain ⟨h0, h1, h2, h3⟩ := WL_lo x L D
  unfold sitL
  rw [h0]
  refine fold_cg _ _ (fun k _ l => ?_)
  unfold stS
  rw [h1, h2, h3]
theorem air_WL (D : Dy) (x t hh : Nat) (l : Ly) (L : List Nat) : airL (WL D x L) t hh l = airL D t hh l := by
  have h7 : WL D x L 7 = D 7 := WL_hi x L D 0
  have h8 : WL D x L 8 = D 8 := WL_hi x L D 1
  unfold airL
  rw [h7, h8]
theorem dayL_WL {H : Hs} {D : Dy} {x t : Nat} {L L' : List Nat} (he : L.count t = L'.count t) : ∀ h, dayL H (WL D x L) t h = dayL H (WL D x L') t h
  | 0 => rfl
  | h + 1 => by
    show hourL H (WL D x L) t h (dayL H (WL D x L) t h) = hourL H (WL D x L') t h (dayL H (WL D x L') t h)
    rw [dayL_WL he h, hourL_e, hourL_e, sit_WL, sit_WL, win_WL, win_WL, air_WL, air_WL, he]
def WK (D : Dy) (x t : Nat) : Nat → Dy
  | 0 => D
  | k + 1 => Wadd (WK D x t k) x t
theorem WL_rep (D : Dy) (x t : Nat) : ∀ k, WL D x (List.replicate k t) = WK D x t k
  | 0 => rfl
  | k + 1 => by
    rw [List.replicate_succ']
    unfold WL
    rw [List.foldl_append]
    show Wadd (WL D x (List.replicate k t)) x t = _
    rw [WL_rep D x t k]; rfl
theorem dayL_WK {H : Hs} {D : Dy} {x t : Nat} (L : List Nat) (h : Nat) : dayL H (WL D x L) t h = dayL H (WK D x t (L.count t)) t h := by
  rw [← WL_rep]
  exact dayL_WL (by rw [List.count_replicate_self]) h
theorem WK_n (D : Dy) (x t : Nat) : ∀ k, WK D x t k 4 0 = D 4 0 + k ∧ WK D x t k 0 = D 0 ∧ WK D x t k 7 = D 7
  | 0 => ⟨rfl, rfl, rfl⟩
  | k + 1 => by
    obtain ⟨a, b, c⟩ := WK_n D x t k
    exact ⟨by show WK D x t k 4 0 + 1 = _; rw [a]; omega, b, c⟩
/-- the class's rows, windows with nobody -/
def CDw (σ : xSt) (D : Dy) : Prop := CD σ D ∧ CTold σ 1 (D 4 0) (D 5) (D 6) (fun _ => 0)
theorem CDw_fr {σ σ' : xSt} {D : Dy} {I A : List Nat} (h : CDw σ D) (f : xFr I A σ σ') (h1 : 14 ∉ I) (h2 : 15 ∉ I) (h3 : ∀ a, 15 ≤ a → a ≤ 25 → a ∉ A) : CDw σ' D := by
  obtain ⟨⟨a, b, c, d, ⟨o, e⟩, g⟩, w⟩ := h
  have e1 : CTold σ' 1 (D 4 0) (D 5) (D 6) o := CTold_fr e (f.1 _ h2) (f.2 _ (h3 _ (by omega) (by omega))) (f.2 _ (h3 _ (by omega) (by omega))) (f.2 _ (h3 _ (by omega) (by omega))) (f.2 _ (h3 _ (by omega) (by omega)))
  exact ⟨⟨a, CTold_fr b (f.1 _ h1) (f.2 _ (h3 _ (by omega) (by omega))) (f.2 _ (h3 _ (by omega) (by omega))) (f.2 _ (h3 _ (by omega) (by omega))) (f.2 _ (h3 _ (by omega) (by omega))), c, d, ⟨o, e1⟩, g⟩, CTold_fr w (f.1 _ h2) (f.2 _ (h3 _ (by omega) (by omega))) (f.2 _ (h3 _ (by omega) (by omega))) (f.2 _ (h3 _ (by omega) (by omega))) (f.2 _ (h3 _ (by omega) (by omega)))⟩
theorem ins_0 (n : Nat) : ins (fun _ => 0) n 0 = fun _ => 0 := funext (fun e => by
  by_cases q : e = n
  · rw [q, ins_n]
  · rw [ins_o q])
theorem c_wadd (F x tt : Nat) (D : Dy) (σ : xSt) (hF : 100 ≤ F) (hx : x < 24) (ht : tt < 1000) (hn : D 4 0 < 11) (h : CDw σ D) : ∃ σ', mX7_add F 1 (nI x) (nI tt) 0 σ = some σ' ∧ CDw σ' (Wadd D x tt) ∧ xFr [15] [16, 19, 22, 25] σ σ' := by
  obtain ⟨⟨a, b, c, d, _, g⟩, e⟩ := h
  obtain ⟨σ', w1, w2, w3⟩ := c_add F 1 (D 4 0) x tt 0 hF (by omega) hx (D 5) (D 6) (fun _ => 0) hn σ e
  rw [ins_0] at w2
  refine ⟨σ', w1, ⟨⟨a, CTold_fr b (w3.1 _ (by decide)) (w3.2 _ (by decide)) (w3.2 _ (by decide)) (w3.2 _ (by decide)) (w3.2 _ (by decide)), c, show D 4 0 + 1 ≤ 11 by omega, ⟨_, w2⟩, fun i hi => ?_⟩, w2⟩, w3⟩
  show ins (D 6) (D 4 0) tt i < 1000
  have hi' : i < D 4 0 + 1 := hi
  by_cases q : i = D 4 0
  · rw [q, ins_n]; exact ht
  · rw [ins_o q]; exact g i (by omega)
theorem c_wdrop (F x tt : Nat) (D : Dy) (σ : xSt) (hF : 100 ≤ F) (hn : D 4 0 < 11) (hg : ∀ i, i < D 4 0 → D 6 i < 1000) (h : CDw σ (Wadd D x tt)) : ∃ σ', mX7_drop F 1 σ = some σ' ∧ CDw σ' D ∧ xFr [15] [25] σ σ' := by
  obtain ⟨⟨a, b, c, d, _, g⟩, e⟩ := h
  obtain ⟨σ', w1, w2, w3⟩ := c_drop F 1 (D 4 0) hF (by omega) (Wadd D x tt 5) (Wadd D x tt 6) (fun _ => 0) hn σ e
  have w2' : CTold σ' 1 (D 4 0) (D 5) (D 6) (fun _ => 0) := CTold_cg (fun i hi => ⟨ins_o (show i ≠ D 4 0 by omega), ins_o (show i ≠ D 4 0 by omega), rfl⟩) w2
  exact ⟨σ', w1, ⟨⟨a, CTold_fr b (w3.1 _ (by decide)) (w3.2 _ (by decide)) (w3.2 _ (by decide)) (w3.2 _ (by decide)) (w3.2 _ (by decide)), c, by omega, ⟨_, w2'⟩, hg⟩, w2'⟩, w3⟩
theorem firstF_split {f : Nat → Bool} : ∀ (d a : Nat), firstF f a (d + 1) = match firstF f a d with | some k => some k | none => if f (a + d) then some (a + d) else none
  | 0, a => by
    show (if f a then some a else none) = (if f (a + 0) then some (a + 0) else none)
    rfl
  | d + 1, a => by
    show (if f a then some a else firstF f (a + 1) (d + 1)) = match (if f a then some a else firstF f (a + 1) d) with | some k => some k | none => if f (a + (d + 1)) then some (a + (d + 1)) else none
    cases q : f a with
    | true => rfl
    | false =>
      rw [if_neg (by decide), if_neg (by decide), firstF_split d (a + 1), show a + 1 + d = a + (d + 1) by omega]
abbrev wX (H : Hs) (D : Dy) (x hr t : Nat) : Nat → Bool := fun k => decide (okD H (WK D x t k) hr 255 0 t)
theorem CH_q {σ σ' : xSt} {H : Hs} (h : CH σ H) (f : xFr [1, 2, 15, 3] [2, 3, 4, 16, 19, 22, 25, 0] σ σ') : CH σ' H := CH_fr h (f.1 _ (by decide)) (f.1 _ (by decide)) (fun a h1 h2 => f.2 a (by simp <;> omega))
theorem c_open2 (F t x hr : Nat) (H : Hs) (D : Dy) (hF : 100 ≤ F) (hB : HB H) (ht : t < hT H) (hx : x < 24) (hr1 : hr < 24) (h7 : ∀ x, D 7 x = 0) (hn : D 4 0 ≤ 8) : ∀ (d fu a : Nat) (σ : xSt), a + d = 3 → d < fu → CH σ H → CDw σ (WK D x t a) → Pl σ x hr 255 0 →
    ∃ σ' k, (firstF (wX H D x hr t) a d).getD 3 = k ∧ a ≤ k ∧ k ≤ 3 ∧ mX4_openAt_L2 F fu (nI t) (nI a) σ = mX4_openAt_L46 F F (nI t) (nI k) (bI (okD H (WK D x t k) hr 255 0 t)) 0 σ' ∧ CDw σ' (WK D x t k) ∧ xFr [1, 2, 15] [2, 3, 4, 16, 19, 22, 25] σ σ' := by
  have hb1 := hB.1
  intro d
  induction d with
  | zero =>
    intro fu a σ e h hC hD hp
    obtain ⟨fu, rfl⟩ : ∃ f, fu = f + 1 := ⟨fu - 1, by omega⟩
    obtain ⟨w1, w2, w3⟩ := WK_n D x t a
    obtain ⟨σ1, a1, a2⟩ := c_plOut F t x hr 255 0 H (WK D x t a) hF hB ht hr1 (fun z => by rw [w3]; exact h7 z) σ hC hD.1 hp
    refine ⟨σ1, 3, rfl, by omega, by omega, ?_, ?_, xFr_mono a2 (by simp) (by simp)⟩
    · show mX4_openAt_S2 F (mX4_openAt_L2 F fu) (nI t) (nI a) σ = _
      unfold mX4_openAt_S2 mX4_openAt_L37
      rw [show a = 3 by omega, if_pos (by decide)]
      rw [show a = 3 by omega] at a1
      rw [a1, xb2_s]
    · rw [show 3 = a by omega]
      exact CDw_fr hD a2 (by decide) (by decide) (fun a h1 h2 => by simp <;> omega)
  | succ d ih =>
    intro fu a σ e h hC hD hp
    obtain ⟨fu, rfl⟩ : ∃ f, fu = f + 1 := ⟨fu - 1, by omega⟩
    obtain ⟨w1, w2, w3⟩ := WK_n D x t a
    have h7a : ∀ z, WK D x t a 7 z = 0 := fun z => by rw [w3]; exact h7 z
    obtain ⟨σ1, a1, a2⟩ := c_plOut F t x hr 255 0 H (WK D x t a) hF hB ht hr1 h7a σ hC hD.1 hp
    have hD1 : CDw σ1 (WK D x t a) := CDw_fr hD a2 (by decide) (by decide) (fun a h1 h2 => by simp <;> omega)
    have hC1 := CH_l hC a2
    have hp1 := Pl_fr hp a2 (by decide) (by decide) (by decide) (by decide)
    have ef : firstF (wX H D x hr t) a (d + 1) = if decide (okD H (WK D x t a) hr 255 0 t) then some a else firstF (wX H D x hr t) (a + 1) d := rfl
    by_cases q : okD H (WK D x t a) hr 255 0 t
    · obtain ⟨σ2, b1, b2⟩ := c_plOut F t x hr 255 0 H (WK D x t a) hF hB ht hr1 h7a σ1 hC1 hD1.1 hp1
      refine ⟨σ2, a, by rw [ef, if_pos (decide_eq_true q)]; rfl, Nat.le_refl _, by omega, ?_, CDw_fr hD1 b2 (by decide) (by decide) (fun a h1 h2 => by simp <;> omega), xFr_mono (xFr_tr a2 b2) (by simp) (by simp)⟩
      show mX4_openAt_S2 F (mX4_openAt_L2 F fu) (nI t) (nI a) σ = _
      unfold mX4_openAt_S2 mX4_openAt_L37
      rw [if_neg (show ¬ ((3 : Int32) ≤ nI a) from nI_ge (b := 3) (by omega) (by omega)), a1, xb2_s, if_neg (by rw [bI_t q]; decide), b1, xb2_s]
    · obtain ⟨σ2, b1, b2, b3⟩ := c_wadd F x t (WK D x t a) σ1 hF hx (by omega) (by omega) hD1
      obtain ⟨σ', k, z0, z1, z2, z3, z4, z5⟩ := ih fu (a + 1) σ2 (by omega) (by omega) (CH_q hC1 (xFr_mono b3 (by simp) (by simp))) b2 (Pl_fr hp1 b3 (by decide) (by decide) (by decide) (by decide))
      refine ⟨σ', k, by rw [ef, if_neg (fun w => q (of_decide_eq_true w))]; exact z0, by omega, z2, ?_, z4, xFr_tr (xFr_tr (xFr_mono a2 (by simp) (by simp)) (xFr_mono b3 (by simp) (by simp))) z5⟩
      show mX4_openAt_S2 F (mX4_openAt_L2 F fu) (nI t) (nI a) σ = _
      unfold mX4_openAt_S2
      rw [if_neg (show ¬ ((3 : Int32) ≤ nI a) from nI_ge (b := 3) (by omega) (by omega)), a1, xb2_s, bI_f q, if_pos rfl, hp1.1, b1, xb1_s, nI_1, z3]
theorem c_open46 (F t x k : Nat) (r : Int32) (D : Dy) (hF : 100 ≤ F) (hk : k ≤ 3) (hn : D 4 0 ≤ 8) (hg : ∀ i, i < D 4 0 → D 6 i < 1000) (ht : t < 1000) : ∀ (d fu b : Nat) (σ : xSt) (R : Option (List Nat)), b + d = k → d < fu → CDw σ (WK D x t d) → RowC σ R →
    ∃ σ', mX4_openAt_L46 F fu (nI t) (nI k) r (nI b) σ = mX4_openAt_L74 F r σ' ∧ CDw σ' D ∧ RowC σ' (tkN t d R) ∧ xFr [15, 3] [25, 0] σ σ' := by
  intro d
  induction d with
  | zero =>
    intro fu b σ R e h hD hr
    obtain ⟨fu, rfl⟩ : ∃ f, fu = f + 1 := ⟨fu - 1, by omega⟩
    show ∃ σ', mX4_openAt_S46 F (mX4_openAt_L46 F fu) (nI t) (nI k) r (nI b) σ = _ ∧ _
    unfold mX4_openAt_S46
    rw [if_pos (nI_le (by omega) (by omega))]
    exact ⟨σ, rfl, hD, hr, xFr_rf⟩
  | succ d ih =>
    intro fu b σ R e h hD hr
    obtain ⟨fu, rfl⟩ : ∃ f, fu = f + 1 := ⟨fu - 1, by omega⟩
    show ∃ σ', mX4_openAt_S46 F (mX4_openAt_L46 F fu) (nI t) (nI k) r (nI b) σ = _ ∧ _
    unfold mX4_openAt_S46
    obtain ⟨w1, w2, w3⟩ := WK_n D x t d
    obtain ⟨σ1, a1, a2, a3⟩ := c_wdrop F x t (WK D x t d) σ hF (by omega) (fun i hi => by
      have := hD.1.2.2.2.2.2 i (by show i < WK D x t d 4 0 + 1; omega)
      have z : WK D x t (d + 1) 6 i = WK D x t d 6 i := ins_o (show i ≠ WK D x t d 4 0 by omega)
      rw [z] at this; exact this) hD
    obtain ⟨σ2, b1, b2, b3⟩ := c_take F t 3 (by omega) σ1 R (RowC_fr hr (a3.1 3 (by decide)) (a3.2 0 (by decide)))
    rw [if_neg (nI_ge (by omega) (by omega)), a1, xb1_s, show mX4_take F (nI t) 3 σ1 = _ from b1, xb1_s, nI_1]
    obtain ⟨σ', z1, z2, z3, z4⟩ := ih fu (b + 1) σ2 (tkR 3 t R) (by omega) (by omega) (CDw_fr a2 b3 (by decide) (by decide) (fun a h1 h2 => by simp <;> omega)) b2
    exact ⟨σ', z1, z2, z3, xFr_tr (xFr_tr (xFr_mono a3 (by simp) (by simp)) (xFr_mono b3 (by simp) (by simp))) z4⟩
theorem c_openAt (F t x hr : Nat) (H : Hs) (D : Dy) (hF : 100 ≤ F) (hB : HB H) (ht : t < hT H) (hx : x < 24) (hr1 : hr < 24) (h7 : ∀ x, D 7 x = 0) (hn : D 4 0 ≤ 8) (σ : xSt) (L : List Nat) (hC : CH σ H) (hD : CDw σ D) (hp : Pl σ x hr 255 0) (hrw : RowC σ (some L)) :
    ∃ σ', mX4_openAt F (nI t) σ = some σ' ∧ CDw σ' D ∧ RowC σ' (match firstF (wX H D x hr t) 0 4 with | some k => tkN t k (some L) | none => none) ∧ xFr [1, 2, 15, 3] [2, 3, 4, 16, 19, 22, 25, 0] σ σ' := by
  have hb1 := hB.1
  obtain ⟨σ1, k, z0, z1, z2, z3, z4, z5⟩ := c_open2 F t x hr H D hF hB ht hx hr1 h7 hn 3 F 0 σ (by omega) (by omega) hC hD hp
  obtain ⟨σ2, b1, b2, b3, b4⟩ := c_open46 F t x k (bI (okD H (WK D x t k) hr 255 0 t)) D hF z2 hn hD.1.2.2.2.2.2 (by omega) k F 0 σ1 (some L) (by omega) (by omega) z4 (RowC_fr hrw (z5.1 3 (by decide)) (z5.2 0 (by decide)))
  have fr : xFr [1, 2, 15, 3] [2, 3, 4, 16, 19, 22, 25, 0] σ σ2 := xFr_tr (xFr_mono z5 (by simp) (by simp)) (xFr_mono b4 (by simp) (by simp))
  unfold mX4_openAt
  rw [show mX4_openAt_L2 F F (nI t) 0 σ = _ from z3, show mX4_openAt_L46 F F (nI t) (nI k) (bI (okD H (WK D x t k) hr 255 0 t)) 0 σ1 = _ from b1, firstF_split 3 0]
  unfold mX4_openAt_L74 mX4_openAt_L83
  have none_ : ∀ σ2, CDw σ2 D → CDw (xsI σ2 3 (-1)) D ∧ RowC (xsI σ2 3 (-1)) none ∧ xFr [3] [0] σ2 (xsI σ2 3 (-1)) := fun σ2 b2 => by
    have f4 : xFr [3] [0] σ2 (xsI σ2 3 (-1)) := xFr_sI (by decide)
    exact ⟨CDw_fr b2 f4 (by decide) (by decide) (fun a h1 h2 => by simp <;> omega), by show xI (xsI σ2 3 (-1)) 3 = -1; rw [xI_sI, if_pos rfl], f4⟩
  cases q : firstF (wX H D x hr t) 0 3 with
  | some j =>
    rw [q] at z0
    have hk : j = k := z0
    have hf := (firstF_some q).2.2.1
    rw [hk] at hf
    rw [bI_t (of_decide_eq_true hf), if_neg (by decide), hk]
    exact ⟨σ2, rfl, b2, b3, fr⟩
  | none =>
    rw [q] at z0
    have hk : 3 = k := z0
    subst hk
    by_cases w : okD H (WK D x t 3) hr 255 0 t
    · rw [bI_t w, if_neg (by decide)]
      show ∃ σ', some σ2 = some σ' ∧ CDw σ' D ∧ RowC σ' (match (if wX H D x hr t (0 + 3) then some (0 + 3) else none) with | some k => tkN t k (some L) | none => none) ∧ _
      rw [if_pos (show wX H D x hr t (0 + 3) = true from decide_eq_true w)]
      exact ⟨σ2, rfl, b2, b3, fr⟩
    · rw [bI_f w, if_pos rfl]
      show ∃ σ', some (xsI σ2 3 (-1)) = some σ' ∧ CDw σ' D ∧ RowC σ' (match (if wX H D x hr t (0 + 3) then some (0 + 3) else none) with | some k => tkN t k (some L) | none => none) ∧ _
      rw [if_neg (show ¬ wX H D x hr t (0 + 3) = true from fun z => w (of_decide_eq_true z))]
      obtain ⟨y1, y2, y3⟩ := none_ σ2 b2
      exact ⟨_, rfl, y1, y2, xFr_tr fr (xFr_mono y3 (by simp) (by simp))⟩
theorem clA_none {S : Nat → Bool} {w : Nat → Nat → Bool} {n : Nat} (h : clA S w n = none) : ∀ d, clA S w (n + d) = none
  | 0 => h
  | d + 1 => by
    show stepA S w (clA S w (n + d)) (n + d) = none
    rw [clA_none h d]; rfl
theorem c_openL (F x hr : Nat) (v : Int32) (H : Hs) (D : Dy) (hF : 100 ≤ F) (hB : HB H) (hx : x < 24) (hr1 : hr < 24) (h7 : ∀ x, D 7 x = 0) (hn : D 4 0 ≤ 8) : ∀ (d fu a : Nat) (σ : xSt), a + d = hT H → d < fu → CH σ H → CDw σ D → Pl σ x hr 255 0 → RowC σ (clA (fun t => decide (hasB v t)) (wX H D x hr) a) →
    ∃ σ', mX4_open_L2 F fu v (nI a) σ = some σ' ∧ CDw σ' D ∧ RowC σ' (clA (fun t => decide (hasB v t)) (wX H D x hr) (hT H)) ∧ xFr [1, 2, 15, 3] [2, 3, 4, 16, 19, 22, 25, 0] σ σ' := by
  have hb1 := hB.1
  intro d
  induction d with
  | zero =>
    intro fu a σ e h hC hD hp hr'
    obtain ⟨fu, rfl⟩ : ∃ f, fu = f + 1 := ⟨fu - 1, by omega⟩
    show ∃ σ', mX4_open_S2 F (mX4_open_L2 F fu) v (nI a) σ = _ ∧ _
    unfold mX4_open_S2 mX4_open_L43
    rw [show xI σ (12 + 0) = nI (hT H) from hC.1, if_pos (nI_le (by omega) (by omega))]
    exact ⟨σ, rfl, hD, by rw [show hT H = a by omega]; exact hr', xFr_rf⟩
  | succ d ih =>
    intro fu a σ e h hC hD hp hr'
    obtain ⟨fu, rfl⟩ : ∃ f, fu = f + 1 := ⟨fu - 1, by omega⟩
    show ∃ σ', mX4_open_S2 F (mX4_open_L2 F fu) v (nI a) σ = _ ∧ _
    unfold mX4_open_S2 mX4_open_L37 mX4_open_L43
    rw [show xI σ (12 + 0) = nI (hT H) from hC.1, if_neg (nI_ge (by omega) (by omega)), nI_1]
    have es : clA (fun t => decide (hasB v t)) (wX H D x hr) (a + 1) = stepA (fun t => decide (hasB v t)) (wX H D x hr) (clA (fun t => decide (hasB v t)) (wX H D x hr) a) a := rfl
    cases hR' : clA (fun t => decide (hasB v t)) (wX H D x hr) a with
    | none =>
      rw [hR'] at hr'
      rw [show xI σ 3 = -1 from hr', if_pos rfl]
      refine ⟨σ, rfl, hD, ?_, xFr_rf⟩
      rw [show hT H = a + (d + 1) by omega, clA_none hR' (d + 1)]; exact hr'
    | some L =>
      rw [hR'] at hr' es
      obtain ⟨r1, r2, r3⟩ := hr'
      rw [r2, if_neg (nI_m1 (by omega)), c_hold, xb2_s]
      by_cases q : hasB v a
      · rw [bI_t q, if_neg (by decide)]
        obtain ⟨σ1, a1, a2, a3, a4⟩ := c_openAt F a x hr H D hF hB (by omega) hx hr1 h7 hn σ L hC hD hp ⟨r1, r2, r3⟩
        rw [a1, xb1_s]
        obtain ⟨σ', z1, z2, z3, z4⟩ := ih fu (a + 1) σ1 (by omega) (by omega) (CH_q hC a4) a2 (Pl_fr hp a4 (by decide) (by decide) (by decide) (by decide)) (by
          rw [es]
          show RowC σ1 (if decide (hasB v a) = true then _ else _)
          rw [if_pos (decide_eq_true q)]
          exact a3)
        exact ⟨σ', z1, z2, z3, xFr_tr a4 z4⟩
      · rw [bI_f q, if_pos rfl]
        obtain ⟨σ', z1, z2, z3, z4⟩ := ih fu (a + 1) σ (by omega) (by omega) hC hD hp (by
          rw [es]
          show RowC σ (if decide (hasB v a) = true then _ else some L)
          rw [if_neg (fun w => q (of_decide_eq_true w))]
          exact ⟨r1, r2, r3⟩)
        exact ⟨σ', z1, z2, z3, z4⟩
theorem c_open (F x hr : Nat) (v : Int32) (H : Hs) (D : Dy) (hF : 100 ≤ F) (hB : HB H) (hx : x < 24) (hr1 : hr < 24) (h7 : ∀ x, D 7 x = 0) (hn : D 4 0 ≤ 8) (σ : xSt) (hC : CH σ H) (hD : CDw σ D) :
    ∃ σ1 σ', mX4_aim F (nI x) (nI hr) 255 0 σ = some σ1 ∧ mX4_open F v σ1 = some σ' ∧ CDw σ' D ∧ RowC σ' (clA (fun t => decide (hasB v t)) (wX H D x hr) (hT H)) ∧ xFr [1, 2, 15, 3, 4, 5, 6, 7] [2, 3, 4, 16, 19, 22, 25, 0] σ σ' := by
  have hb1 := hB.1
  unfold mX4_aim mX4_open
  have f0 : xFr [3, 4, 5, 6, 7] [] σ (xsI (xsI (xsI (xsI (xsI σ 4 (nI x)) 5 (nI hr)) 6 255) 7 0) 3 0) := xFr_tr (xFr_tr (xFr_tr (xFr_tr (xFr_sI (by decide)) (xFr_sI (by decide))) (xFr_sI (by decide))) (xFr_sI (by decide))) (xFr_sI (by decide))
  generalize hs : xsI (xsI (xsI (xsI (xsI σ 4 (nI x)) 5 (nI hr)) 6 255) 7 0) 3 0 = σ1 at f0
  have hp : Pl σ1 x hr 255 0 := by
    rw [← hs]; exact ⟨rfl, rfl, rfl, rfl⟩
  have h3 : xI σ1 3 = 0 := by rw [← hs]; rfl
  have hC1 : CH σ1 H := CH_fr hC (f0.1 _ (by decide)) (f0.1 _ (by decide)) (fun a h1 h2 => f0.2 a (by simp))
  have hD1 : CDw σ1 D := CDw_fr hD f0 (by decide) (by decide) (fun a h1 h2 => by simp)
  obtain ⟨σ', z1, z2, z3, z4⟩ := c_openL F x hr v H D hF hB hx hr1 h7 hn (hT H) F 0 σ1 (by omega) (by omega) hC1 hD1 hp ⟨by simp, h3, fun i e he => by simp at he⟩
  exact ⟨σ1, σ', rfl, z1, z2, z3, xFr_tr (xFr_mono f0 (by simp) (by simp)) (xFr_mono z4 (by simp) (by simp))⟩
