/-! ===== together: the model ===== -/
def Pr (σ : xSt) (f g : Nat → Bool) : Prop := ∀ p, p < 64 → xA σ 24 p = bI (f p = true) ∧ xA σ 25 p = bI (g p = true)
theorem m_tg14 (F : Nat) (v1 : Int32) : ∀ (fu a : Nat) (σ : xSt), a ≤ 64 → 64 < a + fu → (∀ p, p < a → xA σ 24 p = 0 ∧ xA σ 25 p = 0) →
    ∃ σ', mX9_togetherOf_L14 F fu v1 (nI a) σ = mX9_togetherOf_L40 F v1 σ' ∧ xFr [] [24, 25] σ σ' ∧ Pr σ' (fun _ => false) (fun _ => false) := by
  intro fu
  induction fu with
  | zero => intro a σ x y; omega
  | succ fu ih =>
    intro a σ h1 h2 h3
    show ∃ σ', mX9_togetherOf_S14 F (mX9_togetherOf_L14 F fu) v1 (nI a) σ = _ ∧ _
    unfold mX9_togetherOf_S14
    by_cases q : a = 64
    · rw [if_pos (show (64 : Int32) ≤ nI a from nI_le (a := 64) (by omega) (by omega))]
      refine ⟨σ, rfl, xFr_rf, fun p hp => ?_⟩
      obtain ⟨x, y⟩ := h3 p (by omega)
      exact ⟨x, y⟩
    · rw [if_neg (show ¬ ((64 : Int32) ≤ nI a) from nI_ge (b := 64) (by omega) (by omega))]
      have e1 := xin_nI (show a < 64 by omega) (show (64 : Nat) < 2 ^ 31 by decide)
      simp only [e1, show xbit 0 = true from rfl, nI_clamp (show a < 2 ^ 31 by omega), nI_1, xb1_s, xb2_s, xck_1, i10, i00, i11, ↓reduceIte]
      obtain ⟨σ', z1, z2, z3⟩ := ih (a + 1) (xsA (xsA σ 24 a 0) 25 a 0) (by omega) (by omega) (fun p hp => by
        rw [xA_s0 (by decide), xA_s1, xA_s1, xA_s0 (by decide)]
        unfold upd
        by_cases w : p = a
        · rw [if_pos w, if_pos w]; exact ⟨rfl, rfl⟩
        · rw [if_neg w, if_neg w]; exact h3 p (by omega))
      exact ⟨σ', z1, xFr_tr (xFr_tr (xFr_sA (by decide)) (xFr_sA (by decide))) z2, z3⟩
theorem m_tg73s (F p : Nat) (v v1 v2 v3 : Int32) (c42 : Int32 → Int32 → xSt → Option (Int32 × xSt)) (c55 : Int32 → Int32 → Int32 → xSt → Option (Int32 × xSt)) (c73 : Int32 → Int32 → Int32 → Int32 → Int32 → xSt → Option (Int32 × xSt)) (f g : Bool) (σ : xSt) (hp : p < 64) (hf : xA σ 24 p = bI (f = true)) (hg : xA σ 25 p = bI (g = true)) :
    mX9_togetherOf_S73 F c42 c55 c73 v1 v2 v3 v (nI p) σ = c73 v1 v2 v3 v (nI (p + 1)) (xsA (xsA σ 24 p (bI ((f || Bt v p) = true))) 25 p (bI ((g || Ap v p) = true))) := by
  have e1 := xin_nI (show p < 64 by omega) (show (64 : Nat) < 2 ^ 31 by decide)
  have e2 : nI p / 8 = nI (p / 8) := pk_div (d := 8) (by omega) (by decide) (by decide)
  have e3 : nI p - nI (p / 8) * 8 = nI (p % 8) := by
    rw [← e2]
    exact pk_rem (d := 8) (by omega) (by decide) (by decide)
  unfold mX9_togetherOf_S73
  rw [if_neg (show ¬ ((64 : Int32) ≤ nI p) from nI_ge (b := 64) (by omega) (by omega))]
  unfold mX9_togetherOf_L134 mX9_togetherOf_L130 mX9_togetherOf_L135 mX9_togetherOf_L159 mX9_togetherOf_L164
  simp only [e2, e3, m_isI, e1, show xnzI 8 = true from rfl, nI_clamp (show p < 2 ^ 31 by omega), hf, hg, nI_1, xA_s0 (show (25 : Nat) ≠ 24 by decide), show xbit 0 = true from rfl, show xbit 1 = true from rfl, xb1_s, xb2_s, xck_1, i10, i00, i11, ↓reduceIte]
  unfold Bt Ap bB
  by_cases qa : hasB v (p / 8)
  · by_cases qb : hasB v (p % 8)
    · simp only [bI_t qa, bI_t qb, decide_eq_true qa, decide_eq_true qb]
      cases f <;> cases g <;> rfl
    · simp only [bI_t qa, bI_f qb, decide_eq_true qa, decide_eq_false qb]
      cases f <;> cases g <;> rfl
  · by_cases qb : hasB v (p % 8)
    · simp only [bI_f qa, bI_t qb, decide_eq_false qa, decide_eq_true qb]
      cases f <;> cases g <;> rfl
    · simp only [bI_f qa, bI_f qb, decide_eq_false qa, decide_eq_false qb]
      cases f <;> cases g <;> rfl
theorem m_tg73 (F : Nat) (v v1 v2 v3 : Int32) (c42 : Int32 → Int32 → xSt → Option (Int32 × xSt)) (c55 : Int32 → Int32 → Int32 → xSt → Option (Int32 × xSt)) (f g : Nat → Bool) : ∀ (fu p : Nat) (σ : xSt), p ≤ 64 → 64 < p + fu → Pr σ (fun j => f j || (decide (j < p) && Bt v j)) (fun j => g j || (decide (j < p) && Ap v j)) →
    ∃ σ', mX9_togetherOf_L73 F c42 c55 fu v1 v2 v3 v (nI p) σ = c55 v1 v2 (v3 + 1) σ' ∧ xFr [] [24, 25] σ σ' ∧ Pr σ' (fun j => f j || Bt v j) (fun j => g j || Ap v j) := by
  intro fu
  induction fu with
  | zero => intro p σ x y; omega
  | succ fu ih =>
    intro p σ h1 h2 h3
    show ∃ σ', mX9_togetherOf_S73 F c42 c55 (mX9_togetherOf_L73 F c42 c55 fu) v1 v2 v3 v (nI p) σ = _ ∧ _
    by_cases q : p = 64
    · unfold mX9_togetherOf_S73 mX9_togetherOf_L171
      rw [if_pos (show (64 : Int32) ≤ nI p from nI_le (a := 64) (by omega) (by omega))]
      refine ⟨σ, rfl, xFr_rf, fun j hj => ?_⟩
      obtain ⟨x, y⟩ := h3 j hj
      simp only [decide_eq_true (show j < p by omega), Bool.true_and] at x y
      exact ⟨x, y⟩
    · obtain ⟨x, y⟩ := h3 p (by omega)
      simp only [decide_eq_false (show ¬ (p < p) by omega), Bool.false_and, Bool.or_false] at x y
      rw [m_tg73s F p v v1 v2 v3 c42 c55 _ (f p) (g p) σ (by omega) x y]
      obtain ⟨σ', z1, z2, z3⟩ := ih (p + 1) (xsA (xsA σ 24 p (bI ((f p || Bt v p) = true))) 25 p (bI ((g p || Ap v p) = true))) (by omega) (by omega) (fun j hj => by
        rw [xA_s0 (by decide), xA_s1, xA_s1, xA_s0 (by decide)]
        unfold upd
        by_cases w : j = p
        · subst w
          rw [if_pos rfl, if_pos rfl]
          have e : decide (j < j + 1) = true := decide_eq_true (by omega)
          show bI ((f j || Bt v j) = true) = bI ((f j || (decide (j < j + 1) && Bt v j)) = true) ∧ bI ((g j || Ap v j) = true) = bI ((g j || (decide (j < j + 1) && Ap v j)) = true)
          rw [e, Bool.true_and, Bool.true_and]
          exact ⟨rfl, rfl⟩
        · rw [if_neg w, if_neg w]
          obtain ⟨x, y⟩ := h3 j hj
          have e : decide (j < p + 1) = decide (j < p) := decide_eq_decide.mpr ⟨fun _ => by omega, fun _ => by omega⟩
          show xA σ 24 j = bI ((f j || (decide (j < p + 1) && Bt v j)) = true) ∧ xA σ 25 j = bI ((g j || (decide (j < p + 1) && Ap v j)) = true)
          rw [e]
          exact ⟨x, y⟩)
      exact ⟨σ', z1, xFr_tr (xFr_tr (xFr_sA (by decide)) (xFr_sA (by decide))) z2, z3⟩
theorem MLs_a {σ σ' : xSt} {H : Hs} {L : Nat → Ly} (h : MLs σ H L) (f : xFr [] [24, 25] σ σ') : MLs σ' H L := fun t ht => by
  obtain ⟨⟨a, b, c⟩, d⟩ := h t ht
  refine ⟨⟨a, ?_, ?_⟩, d⟩
  · rw [f.2 17 (by decide)]; exact b
  · rw [f.2 18 (by decide), f.2 19 (by decide)]; exact c
theorem MD_f24 {σ σ' : xSt} {D : Dy} (h : MD σ D) (f : xFr [] [24, 25] σ σ') : MD σ' D := by
  unfold MD
  rw [f.1 20 (by simp), f.1 21 (by simp), f.1 22 (by simp), f.1 23 (by simp), f.2 11 (by decide), f.2 12 (by decide), f.2 13 (by decide), f.2 15 (by decide), f.2 16 (by decide)]
  exact h
theorem nI_m1 {j : Nat} (h : j < 2 ^ 31) : ¬ (nI j = -1) := fun q => by
  have e := congrArg Int32.toInt q
  rw [nI_toInt h] at e
  have : (-1 : Int32).toInt = -1 := by decide
  omega
theorem Pr_cg {σ : xSt} {f g f' g' : Nat → Bool} (h : Pr σ f g) (hf : ∀ p, f p = f' p) (hg : ∀ p, g p = g' p) : Pr σ f' g' := fun p hp => by
  rw [← hf, ← hg]; exact h p hp
theorem m_tg55 (F : Nat) (H : Hs) (L : Nat → Ly) (v1 v2 : Int32) (c42 : Int32 → Int32 → xSt → Option (Int32 × xSt)) (hF : 100 ≤ F) (hB : HB H) : ∀ (d fu t : Nat) (σ : xSt) (f g : Nat → Bool), t + d = hT H → d < fu → MH σ H → MLs σ H L → Pr σ f g →
    ∃ σ', mX9_togetherOf_L55 F c42 fu v1 v2 (nI t) σ = c42 v1 (v2 + 1) σ' ∧ xFr [] [24, 25] σ σ' ∧ Pr σ' (fun p => f p || (List.range' t d).any fun t => Bt (toldL (hN H t) (L t)) p) (fun p => g p || (List.range' t d).any fun t => Ap (toldL (hN H t) (L t)) p) := by
  have hb1 := hB.1
  intro d
  induction d with
  | zero =>
    intro fu t σ f g e h hM' hL hP'
    obtain ⟨fu, rfl⟩ : ∃ f, fu = f + 1 := ⟨fu - 1, by omega⟩
    show ∃ σ', mX9_togetherOf_S55 F c42 (mX9_togetherOf_L55 F c42 fu) v1 v2 (nI t) σ = _ ∧ _
    unfold mX9_togetherOf_S55 mX9_togetherOf_L177
    rw [hM'.1, if_pos (nI_le (by omega) (by omega))]
    exact ⟨σ, rfl, xFr_rf, Pr_cg hP' (fun p => by simp) (fun p => by simp)⟩
  | succ d ih =>
    intro fu t σ f g e h hM' hL hP'
    obtain ⟨fu, rfl⟩ : ∃ f, fu = f + 1 := ⟨fu - 1, by omega⟩
    show ∃ σ', mX9_togetherOf_S55 F c42 (mX9_togetherOf_L55 F c42 fu) v1 v2 (nI t) σ = _ ∧ _
    unfold mX9_togetherOf_S55
    rw [hM'.1, if_neg (nI_ge (by omega) (by omega)), m_tellsNow F t H hF hB (by omega) (L t) σ hM' (hL t (by omega)).1, xb2_s]
    obtain ⟨σ1, a1, a2, a3⟩ := m_tg73 F (toldL (hN H t) (L t)) v1 v2 (nI t) c42 (mX9_togetherOf_L55 F c42 fu) f g F 0 σ (by omega) (by omega) (Pr_cg hP' (fun p => by simp) (fun p => by simp))
    rw [show mX9_togetherOf_L73 F c42 (mX9_togetherOf_L55 F c42 fu) F v1 v2 (nI t) (toldL (hN H t) (L t)) 0 σ = _ from a1, nI_1]
    obtain ⟨σ', z1, z2, z3⟩ := ih fu (t + 1) σ1 _ _ (by omega) (by omega) (MH_fr hM' a2 (by simp) (by simp)) (MLs_a hL a2) a3
    refine ⟨σ', z1, xFr_tr a2 z2, Pr_cg z3 (fun p => ?_) (fun p => ?_)⟩
    · rw [List.range'_succ, List.any_cons, Bool.or_assoc]
    · rw [List.range'_succ, List.any_cons, Bool.or_assoc]
theorem m_tg42 (F : Nat) (H : Hs) (D : Dy) (v1 : Int32) (hF : 100 ≤ F) (hB : HB H) (h7 : ∀ x, D 7 x = 0) : ∀ (d fu h : Nat) (σ : xSt) (f g : Nat → Bool), h + d = 24 → d < fu → MH σ H → MD σ D → MLs σ H (fun t => dayL H D t h) → Pr σ f g →
    ∃ σ', mX9_togetherOf_L42 F fu v1 (nI h) σ = mX9_togetherOf_L183 F v1 σ' ∧ xFr [] [17, 18, 19, 24, 25] σ σ' ∧ Pr σ' (fun p => f p || (List.range' h d).any fun h => (List.range' 0 (hT H)).any fun t => Bt (tlv H D t h) p) (fun p => g p || (List.range' h d).any fun h => (List.range' 0 (hT H)).any fun t => Ap (tlv H D t h) p) := by
  have hb1 := hB.1
  intro d
  induction d with
  | zero =>
    intro fu h σ f g e hf hM' hD hL hP'
    obtain ⟨fu, rfl⟩ : ∃ f, fu = f + 1 := ⟨fu - 1, by omega⟩
    show ∃ σ', mX9_togetherOf_S42 F (mX9_togetherOf_L42 F fu) v1 (nI h) σ = _ ∧ _
    unfold mX9_togetherOf_S42
    rw [if_pos (show (24 : Int32) ≤ nI h from nI_le (a := 24) (by omega) (by omega))]
    exact ⟨σ, rfl, xFr_rf, Pr_cg hP' (fun p => by simp) (fun p => by simp)⟩
  | succ d ih =>
    intro fu h σ f g e hf hM' hD hL hP'
    obtain ⟨fu, rfl⟩ : ∃ f, fu = f + 1 := ⟨fu - 1, by omega⟩
    show ∃ σ', mX9_togetherOf_S42 F (mX9_togetherOf_L42 F fu) v1 (nI h) σ = _ ∧ _
    unfold mX9_togetherOf_S42
    obtain ⟨σ1, b1, b2, b3⟩ := m_goesBy F h H D hF (by omega) hB σ (fun t => dayL H D t h) hM' hD hL (fun q => by rw [h7 h] at q; omega)
    rw [if_neg (show ¬ ((24 : Int32) ≤ nI h) from nI_ge (b := 24) (by omega) (by omega)), b1, xb1_s]
    have hM1 := MH_l hM' b2
    have hP1 : Pr σ1 f g := fun p hp => by rw [b2.2 24 (by decide), b2.2 25 (by decide)]; exact hP' p hp
    obtain ⟨σ2, c1, c2, c3⟩ := m_tg55 F H (fun t => dayL H D t (h + 1)) v1 (nI h) (mX9_togetherOf_L42 F fu) hF hB (hT H) F 0 σ1 f g (by omega) (by omega) hM1 b3 hP1
    rw [show mX9_togetherOf_L55 F (mX9_togetherOf_L42 F fu) F v1 (nI h) 0 σ1 = _ from c1, nI_1]
    have fr : xFr [] [17, 18, 19, 24, 25] σ σ2 := xFr_tr (xFr_mono b2 (by simp) (by simp)) (xFr_mono c2 (by simp) (by simp))
    have hD2 : MD σ2 D := MD_f24 (MD_l hD b2) c2
    obtain ⟨σ', z1, z2, z3⟩ := ih fu (h + 1) σ2 _ _ (by omega) (by omega) (MH_fr hM1 c2 (by simp) (by simp)) hD2 (MLs_a b3 c2) c3
    refine ⟨σ', z1, xFr_tr fr z2, Pr_cg z3 (fun p => ?_) (fun p => ?_)⟩
    · rw [List.range'_succ, List.any_cons, Bool.or_assoc]; rfl
    · rw [List.range'_succ, List.any_cons, Bool.or_assoc]; rfl
def kv (s : Nat → Bool) (v : Int32) : Nat → Int32
  | 0 => -1
  | n + 1 => if s n && decide (nI (fb_ct s n) = v) then nI n else kv s v n
theorem kv_kth {s : Nat → Bool} {i : Nat} (hi : i < 2 ^ 31) : ∀ n, n ≤ 64 → kv s (nI i) n = kth s i n
  | 0, _ => rfl
  | n + 1, h => by
    have := fb_ct_le s n
    show (if s n && decide (nI (fb_ct s n) = nI i) then nI n else kv s (nI i) n) = (if s n && decide (fb_ct s n = i) then nI n else kth s i n)
    rw [kv_kth hi n (by omega), decide_eq_decide.mpr (Iff.of_eq (nI_eqL i (show fb_ct s n < 2 ^ 31 by omega) hi))]
theorem m_tg190 (F : Nat) (v1 : Int32) (f g : Nat → Bool) (σ : xSt) (hP' : Pr σ f g) : ∀ (fu n : Nat), n ≤ 64 → 64 < n + fu →
    mX9_togetherOf_L190 F fu v1 (nI (fb_ct (fun p => decide (p / 8 < p % 8) && f p && !g p) n)) (kv (fun p => decide (p / 8 < p % 8) && f p && !g p) v1 n) (nI n) σ = some (if v1 = -1 then nI (fb_ct (fun p => decide (p / 8 < p % 8) && f p && !g p) 64) else kv (fun p => decide (p / 8 < p % 8) && f p && !g p) v1 64, σ) := by
  generalize hs : (fun p => decide (p / 8 < p % 8) && f p && !g p) = s
  have hs' : ∀ p, s p = (decide (p / 8 < p % 8) && f p && !g p) := fun p => by rw [← hs]
  intro fu
  induction fu with
  | zero => intro n a b; omega
  | succ fu ih =>
    intro n a b
    show mX9_togetherOf_S190 F (mX9_togetherOf_L190 F fu) v1 (nI (fb_ct s n)) (kv s v1 n) (nI n) σ = _
    unfold mX9_togetherOf_S190
    by_cases q : n = 64
    · subst q
      rw [if_pos (by decide)]
      unfold mX9_togetherOf_L273 mX9_togetherOf_L283
      by_cases w : v1 = -1
      · rw [if_pos w, if_pos w]
      · rw [if_neg w, if_neg w]
    · have e1 := xin_nI (show n < 64 by omega) (show (64 : Nat) < 2 ^ 31 by decide)
      have e2 : nI n / 8 = nI (n / 8) := pk_div (d := 8) (by omega) (by decide) (by decide)
      have e3 : nI n - nI (n / 8) * 8 = nI (n % 8) := by
        rw [← e2]
        exact pk_rem (d := 8) (by omega) (by decide) (by decide)
      obtain ⟨x, y⟩ := hP' n (by omega)
      rw [if_neg (show ¬ ((64 : Int32) ≤ nI n) from nI_ge (b := 64) (by omega) (by omega)), ← ih (n + 1) (by omega) (by omega)]
      have k1 : fb_ct s (n + 1) = fb_ct s n + (if s n then 1 else 0) := fb_ct_succ s n
      have k2 : kv s v1 (n + 1) = if s n && decide (nI (fb_ct s n) = v1) then nI n else kv s v1 n := rfl
      unfold mX9_togetherOf_L234 mX9_togetherOf_L235 mX9_togetherOf_L252 mX9_togetherOf_L253 mX9_togetherOf_L265
      simp only [e2, e3, e1, show xnzI 8 = true from rfl, nI_clamp (show n < 2 ^ 31 by omega), x, y, nI_1, xb1_s, xb2_s, xck_1, i10, i00, i11, ↓reduceIte]
      rw [k1, k2, hs' n]
      by_cases q1 : n / 8 < n % 8
      · rw [if_neg (nI_ge q1 (by omega)), decide_eq_true q1]
        cases qf : f n with
        | false => simp [bI]
        | true =>
          cases qg : g n with
          | true => simp [bI]
          | false =>
            by_cases w : nI (fb_ct s n) = v1
            · simp [bI, w]
            · simp [bI, w]
      · rw [if_pos (nI_le (by omega) (by omega)), decide_eq_false q1]
        simp
theorem p_together (F : Nat) (hF : 5000 ≤ F) : zP_together F Rel := by
  intro σc σm hR v
  obtain ⟨H, D, hH⟩ := Hse_of hR
  have hB := hH.1
  have hb1 := hB.1
  unfold mX8_together mX9_together mX9_together_L20 mX8_together_L11
  simp only [m_in, rngM_eq (N := 27) (v := v) (hi := 27) (top := 28) (by decide) (by decide), xb1_s, xb2_s, xck_1, i10, i00, i11, ↓reduceIte]
  by_cases h1 : v < -1
  · rw [if_pos h1, bI_f (fun w => w.1 h1), if_pos rfl]
    exact ⟨_, _, _, rfl, rfl, hR⟩
  · by_cases h2 : v < 28
    · rw [if_neg h1, if_pos h2, bI_t ⟨h1, h2⟩, if_neg (by decide)]
      obtain ⟨σc1, b1, b2⟩ := c_insep F (by omega) hH
      obtain ⟨_, hC, hD, hT', hR', h7, h8⟩ := hH
      obtain ⟨σ1, a1, a2, a3⟩ := m_reads F (by omega) hT'
      obtain ⟨σ2, c1, c2, c3, c4⟩ := m_asTold F a2 (MR_fr hR' a3) h7 h8
      obtain ⟨σ3, d1, d2, d3⟩ := m_begins F H (by omega) hB σ2
      obtain ⟨σ4, e1, e2, e3⟩ := m_tg14 F v F 0 σ3 (by omega) (by omega) (fun p hp => by omega)
      have fm : xFr mI mA σm σ4 := xFr_tr (xFr_tr (xFr_tr a3 c4) (xFr_mono d2 (by simp) (by simp))) (xFr_mono e2 (by simp) (by simp))
      have hM4 : MH σ4 H := MH_fr (MH_l c3 d2) e2 (by simp) (by simp)
      obtain ⟨σ5, g1, g2, g3⟩ := m_tg42 F H D v (by omega) hB h7 24 F 0 σ4 _ _ (by omega) (by omega) hM4 (MD_f24 (MD_l c2 d2) e2) (MLs_a d3 e2) e3
      have k := m_tg190 F v _ _ σ5 g3 F 0 (by omega) (by omega)
      have es : ∀ p, p < 64 → (tgZ H D).testBit p = (decide (p / 8 < p % 8) && (false || (List.range' 0 24).any fun h => (List.range' 0 (hT H)).any fun t => Bt (tlv H D t h) p) && !(false || (List.range' 0 24).any fun h => (List.range' 0 (hT H)).any fun t => Ap (tlv H D t h) p)) := fun p hp => by
        rw [tgZ_tb, Bool.false_or, Bool.false_or]
        unfold tgB
        rw [decide_eq_true hp, Bool.and_true]
        rfl
      rw [← fb_ct_cg 64 es] at k
      unfold mX9_togetherOf
      rw [b1, xb2_s, a1, xb1_s, c1, xb1_s, d1, xb1_s, show mX9_togetherOf_L14 F F v 0 σ3 = _ from e1]
      unfold mX9_togetherOf_L40
      rw [show mX9_togetherOf_L42 F F v 0 σ4 = _ from g1]
      unfold mX9_togetherOf_L183
      rw [show mX9_togetherOf_L190 F F v 0 (-1) 0 σ5 = _ from k, xb2_s]
      have fm5 : xFr mI mA σm σ5 := xFr_tr fm (xFr_mono g2 (by simp) (by simp))
      rcases rngM_c (N := 28) (by omega) (by decide) h1 h2 with rfl | ⟨j, hj, rfl⟩
      · rw [if_pos rfl, if_pos rfl, c_bitCountL F (tgZ H D) (tgZ_lt H D), xb2_s]
        exact ⟨_, _, _, rfl, rfl, Rel_cm hR b2 fm5⟩
      · have hz := tgZ_lt H D
        rw [if_neg (nI_m1 (by omega)), if_neg (nI_m1 (by omega)), kv_kth (by omega) 64 (by omega), ← kth_cg 64 es, show mX8_together_L38 F F (lN (tgZ H D)) (nI j) 0 σc1 = _ from c_kthL F (tgZ H D) j (by omega) (by omega) σc1 F 0 (by omega) (by omega) (Nat.zero_le _)]
        exact ⟨_, _, _, rfl, rfl, Rel_cm hR b2 fm5⟩
    · rw [if_neg h1, if_neg h2, bI_f (fun w => h2 w.2), if_pos rfl]
      exact ⟨_, _, _, rfl, rfl, hR⟩
