theorem m_copyL1 (F s a t c b : Nat) (hs : s < 4) (ha : a + b ≤ 60) : ∀ (n i : Nat) (σ : xSt), i ≤ b → b + 1 ≤ i + n → ∃ σ', mX9_copy_L120 F n (nI s) (nI a) (nI t) (nI c) (nI b) (nI i) σ = mX9_copy_L154 F (nI t) (nI c) (nI b) σ' ∧ xFr [] [36] σ σ' ∧ ∀ j, xA σ' 36 j = if i ≤ j ∧ j < b then xA σ 35 (60 * s + a + j) else xA σ 36 j := by
  intro n
  induction n with
  | zero => intro i σ h1 h2; omega
  | succ n ih =>
    intro i σ h1 h2
    show ∃ σ', mX9_copy_S120 F (mX9_copy_L120 F n) (nI s) (nI a) (nI t) (nI c) (nI b) (nI i) σ = _ ∧ _
    unfold mX9_copy_S120
    by_cases h : i = b
    · subst h
      rw [if_pos (nI_le (by omega) (by omega))]
      exact ⟨σ, rfl, xFr_rf, fun j => by rw [if_neg (by omega)]⟩
    · have e : (60 : Int32) * nI s + nI a + nI i = nI (60 * s + a + i) := by show nI 60 * nI s + nI a + nI i = _; rw [pk_mul, nI_add, nI_add]
      rw [if_neg (nI_ge (by omega) (by omega)), e, xck_in (by omega) (by omega), xck_in (by omega) (by omega), nI_1, nI_clamp (by omega), nI_clamp (by omega)]
      obtain ⟨σ', q1, q2, q3⟩ := ih (i + 1) (xsA σ 36 i (xA σ 35 (60 * s + a + i))) (by omega) (by omega)
      refine ⟨σ', q1, xFr_tr (xFr_sA (by decide)) q2, fun j => ?_⟩
      rw [q3 j, xA_s1, upd_e, xA_s0 (by decide)]
      by_cases q : j = i
      · subst q; rw [if_neg (by omega), if_pos rfl, if_pos (by omega)]
      · by_cases z : i ≤ j ∧ j < b
        · rw [if_pos (by omega), if_pos z]
        · rw [if_neg (by omega), if_neg q, if_neg z]
theorem m_copyL2 (F t c b : Nat) (ht : t < 4) (hc : c + b ≤ 60) : ∀ (n i : Nat) (σ : xSt), i ≤ b → b + 1 ≤ i + n → xOk (mX9_copy_L157 F n (nI t) (nI c) (nI b) (nI i) σ) (fun q => q.1 = 1 ∧ xFr [] [35] σ q.2 ∧ ∀ j, xA q.2 35 j = if 60 * t + c + i ≤ j ∧ j < 60 * t + c + b then xA σ 36 (j - (60 * t + c)) else xA σ 35 j) := by
  intro n
  induction n with
  | zero => intro i σ h1 h2; omega
  | succ n ih =>
    intro i σ h1 h2
    show xOk (mX9_copy_S157 F (mX9_copy_L157 F n) (nI t) (nI c) (nI b) (nI i) σ) _
    unfold mX9_copy_S157
    by_cases h : i = b
    · subst h
      refine xOk_t (nI_le (by omega) (by omega)) ?_
      exact xOk_ret ⟨rfl, xFr_rf, fun j => by rw [if_neg (by omega)]⟩
    · refine xOk_f (nI_ge (by omega) (by omega)) ?_
      have e : (60 : Int32) * nI t + nI c + nI i = nI (60 * t + c + i) := by show nI 60 * nI t + nI c + nI i = _; rw [pk_mul, nI_add, nI_add]
      rw [e, xck_in (by omega) (by omega), xck_in (by omega) (by omega), nI_1, nI_clamp (by omega), nI_clamp (by omega)]
      refine xOk_mono (ih (i + 1) _ (by omega) (by omega)) (fun q h => ⟨h.1, xFr_tr (xFr_sA (by decide)) h.2.1, fun j => ?_⟩)
      rw [h.2.2 j, xA_s1, upd_e, xA_s0 (by decide)]
      by_cases q : j = 60 * t + c + i
      · subst q
        rw [if_neg (by omega), if_pos rfl, if_pos (by omega), show 60 * t + c + i - (60 * t + c) = i by omega]
      · by_cases z : 60 * t + c + i ≤ j ∧ j < 60 * t + c + b
        · rw [if_pos (by omega), if_pos z]
        · rw [if_neg (by omega), if_neg q, if_neg z]
theorem c_lacksRun (F k n : Nat) (hn : n ≤ 60) (i v : Int32) (hv : ¬ v < 0) (σ : xSt) (h : xI σ (24 + k) = nI n) : ∃ z : Prop, ∃ _ : Decidable z, mX5_lacksRun F k i v σ = some (bI (¬ z), σ) ∧ (z ↔ ∃ a b, i = nI a ∧ v = nI b ∧ a + b ≤ n) := by
  obtain ⟨b, hb, rfl⟩ := nI_of hv
  unfold mX5_lacksRun mX5_lacksRun_L22 mX5_lacksRun_L27
  rw [h]
  by_cases h1 : i < 0
  · refine ⟨False, inferInstance, by rw [if_pos h1]; rfl, ⟨False.elim, fun ⟨a, b, q, _, _⟩ => ?_⟩⟩
    subst q
    have : a < 2 ^ 31 := by omega
    exact absurd h1 (nI_pos this)
  · obtain ⟨a, ha, rfl⟩ := nI_of h1
    rw [if_neg h1]
    by_cases h2 : nI n < nI a
    · refine ⟨False, inferInstance, by rw [if_pos h2]; rfl, ⟨False.elim, fun ⟨a', b', q1, _, q3⟩ => ?_⟩⟩
      have := (nI_eq ha (by omega)).mp q1
      exact absurd h2 (nI_nlt (by omega) (by omega))
    · have han : a ≤ n := Nat.not_lt.mp (fun q => h2 (nI_lt q ha))
      rw [if_neg h2, pk_sub han]
      by_cases h3 : nI b ≤ nI (n - a)
      · have h4 := (nI_leI hb (by omega)).mp h3
        refine ⟨True, inferInstance, by rw [if_pos h3]; rfl, ⟨fun _ => ⟨a, b, rfl, rfl, by omega⟩, fun _ => trivial⟩⟩
      · refine ⟨False, inferInstance, by rw [if_neg h3]; rfl, ⟨False.elim, fun ⟨a', b', q1, q2, q3⟩ => ?_⟩⟩
        have e1 := (nI_eq ha (by omega)).mp q1
        have e2 := (nI_eq hb (by omega)).mp q2
        exact h3 (nI_le (by omega) (by omega))
