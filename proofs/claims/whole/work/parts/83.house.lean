theorem m_readsText (F k n : Nat) (hF : 100 ≤ F) (B : Nat → Nat) (σ : xSt) (hk : k < 2) (hn : n ≤ lnB k) (hB : ∀ j, j < n → B j < 256) (h : MText σ k n B) :
    ∃ σ', mX9_readsText F (nI k) σ = some (optI (pFault k B n), σ') ∧ MEnt σ' k n B ∧ xFr [2 + 4 * k] [3 + 4 * k, 4 + 4 * k, 5 + 4 * k] σ σ' := by
  have h31 := lnB_le hk
  obtain ⟨σ', w1, w2, w3⟩ := m_readsL F k n B hk hn hB F 0 (xsI σ (2 + 4 * k) 0) (by omega) (by omega) h (fun z hz => by omega) (by rw [xI_sI, if_pos rfl]) (fun z hz => by omega)
  refine ⟨σ', ?_, w2, xFr_tr (xFr_sI (by simp)) w3⟩
  rw [← w1]
  unfold mX9_readsText mX9_readsText_L11 mX9_readsText_L30 mX9_readsText_L47
  rcases (show k = 0 ∨ k = 1 by omega) with rfl | rfl
  · rw [if_pos (show nI 0 = 0 from rfl), if_pos (show nI 0 = 0 from rfl), if_neg (show ¬ (nI 0 = 1) by decide), xsI_id]; rfl
  · rw [if_neg (show ¬ (nI 1 = 0) by decide), if_neg (show ¬ (nI 1 = 0) by decide), if_pos (show nI 1 = 1 from rfl), xsI_id]; rfl
/-! what both know of the house: 0 things, 1 keeps, 2 nose, 3 under, 4 people, 5 strong, 6 fast, 7 smell -/
abbrev Hs : Type := Nat → Nat → Nat
def hT (H : Hs) : Nat := H 0 0
def hK (H : Hs) : Nat → Nat := H 1
def hN (H : Hs) : Nat → Nat := H 2
def hU (H : Hs) : Nat → Nat := H 3
def hP (H : Hs) : Nat := H 4 0
def hS (H : Hs) : Nat → Nat := H 5
def hQ (H : Hs) : Nat → Nat := H 6
def hM (H : Hs) : Nat → Nat := H 7
def HB (H : Hs) : Prop := hT H ≤ 6 ∧ hP H ≤ 8 ∧ (∀ e, e < hT H → (1 ≤ hK H e ∧ hK H e ≤ 5) ∧ (1 ≤ hN H e ∧ hN H e ≤ 5) ∧ hU H e ≤ 1) ∧ ∀ p, p < hP H → (1 ≤ hS H p ∧ hS H p ≤ 9) ∧ hQ H p ≤ 9 ∧ hM H p < hP H
def CH (σ : xSt) (H : Hs) : Prop := xI σ 12 = nI (hT H) ∧ (∀ e, e < hT H → xA σ 8 e = nI (hK H e) ∧ xA σ 10 e = nI (hN H e) ∧ xA σ 12 e = nI (hU H e)) ∧ xI σ 13 = nI (hP H) ∧ ∀ p, p < hP H → xA σ 9 p = nI (hS H p) ∧ xA σ 11 p = nI (hQ H p) ∧ xA σ 13 p = nI (hM H p)
def MH (σ : xSt) (H : Hs) : Prop := xI σ 2 = nI (hT H) ∧ (∀ e, e < hT H → xA σ 3 e = nI (hK H e) ∧ xA σ 4 e = nI (hN H e) ∧ xA σ 5 e = nI (hU H e)) ∧ xI σ 6 = nI (hP H) ∧ ∀ p, p < hP H → xA σ 7 p = nI (hS H p) ∧ xA σ 8 p = nI (hQ H p) ∧ (if 0 ≤ xA σ 9 p ∧ xA σ 9 p ≤ nI (hP H) - 1 then xA σ 9 p else nI p) = nI (hM H p)
theorem CH_fr {σ σ' : xSt} {H : Hs} (h : CH σ H) (h1 : xI σ' 12 = xI σ 12) (h2 : xI σ' 13 = xI σ 13) (h3 : ∀ a, 8 ≤ a → a ≤ 13 → xA σ' a = xA σ a) : CH σ' H := by
  unfold CH
  rw [h1, h2, h3 8 (by omega) (by omega), h3 9 (by omega) (by omega), h3 10 (by omega) (by omega), h3 11 (by omega) (by omega), h3 12 (by omega) (by omega), h3 13 (by omega) (by omega)]
  exact h
theorem MH_fr {σ σ' : xSt} {H : Hs} (h : MH σ H) {I A : List Nat} (hf : xFr I A σ σ') (hI : ∀ j, j ∈ I → 10 ≤ j) (hA : ∀ j, j ∈ A → 10 ≤ j) : MH σ' H := by
  have a : ∀ j, j < 10 → xA σ' j = xA σ j := fun j hj => hf.2 j (fun q => by have := hA j q; omega)
  have b : ∀ j, j < 10 → xI σ' j = xI σ j := fun j hj => hf.1 j (fun q => by have := hI j q; omega)
  unfold MH
  rw [a 3 (by omega), a 4 (by omega), a 5 (by omega), a 7 (by omega), a 8 (by omega), a 9 (by omega), b 2 (by omega), b 6 (by omega)]
  exact h
def mkH (n0 : Nat) (B0 : Nat → Nat) (n1 : Nat) (B1 : Nat → Nat) : Hs := fun i e => match i with
  | 0 => pEnt 0 B0 n0
  | 1 => B0 (4 * e) - 48
  | 2 => B0 (4 * e + 1) - 48
  | 3 => pThird 0 B0 n0 e
  | 4 => pEnt 1 B1 n1
  | 5 => B1 (4 * e) - 48
  | 6 => B1 (4 * e + 1) - 48
  | _ => pThird 1 B1 n1 e
theorem pOK_0z {b : Nat} (h : pOK 0 b 0 = true) : 49 ≤ b ∧ b ≤ 53 := by
  unfold pOK at h
  simp only [↓reduceIte, Bool.and_eq_true, decide_eq_true_eq] at h; omega
theorem pOK_1z {b : Nat} (h : pOK 0 b 1 = true) : 49 ≤ b ∧ b ≤ 53 := by
  unfold pOK at h
  simp only [↓reduceIte, Bool.and_eq_true, decide_eq_true_eq, show ¬ (1 = 0) from by decide] at h; omega
theorem pEnt_at {k n e : Nat} {B : Nat → Nat} (he : e < pEnt k B n) : pOK k (B (4 * e)) 0 = true ∧ pOK k (B (4 * e + 1)) 1 = true ∧ pOK k (B (4 * e + 2)) 2 = true := by
  obtain ⟨a, b, c, d⟩ := pEnt_ok he
  have a0 := a (4 * e) (by omega)
  have a1 := a (4 * e + 1) (by omega)
  have a2 := a (4 * e + 2) (by omega)
  rw [show (4 * e) % 4 = 0 by omega] at a0
  rw [show (4 * e + 1) % 4 = 1 by omega] at a1
  rw [show (4 * e + 2) % 4 = 2 by omega] at a2
  exact ⟨a0, a1, a2⟩
theorem pEnt_le {k n : Nat} {B : Nat → Nat} : pEnt k B n ≤ (n + 1) / 4 := by
  unfold pEnt
  by_cases q : (pFault k B n).isNone
  · rw [if_pos q]; exact Nat.le_refl _
  · rw [if_neg q]; omega
theorem mkH_B {n0 n1 : Nat} {B0 B1 : Nat → Nat} (h0 : n0 ≤ 23) (h1 : n1 ≤ 31) : HB (mkH n0 B0 n1 B1) := by
  have l0 := @pEnt_le 0 n0 B0
  have l1 := @pEnt_le 1 n1 B1
  refine ⟨show pEnt 0 B0 n0 ≤ 6 by omega, show pEnt 1 B1 n1 ≤ 8 by omega, fun e he => ?_, fun e he => ?_⟩
  · obtain ⟨a, b, c⟩ := pEnt_at he
    have a' := pOK_0z a
    have b' := pOK_1z b
    refine ⟨show 1 ≤ B0 (4 * e) - 48 ∧ B0 (4 * e) - 48 ≤ 5 by omega, show 1 ≤ B0 (4 * e + 1) - 48 ∧ B0 (4 * e + 1) - 48 ≤ 5 by omega, ?_⟩
    show pThird 0 B0 n0 e ≤ 1
    unfold pThird
    rw [if_pos rfl]
    split <;> omega
  · obtain ⟨a, b, c⟩ := pEnt_at he
    have a' := pOK_0 a
    have b' := pOK_1 b
    refine ⟨show 1 ≤ B1 (4 * e) - 48 ∧ B1 (4 * e) - 48 ≤ 9 by omega, show B1 (4 * e + 1) - 48 ≤ 9 by omega, ?_⟩
    show pThird 1 B1 n1 e < pEnt 1 B1 n1
    unfold pThird
    rw [if_neg (by decide)]
    split
    · omega
    · exact he
theorem m_soap (b e m : Nat) (hm : m ≤ 100) (hok : b = 46 ∨ (97 ≤ b ∧ b ≤ 104)) : (if 0 ≤ mThird 1 b ∧ mThird 1 b ≤ nI m - 1 then mThird 1 b else nI e) = nI (if 97 ≤ b ∧ b - 97 < m then b - 97 else e) := by
  unfold mThird
  rw [if_neg (show ¬ (1 = 0) by decide)]
  rcases hok with rfl | ⟨h1, h2⟩
  · rw [if_pos (show 46 = 46 from rfl), if_neg (fun q => absurd q.1 (by decide)), if_neg (by omega)]
  · rw [if_neg (show ¬ (b = 46) by omega)]
    by_cases q : b - 97 < m
    · have e1 : nI m - 1 = nI (m - 1) := pk_sub (b := 1) (by omega)
      rw [e1, if_pos ⟨nI_le (a := 0) (by omega) (by omega), nI_le (by omega) (by omega)⟩, if_pos ⟨h1, q⟩]
    · rw [if_neg (c := 97 ≤ b ∧ b - 97 < m) (by omega), if_neg]
      rintro ⟨_, z⟩
      rcases (show m = 0 ∨ 0 < m by omega) with rfl | h3
      · exact absurd (Int32.le_trans (nI_le (a := 0) (b := b - 97) (by omega) (by omega)) z) (by decide)
      · have e1 : nI m - 1 = nI (m - 1) := pk_sub (b := 1) (by omega)
        rw [e1] at z
        exact absurd z (nI_ge (by omega) (by omega))
