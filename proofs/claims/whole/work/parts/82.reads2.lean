theorem xsI_id (σ : xSt) (k : Nat) : xsI σ k (xI σ k) = σ := by
  unfold xsI xI
  have : (fun j => if j = k then σ.1 k else σ.1 j) = σ.1 := funext (fun j => by
    by_cases h : j = k
    · rw [if_pos h, h]
    · rw [if_neg h])
  rw [this]
def MEnt (σ : xSt) (k n : Nat) (B : Nat → Nat) : Prop := xI σ (2 + 4 * k) = nI (pEnt k B n) ∧ ∀ z, z < pEnt k B n → xA σ (3 + 4 * k) z = nI (B (4 * z) - 48) ∧ xA σ (4 + 4 * k) z = nI (B (4 * z + 1) - 48) ∧ xA σ (5 + 4 * k) z = mThird k (B (4 * z + 2))
theorem pEnt_n {k n j : Nat} {B : Nat → Nat} (h : pFault k B n = some j) : pEnt k B n = 0 := by unfold pEnt; rw [h]; rfl
theorem pEnt_s {k n : Nat} {B : Nat → Nat} (h : pFault k B n = none) : pEnt k B n = (n + 1) / 4 := by unfold pEnt; rw [h]; rfl
theorem MEnt_z {σ : xSt} {k n j : Nat} {B : Nat → Nat} (h : pFault k B n = some j) (h0 : xI σ (2 + 4 * k) = 0) : MEnt σ k n B := ⟨by rw [pEnt_n h]; exact h0, fun z hz => by rw [pEnt_n h] at hz; omega⟩
theorem MText_A {σ σ' : xSt} {k n : Nat} {B : Nat → Nat} (h : MText σ k n B) {I A : List Nat} (hf : xFr I A σ σ') (h0 : (0 : Nat) ∉ A) (h1 : (1 : Nat) ∉ A) : MText σ' k n B := MText_fr h (hf.2 0 h0) (hf.2 1 h1)
theorem roSt_fr {σ : xSt} {k e i : Nat} {B : Nat → Nat} : xFr [2 + 4 * k] [3 + 4 * k, 4 + 4 * k, 5 + 4 * k] σ (roSt σ k e i B) := xFr_tr (xFr_tr (xFr_sA (by simp)) (xFr_sA (by simp))) (xFr_sA (by simp))
theorem m_readsL (F k n : Nat) (B : Nat → Nat) (hk : k < 2) (hn : n ≤ lnB k) (hB : ∀ j, j < n → B j < 256) :
    ∀ (fu e : Nat) (σ : xSt), 4 * e ≤ n → n < 4 * e + 4 * fu → MText σ k n B → (∀ z, z < 4 * e → pOK k (B z) (z % 4) = true) → xI σ (2 + 4 * k) = 0 →
    (∀ z, z < e → xA σ (3 + 4 * k) z = nI (B (4 * z) - 48) ∧ xA σ (4 + 4 * k) z = nI (B (4 * z + 1) - 48) ∧ xA σ (5 + 4 * k) z = mThird k (B (4 * z + 2))) →
    ∃ σ', mX9_readsText_L50 F fu (nI k) (nI (6 + 2 * k)) (nI e) (nI (4 * e)) σ = some (optI (pFault k B n), σ') ∧ MEnt σ' k n B ∧ xFr [2 + 4 * k] [3 + 4 * k, 4 + 4 * k, 5 + 4 * k] σ σ' := by
  have h31 := lnB_le hk
  have hlb : lnB k + 1 = 4 * (6 + 2 * k) := by rcases (show k = 0 ∨ k = 1 by omega) with rfl | rfl <;> rfl
  intro fu
  induction fu with
  | zero => intro e σ a b; omega
  | succ fu ih =>
    intro e σ a b ht hz h0 hE
    show ∃ σ', mX9_readsText_S50 F (mX9_readsText_L50 F fu) (nI k) (nI (6 + 2 * k)) (nI e) (nI (4 * e)) σ = some (optI (pFault k B n), σ') ∧ _
    have entry : mX9_readsText_S50 F (mX9_readsText_L50 F fu) (nI k) (nI (6 + 2 * k)) (nI e) (nI (4 * e)) σ = (if n = 0 then some ((-1), σ) else mX9_readsText_L66 F (mX9_readsText_L50 F fu) (nI k) (nI (6 + 2 * k)) (nI e) (nI (4 * e)) σ) := by
      unfold mX9_readsText_S50 mX9_readsText_L170
      simp only [xin_nI (show k < 2 by omega) (by omega), nI_clamp (show k < 2 ^ 31 by omega), ht.1, nI_le0 (show 4 * e < 2 ^ 31 by omega), xb1_s, xb2_s, xck_1, i10, i00, i11, ↓reduceIte]
      by_cases q : 4 * e < n
      · rw [if_pos (nI_lt q (by omega)), if_neg (by omega)]
      · rw [if_neg (nI_nlt (by omega) (by omega))]
        by_cases q2 : n = 0
        · rw [if_pos (by omega), if_pos q2]
        · rw [if_neg (by omega), if_neg q2]
    rw [entry]
    by_cases n0 : n = 0
    · rw [if_pos n0]
      have hp : pFault k B n = none := by rw [pF_end (fun z hz => by omega), if_pos (Or.inl n0)]
      exact ⟨σ, by rw [hp]; rfl, ⟨by rw [pEnt_s hp, n0]; exact h0, fun z hz => by rw [pEnt_s hp] at hz; omega⟩, xFr_rf⟩
    · rw [if_neg n0]
      unfold mX9_readsText_L66
      rw [if_neg (by rw [nI_eq (by omega) (by omega)]; omega)]
      obtain ⟨r0, r1, r2, r3⟩ := m_readsOne F k n e (4 * e) B σ hk (by omega) (by omega) (by omega) hB ht
      have stop : ∀ pl, pl < 3 → (∀ z, z < pl → okAt k n B (4 * e) z) → ¬ okAt k n B (4 * e) pl → pFault k B n = some (4 * e + pl) := by
        intro pl hp ho hno
        have hle : 4 * e + pl ≤ n := by
          rcases (show pl = 0 ∨ 0 < pl by omega) with q | q
          · omega
          · have := (ho (pl - 1) (by omega)).1; omega
        have hz2 : ∀ z, z < 4 * e + pl → pOK k (B z) (z % 4) = true := by
          intro z hzz
          by_cases q : z < 4 * e
          · exact hz z q
          · have := (ho (z - 4 * e) (by omega)).2
            rw [show 4 * e + (z - 4 * e) = z by omega, show z - 4 * e = z % 4 by omega] at this
            exact this
        by_cases q : 4 * e + pl < n
        · refine pF_bad q hz2 ?_
          cases w : pOK k (B (4 * e + pl)) ((4 * e + pl) % 4) with
          | false => rfl
          | true => exact absurd ⟨q, by rw [show (4 * e + pl) % 4 = pl by omega] at w; exact w⟩ hno
        · rw [pF_end (fun z hzz => hz2 z (by omega)), if_neg (by omega)]
          congr 1; omega
      have fin : ∀ pl, pl < 3 → pFault k B n = some (4 * e + pl) → ∃ σ', mX9_readsText_L83 F (mX9_readsText_L50 F fu) (nI k) (nI (6 + 2 * k)) (nI e) (nI (4 * e)) (nI pl) σ = some (optI (pFault k B n), σ') ∧ MEnt σ' k n B ∧ xFr [2 + 4 * k] [3 + 4 * k, 4 + 4 * k, 5 + 4 * k] σ σ' := by
        intro pl hp hf
        refine ⟨σ, ?_, MEnt_z hf h0, xFr_rf⟩
        unfold mX9_readsText_L83 mX9_readsText_L91
        rw [if_neg (show ¬ ((3 : Int32) ≤ nI pl) from nI_ge (b := 3) hp (by omega)), hf, nI_add]; rfl
      by_cases o0 : okAt k n B (4 * e) 0
      · by_cases o1 : okAt k n B (4 * e) 1
        · by_cases o2 : okAt k n B (4 * e) 2
          · rw [r3 o0 o1 o2, xb2_s]
            have hz3 : ∀ z, z < 4 * e + 3 → pOK k (B z) (z % 4) = true := by
              intro z hzz
              by_cases q : z < 4 * e
              · exact hz z q
              · rcases (show z = 4 * e + 0 ∨ z = 4 * e + 1 ∨ z = 4 * e + 2 by omega) with q | q | q
                · rw [q, show (4 * e + 0) % 4 = 0 by omega]; exact o0.2
                · rw [q, show (4 * e + 1) % 4 = 1 by omega]; exact o1.2
                · rw [q, show (4 * e + 2) % 4 = 2 by omega]; exact o2.2
            have hE' : ∀ z, z < e + 1 → xA (roSt σ k e (4 * e) B) (3 + 4 * k) z = nI (B (4 * z) - 48) ∧ xA (roSt σ k e (4 * e) B) (4 + 4 * k) z = nI (B (4 * z + 1) - 48) ∧ xA (roSt σ k e (4 * e) B) (5 + 4 * k) z = mThird k (B (4 * z + 2)) := by
              intro z hzz
              unfold roSt
              rw [xA_s0 (show 3 + 4 * k ≠ 5 + 4 * k by omega), xA_s0 (show 3 + 4 * k ≠ 4 + 4 * k by omega), xA_s1, xA_s0 (show 4 + 4 * k ≠ 5 + 4 * k by omega), xA_s1, xA_s0 (show 4 + 4 * k ≠ 3 + 4 * k by omega), xA_s1, xA_s0 (show 5 + 4 * k ≠ 4 + 4 * k by omega), xA_s0 (show 5 + 4 * k ≠ 3 + 4 * k by omega), upd_e, upd_e, upd_e]
              by_cases q : z = e
              · subst q; rw [if_pos rfl, if_pos rfl, if_pos rfl]; exact ⟨rfl, rfl, rfl⟩
              · rw [if_neg q, if_neg q, if_neg q]; exact hE z (by omega)
            have ht' : MText (roSt σ k e (4 * e) B) k n B := MText_A ht roSt_fr (by simp <;> omega) (by simp <;> omega)
            have h0' : xI (roSt σ k e (4 * e) B) (2 + 4 * k) = 0 := h0
            unfold mX9_readsText_L83
            have e43 : nI (4 * e) + 3 = nI (4 * e + 3) := nI_add _ 3
            rw [if_pos (show (3 : Int32) ≤ nI 3 by decide), xck_in (show k < 2 by omega) (by omega), e43, nI_clamp (by omega), ht'.1]
            have hn3 : 4 * e + 2 < n := o2.1
            by_cases q : 4 * e + 3 = n
            · rw [if_pos (by rw [q])]
              have hp : pFault k B n = none := by rw [pF_end (fun z hzz => hz3 z (by omega)), if_pos (Or.inr (by omega))]
              refine ⟨xsI (roSt σ k e (4 * e) B) (2 + 4 * k) (nI (e + 1)), ?_, ⟨?_, ?_⟩, xFr_tr roSt_fr (xFr_sI (by simp))⟩
              · rw [hp, nI_1]
                unfold mX9_readsText_L114 mX9_readsText_L127 mX9_readsText_L144
                rcases (show k = 0 ∨ k = 1 by omega) with rfl | rfl
                · rw [if_pos (show nI 0 = 0 from rfl), if_neg (show ¬ (nI 0 = 1) by decide), xsI_id]; rfl
                · rw [if_neg (show ¬ (nI 1 = 0) by decide), if_pos (show nI 1 = 1 from rfl), xsI_id]; rfl
              · rw [xI_sI, if_pos rfl, pEnt_s hp]; congr 1; omega
              · intro z hzz
                rw [pEnt_s hp] at hzz
                exact hE' z (by omega)
            · rw [if_neg (by rw [nI_eq (by omega) (by omega)]; exact q), m_byteAt F k n (4 * e + 3) B _ hk (by omega) (by omega) ht', xb2_s]
              by_cases q2 : B (4 * e + 3) = 59
              · rw [if_pos (show byI n B (4 * e + 3) = 59 from (byI_eq 59 (by omega) hB).mpr ⟨by omega, q2⟩), nI_1, nI_1]
                obtain ⟨σ', w1, w2, w3⟩ := ih (e + 1) (roSt σ k e (4 * e) B) (by omega) (by omega) ht' (fun z hzz => by
                  by_cases w : z < 4 * e + 3
                  · exact hz3 z w
                  · rw [show z = 4 * e + 3 by omega, q2, show (4 * e + 3) % 4 = 3 by omega]; rfl) h0' hE'
                exact ⟨σ', w1, w2, xFr_tr roSt_fr w3⟩
              · rw [if_neg (show ¬ (byI n B (4 * e + 3) = 59) from fun w => q2 (((byI_eq 59 (by omega) hB).mp w).2))]
                have hp : pFault k B n = some (4 * e + 3) := pF_bad (by omega) hz3 (by
                  rw [show (4 * e + 3) % 4 = 3 by omega]
                  unfold pOK
                  simp [q2])
                exact ⟨roSt σ k e (4 * e) B, by rw [hp]; rfl, MEnt_z hp h0', roSt_fr⟩
          · rw [r2 o0 o1 o2, xb2_s]
            exact fin 2 (by omega) (stop 2 (by omega) (fun z hzz => by
              rcases (show z = 0 ∨ z = 1 by omega) with rfl | rfl
              · exact o0
              · exact o1) o2)
        · rw [r1 o0 o1, xb2_s]
          exact fin 1 (by omega) (stop 1 (by omega) (fun z hzz => by rw [show z = 0 by omega]; exact o0) o1)
      · rw [r0 o0, xb2_s]
        exact fin 0 (by omega) (stop 0 (by omega) (fun z hzz => by omega) o0)
