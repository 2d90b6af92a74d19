/-! ===== how the model reads the texts ===== -/
def byI (n : Nat) (B : Nat → Nat) (i : Nat) : Int32 := if i < n then nI (B i) else -1
theorem m_byteAt (F k n i : Nat) (B : Nat → Nat) (σ : xSt) (hk : k < 2) (hn : n ≤ 31) (hi : i < 1000) (h : MText σ k n B) : mX9_byteAt F (nI k) (nI i) σ = some (byI n B i, σ) := by
  unfold mX9_byteAt mX9_byteAt_L25 byI
  have e31 : (31 : Int32) * nI k = nI (31 * k) := pk_mul 31 k
  simp only [e31, nI_add, xin_nI (show k < 2 by omega) (by omega), nI_clamp (show k < 2 ^ 31 by omega), nI_clamp (show 31 * k + i < 2 ^ 31 by omega), h.1, xb1_s, xb2_s, xck_1, i10, i00, i11, ↓reduceIte]
  by_cases q : i < n
  · rw [if_neg (nI_ge q (by omega)), if_pos q, xck_in (by omega) (by omega), h.2 i q]
  · rw [if_pos (nI_le (by omega) (by omega)), if_neg q]
theorem in0_b : ∀ k, k < 2 → ∀ b, b < 256 → decide (1 ≤ nI b - 48 ∧ nI b - 48 ≤ (if k = 0 then 5 else 9)) = pOK k b 0 := by decide +kernel
theorem in1_b : ∀ k, k < 2 → ∀ b, b < 256 → decide ((if k = 0 then 1 else 0) ≤ nI b - 48 ∧ nI b - 48 ≤ (if k = 0 then 5 else 9)) = pOK k b 1 := by decide +kernel
theorem in2_b : ∀ b, b < 256 → decide (97 ≤ nI b ∧ nI b ≤ 104) = (pOK 1 b 2 && !decide (b = 46)) := by decide +kernel
theorem in0 {k n i : Nat} {B : Nat → Nat} (hk : k < 2) (hB : ∀ j, j < n → B j < 256) : (1 ≤ byI n B i - 48 ∧ byI n B i - 48 ≤ (if k = 0 then 5 else 9)) = (i < n ∧ pOK k (B i) 0 = true) := propext (by
  unfold byI
  by_cases q : i < n
  · rw [if_pos q, ← in0_b k hk (B i) (hB i q)]; simp [q]
  · rw [if_neg q]
    exact ⟨fun h => absurd h.1 (by decide), fun h => absurd h.1 q⟩)
theorem in1 {k n i : Nat} {B : Nat → Nat} (hk : k < 2) (hB : ∀ j, j < n → B j < 256) : ((if k = 0 then 1 else 0) ≤ byI n B i - 48 ∧ byI n B i - 48 ≤ (if k = 0 then 5 else 9)) = (i < n ∧ pOK k (B i) 1 = true) := propext (by
  unfold byI
  by_cases q : i < n
  · rw [if_pos q, ← in1_b k hk (B i) (hB i q)]; simp [q]
  · rw [if_neg q]
    refine ⟨fun h => absurd h.1 ?_, fun h => absurd h.1 q⟩
    by_cases e : k = 0
    · rw [if_pos e]; decide
    · rw [if_neg e]; decide)
theorem in2 {n i : Nat} {B : Nat → Nat} (hB : ∀ j, j < n → B j < 256) (h46 : ¬ (i < n ∧ B i = 46)) : (97 ≤ byI n B i ∧ byI n B i ≤ 104) = (i < n ∧ pOK 1 (B i) 2 = true) := propext (by
  unfold byI
  by_cases q : i < n
  · rw [if_pos q]
    have := in2_b (B i) (hB i q)
    have h47 : ¬ B i = 46 := fun e => h46 ⟨q, e⟩
    simp only [h47, decide_false, Bool.not_false, Bool.and_true] at this
    rw [← this]; simp [q]
  · rw [if_neg q]
    exact ⟨fun h => absurd h.1 (by decide), fun h => absurd h.1 q⟩)
theorem byI_eq {n i : Nat} {B : Nat → Nat} (m : Nat) (hm : m < 256) (hB : ∀ j, j < n → B j < 256) : (byI n B i = nI m) = (i < n ∧ B i = m) := propext (by
  unfold byI
  by_cases q : i < n
  · rw [if_pos q, nI_eq (by have := hB i q; omega) (by omega)]; simp [q]
  · rw [if_neg q]
    exact ⟨fun h => absurd h.symm (not_m1 (by omega)), fun h => absurd h.1 q⟩)
def mThird (k b : Nat) : Int32 := if k = 0 then (if b = 117 then 1 else 0) else (if b = 46 then -1 else nI (b - 97))
def roSt (σ : xSt) (k e i : Nat) (B : Nat → Nat) : xSt := xsA (xsA (xsA σ (3 + 4 * k) e (nI (B i - 48))) (4 + 4 * k) e (nI (B (i + 1) - 48))) (5 + 4 * k) e (mThird k (B (i + 2)))
def okAt (k n : Nat) (B : Nat → Nat) (i pl : Nat) : Prop := i + pl < n ∧ pOK k (B (i + pl)) pl = true
theorem pOK_2' {b : Nat} (h : pOK 0 b 2 = true) : b = 111 ∨ b = 117 := by
  unfold pOK at h
  simp only [↓reduceIte, Bool.or_eq_true, decide_eq_true_eq, show ¬ (2 = 0) from by decide, show ¬ (2 = 1) from by decide] at h
  exact h
theorem m_readsOne (F k n e i : Nat) (B : Nat → Nat) (σ : xSt) (hk : k < 2) (hn : n ≤ 31) (hi : i < 100) (he : e < 6 + 2 * k) (hB : ∀ j, j < n → B j < 256) (h : MText σ k n B) :
    (¬ okAt k n B i 0 → mX9_readsOne F (nI k) (nI e) (nI i) σ = some (nI 0, σ)) ∧
    (okAt k n B i 0 → ¬ okAt k n B i 1 → mX9_readsOne F (nI k) (nI e) (nI i) σ = some (nI 1, σ)) ∧
    (okAt k n B i 0 → okAt k n B i 1 → ¬ okAt k n B i 2 → mX9_readsOne F (nI k) (nI e) (nI i) σ = some (nI 2, σ)) ∧
    (okAt k n B i 0 → okAt k n B i 1 → okAt k n B i 2 → mX9_readsOne F (nI k) (nI e) (nI i) σ = some (nI 3, roSt σ k e i B)) := by
  have k0 : (nI k = 0) = (k = 0) := nI_eq0 (by omega)
  have e1 : nI i + 1 = nI (i + 1) := nI_1 i
  have e2 : nI i + 2 = nI (i + 2) := nI_add i 2
  have a0 := in0 (i := i) hk hB
  have a1 := in1 (i := i + 1) hk hB
  have b0 : mX9_readsOne F (nI k) (nI e) (nI i) σ = mX9_readsOne_L47 F (nI k) (nI e) (byI n B i - 48) (byI n B (i + 1) - 48) (byI n B (i + 2)) (byI n B i - 48) 1 (if k = 0 then 5 else 9) σ := by
    unfold mX9_readsOne
    rw [m_byteAt F k n i B σ hk hn (by omega) h, xb2_s, e1, m_byteAt F k n (i + 1) B σ hk hn (by omega) h, xb2_s, e2, m_byteAt F k n (i + 2) B σ hk hn (by omega) h, xb2_s]
    simp only [k0]
    by_cases q : k = 0 <;> simp only [q, ↓reduceIte]
  have c0 : ¬ okAt k n B i 0 → mX9_readsOne F (nI k) (nI e) (nI i) σ = some (nI 0, σ) := by
    intro z
    rw [b0]; unfold mX9_readsOne_L47
    simp only [m_in, a0, show bI (i < n ∧ pOK k (B i) 0 = true) = 0 from bI_f z, xb1_s, xb2_s, xck_1, i10, i00, i11, ↓reduceIte]; rfl
  have b1 : okAt k n B i 0 → mX9_readsOne F (nI k) (nI e) (nI i) σ = mX9_readsOne_L76 F (nI k) (nI e) (byI n B i - 48) (byI n B (i + 1) - 48) (byI n B (i + 2)) (byI n B (i + 1) - 48) (if k = 0 then 1 else 0) (if k = 0 then 5 else 9) σ := by
    intro z
    rw [b0]; unfold mX9_readsOne_L47 mX9_readsOne_L66
    simp only [m_in, a0, show bI (i < n ∧ pOK k (B i) 0 = true) = 1 from bI_t z, k0, xb1_s, xb2_s, xck_1, i10, i00, i11, ↓reduceIte]
    by_cases q : k = 0 <;> simp only [q, ↓reduceIte]
  have c1 : okAt k n B i 0 → ¬ okAt k n B i 1 → mX9_readsOne F (nI k) (nI e) (nI i) σ = some (nI 1, σ) := by
    intro z z1
    rw [b1 z]; unfold mX9_readsOne_L76
    simp only [m_in, a1, show bI (i + 1 < n ∧ pOK k (B (i + 1)) 1 = true) = 0 from bI_f z1, xb1_s, xb2_s, xck_1, i10, i00, i11, ↓reduceIte]; rfl
  refine ⟨c0, c1, ?_, ?_⟩
  · intro z z1 z2
    rw [b1 z]; unfold mX9_readsOne_L76 mX9_readsOne_L124
    simp only [m_in, a1, show bI (i + 1 < n ∧ pOK k (B (i + 1)) 1 = true) = 1 from bI_t z1, k0, xb1_s, xb2_s, xck_1, i10, i00, i11, ↓reduceIte]
    rcases (show k = 0 ∨ k = 1 by omega) with rfl | rfl
    · have f1 : ¬ (byI n B (i + 2) = 111) := fun q => z2 ((byI_eq 111 (by omega) hB).mp q |> fun w => ⟨w.1, by rw [w.2]; rfl⟩)
      have f2 : ¬ (byI n B (i + 2) = 117) := fun q => z2 ((byI_eq 117 (by omega) hB).mp q |> fun w => ⟨w.1, by rw [w.2]; rfl⟩)
      simp only [f1, f2, ↓reduceIte]; rfl
    · have f1 : ¬ (byI n B (i + 2) = 46) := fun q => z2 ((byI_eq 46 (by omega) hB).mp q |> fun w => ⟨w.1, by rw [w.2]; rfl⟩)
      have f2 : ¬ (97 ≤ byI n B (i + 2) ∧ byI n B (i + 2) ≤ 104) := by
        rw [in2 hB (fun q => z2 ⟨q.1, by rw [q.2]; rfl⟩)]; exact z2
      simp only [f1, bI_f f2, show ¬ (1 = 0) from by decide, xb1_s, xb2_s, xck_1, i10, i00, i11, ↓reduceIte]; rfl
  · intro z z1 z2
    have p0 : 49 ≤ B i ∧ B i ≤ 57 := pOK_0 (k := k) z.2
    have p1 := pOK_1 z1.2
    rw [b1 z]; unfold mX9_readsOne_L76
    simp only [m_in, a1, show bI (i + 1 < n ∧ pOK k (B (i + 1)) 1 = true) = 1 from bI_t z1, k0, xb1_s, xb2_s, xck_1, i10, i00, i11, ↓reduceIte]
    have w0 : byI n B i - 48 = nI (B i - 48) := by unfold byI; rw [if_pos (show i < n from z.1)]; exact sub48 (by omega)
    have w1 : byI n B (i + 1) - 48 = nI (B (i + 1) - 48) := by unfold byI; rw [if_pos z1.1]; exact sub48 (by omega)
    rcases (show k = 0 ∨ k = 1 by omega) with rfl | rfl
    · have g : mX9_readsOne_L126 F (nI 0) (nI e) (byI n B i - 48) (byI n B (i + 1) - 48) (byI n B (i + 2)) σ = some (nI 3, roSt σ 0 e i B) := by
        unfold mX9_readsOne_L126 mX9_readsOne_L163 mX9_readsOne_L205 roSt mThird
        simp only [w0, w1, show nI 0 = 0 from rfl, xin_nI (show e < 7 by omega) (by omega), nI_clamp (show e < 2 ^ 31 by omega), show (byI n B (i + 2) = 117) = (i + 2 < n ∧ B (i + 2) = 117) from byI_eq 117 (by omega) hB, show i + 2 < n from z2.1, true_and, xb1_s, xb2_s, xck_1, i10, i00, i11, ↓reduceIte]
        by_cases q : B (i + 2) = 117 <;> simp only [q, ↓reduceIte] <;> rfl
      rw [if_pos rfl, g]
      rcases pOK_2' z2.2 with q | q
      · rw [if_pos (show byI n B (i + 2) = 111 from (byI_eq 111 (by omega) hB).mpr ⟨z2.1, q⟩)]
      · by_cases q2 : byI n B (i + 2) = 111
        · rw [if_pos q2]
        · rw [if_neg q2, if_pos (show byI n B (i + 2) = 117 from (byI_eq 117 (by omega) hB).mpr ⟨z2.1, q⟩)]
    · have g : mX9_readsOne_L126 F (nI 1) (nI e) (byI n B i - 48) (byI n B (i + 1) - 48) (byI n B (i + 2)) σ = some (nI 3, roSt σ 1 e i B) := by
        unfold mX9_readsOne_L126 mX9_readsOne_L204 mX9_readsOne_L205 roSt mThird
        simp only [w0, w1, show nI 1 = 1 from rfl, xin_nI (show e < 9 by omega) (by omega), nI_clamp (show e < 2 ^ 31 by omega), show (byI n B (i + 2) = 46) = (i + 2 < n ∧ B (i + 2) = 46) from byI_eq 46 (by omega) hB, show i + 2 < n from z2.1, true_and, show ¬ (1 = 0) from by decide, xb1_s, xb2_s, xck_1, i10, i00, i11, ↓reduceIte]
        by_cases q : B (i + 2) = 46
        · simp only [q, ↓reduceIte]; rfl
        · have w2 : byI n B (i + 2) - 97 = nI (B (i + 2) - 97) := by
            unfold byI; rw [if_pos z2.1]; exact pk_sub (b := 97) (by have := pOK_2 z2.2; omega)
          simp only [q, w2, ↓reduceIte]; rfl
      rw [if_neg (by decide), g]
      by_cases q : byI n B (i + 2) = 46
      · rw [if_pos q]
      · rw [if_neg q]
        have f2 : (97 ≤ byI n B (i + 2) ∧ byI n B (i + 2) ≤ 104) := by
          rw [in2 hB (fun w => q ((byI_eq 46 (by omega) hB).mpr w))]; exact z2
        simp only [bI_t f2, xb1_s, xb2_s, xck_1, i10, i00, i11, ↓reduceIte]
