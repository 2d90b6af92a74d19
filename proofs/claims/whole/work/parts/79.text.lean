/-! ===== texts ===== -/
def optI (o : Option Nat) : Int32 := match o with
  | none => -1
  | some j => nI j
theorem pBad_some {k : Nat} {B : Nat → Nat} : ∀ (d i j : Nat), i ≤ j → j < i + d → (∀ z, i ≤ z → z < j → pOK k (B z) (z % 4) = true) → pOK k (B j) (j % 4) = false → pBad k B i d = some j := by
  intro d
  induction d with
  | zero => intro i j h1 h2; omega
  | succ d ih =>
    intro i j h1 h2 h3 h4
    unfold pBad
    by_cases e : i = j
    · subst e; rw [h4]; rfl
    · rw [h3 i (Nat.le_refl i) (by omega), if_pos rfl]
      exact ih (i + 1) j (by omega) (by omega) (fun z a b => h3 z (by omega) b) h4
theorem pBad_none {k : Nat} {B : Nat → Nat} : ∀ (d i : Nat), (∀ z, i ≤ z → z < i + d → pOK k (B z) (z % 4) = true) → pBad k B i d = none := by
  intro d
  induction d with
  | zero => intro i _; rfl
  | succ d ih =>
    intro i h
    unfold pBad
    rw [h i (Nat.le_refl i) (by omega), if_pos rfl]
    exact ih (i + 1) (fun z a b => h z (by omega) (by omega))
theorem pBad_ok {k : Nat} {B : Nat → Nat} : ∀ (d i : Nat), pBad k B i d = none → ∀ z, i ≤ z → z < i + d → pOK k (B z) (z % 4) = true := by
  intro d
  induction d with
  | zero => intro i _ z h1 h2; omega
  | succ d ih =>
    intro i h z h1 h2
    unfold pBad at h
    by_cases e : pOK k (B i) (i % 4) = true
    · rw [if_pos e] at h
      by_cases q : z = i
      · subst q; exact e
      · exact ih (i + 1) h z (by omega) (by omega)
    · rw [if_neg e] at h; cases h
theorem pF_bad {k n i : Nat} {B : Nat → Nat} (hi : i < n) (h : ∀ z, z < i → pOK k (B z) (z % 4) = true) (hb : pOK k (B i) (i % 4) = false) : pFault k B n = some i := by
  unfold pFault
  rw [pBad_some n 0 i (by omega) (by omega) (fun z _ hz => h z hz) hb]; rfl
theorem pF_end {k n : Nat} {B : Nat → Nat} (h : ∀ z, z < n → pOK k (B z) (z % 4) = true) : pFault k B n = if n = 0 ∨ n % 4 = 3 then none else some n := by
  unfold pFault
  rw [pBad_none n 0 (fun z _ hz => h z (by omega))]; rfl
theorem pF_ok {k n : Nat} {B : Nat → Nat} (h : pFault k B n = none) : (∀ z, z < n → pOK k (B z) (z % 4) = true) ∧ (n = 0 ∨ n % 4 = 3) := by
  unfold pFault at h
  by_cases e : (pBad k B 0 n).isSome
  · rw [if_pos e] at h
    rw [h] at e; cases e
  · rw [if_neg e] at h
    have e2 : pBad k B 0 n = none := by
      cases q : pBad k B 0 n with
      | none => rfl
      | some j => rw [q] at e; exact absurd rfl e
    refine ⟨fun z hz => pBad_ok n 0 e2 z (by omega) (by omega), ?_⟩
    by_cases q : n = 0 ∨ n % 4 = 3
    · exact q
    · rw [if_neg q] at h; cases h
def mayS (op v pl : Int32) : Int32 := (if pl = 0 then (if v < 49 then 0 else (if op = 0 then (if 53 < v then 0 else 1) else (if 57 < v then 0 else 1))) else (if pl = 1 then (if op = 0 then (if v < 49 then 0 else (if 53 < v then 0 else 1)) else (if v < 48 then 0 else (if 57 < v then 0 else 1))) else (if pl = 2 then (if op = 0 then (if v = 111 then 1 else (if v = 117 then 1 else 0)) else (if v = 46 then 1 else (if v < 97 then 0 else (if 104 < v then 0 else 1)))) else (if v = 59 then 1 else 0))))
theorem x01 {α : Type} {k : Option α} : xck (xbit 0) k = k ∧ xck (xbit 1) k = k := ⟨rfl, rfl⟩
theorem c_mayS (F k : Nat) (v pl : Int32) (σ : xSt) : mX6_mayStand F k v pl σ = some (mayS (xOP k) v pl, σ) := by
  unfold mX6_mayStand mX6_mayStand_L56 mX6_mayStand_L49 mX6_mayStand_L57 mX6_mayStand_L101 mX6_mayStand_L81 mX6_mayStand_L102 mX6_mayStand_L148 mX6_mayStand_L128 mX6_mayStand_L132 mX6_mayStand_L153 mX6_mayStand_L165 mX6_mayStand_L56 mX6_mayStand_L57 mayS
  simp only [x01.1, x01.2]
  repeat' (first | rfl | (exfalso; contradiction) | split)
theorem mayS_ok : ∀ k, k < 2 → ∀ pl, pl < 4 → ∀ b, b < 256 → mayS (xOP k) (nI b) (nI pl) = bI (pOK k b pl = true) := by decide +kernel
theorem c_mayStand (F k b pl : Nat) (hk : k < 2) (hb : b < 256) (hp : pl < 4) (σ : xSt) : mX6_mayStand F k (nI b) (nI pl) σ = some (bI (pOK k b pl = true), σ) := by rw [c_mayS, mayS_ok k hk pl hp b hb]
theorem lnB_le {k : Nat} (hk : k < 2) : lnB k ≤ 31 := by
  rcases (show k = 0 ∨ k = 1 by omega) with rfl | rfl <;> decide
theorem lnB_E {k : Nat} (hk : k < 2) : lnB k + 1 = 4 * lnE k := by
  rcases (show k = 0 ∨ k = 1 by omega) with rfl | rfl <;> decide
theorem c_faultL (F k n : Nat) (hk : k < 2) (hn : n ≤ lnB k) (B : Nat → Nat) (σ : xSt) (h1 : xI σ (10 + k) = nI n) (h2 : ∀ j, j < n → B j < 256 ∧ xA σ (6 + k) j = nI (B j)) :
    ∀ (fu i : Nat), i ≤ n → n < i + fu → (∀ z, z < i → pOK k (B z) (z % 4) = true) → mX6_faultPlace_L2 F k fu (nI i) σ = some (optI (pFault k B n), σ) := by
  have h31 := lnB_le hk
  intro fu
  induction fu with
  | zero => intro i a b; omega
  | succ fu ih =>
    intro i a b hz
    show mX6_faultPlace_S2 F k (mX6_faultPlace_L2 F k fu) (nI i) σ = _
    unfold mX6_faultPlace_S2 mX6_faultPlace_L34 mX6_faultPlace_L51 mX6_faultPlace_L59 mX6_faultPlace_L26
    have r4 : ∀ m : Nat, m < 2 ^ 31 → nI m - nI m / 4 * 4 = nI (m % 4) := fun m hm => pk_rem (d := 4) hm (by omega) (by omega)
    simp only [h1, nI_1, r4 n (by omega), r4 i (by omega), show xnzI 4 = true from rfl, nI_eq0 (show n < 2 ^ 31 by omega), nI_clamp (show i < 2 ^ 31 by omega), xb1_s, xb2_s, xck_1, i10, i00, i11, ↓reduceIte]
    have e3 : (nI (n % 4) = (3 : Int32)) = (n % 4 = 3) := nI_eqL 3 (by omega) (by omega)
    by_cases e : i = n
    · subst e
      simp only [eq_true (nI_le (Nat.le_refl i) (show i < 2 ^ 31 by omega)), e3, xb1_s, xb2_s, xck_1, i10, i00, i11, ↓reduceIte]
      rw [pF_end hz]
      by_cases q : i = 0
      · simp only [q, true_or, xb1_s, xb2_s, xck_1, i10, i00, i11, ↓reduceIte]; rfl
      · by_cases q2 : i % 4 = 3
        · simp only [q, q2, or_true, xb1_s, xb2_s, xck_1, i10, i00, i11, ↓reduceIte]; rfl
        · simp only [q, q2, or_self, xb1_s, xb2_s, xck_1, i10, i00, i11, ↓reduceIte]; rfl
    · have hin : i < n := by omega
      simp only [eq_false (nI_ge hin (show n < 2 ^ 31 by omega)), xin_nI (show i < lnB k by omega) (show lnB k < 2 ^ 31 by omega), (h2 i hin).2, c_mayStand F k (B i) (i % 4) hk (h2 i hin).1 (by omega), bI_0, xb1_s, xb2_s, xck_1, i10, i00, i11, ↓reduceIte]
      by_cases q : pOK k (B i) (i % 4) = true
      · simp only [q, not_true_eq_false, xb1_s, xb2_s, xck_1, i10, i00, i11, ↓reduceIte]
        exact ih (i + 1) (by omega) (by omega) (fun z hz2 => by
          by_cases e2 : z = i
          · subst e2; exact q
          · exact hz z (by omega))
      · have q2 : pOK k (B i) (i % 4) = false := by cases h : pOK k (B i) (i % 4) with
          | true => exact absurd h q
          | false => rfl
        simp only [q, not_false_eq_true, xb1_s, xb2_s, xck_1, i10, i00, i11, ↓reduceIte]
        rw [pF_bad hin hz q2]; rfl
theorem c_faultPlace (F k n : Nat) (hF : 100 ≤ F) (hk : k < 2) (hn : n ≤ lnB k) (B : Nat → Nat) (σ : xSt) (h1 : xI σ (10 + k) = nI n) (h2 : ∀ j, j < n → B j < 256 ∧ xA σ (6 + k) j = nI (B j)) : mX6_faultPlace F k σ = some (optI (pFault k B n), σ) := by
  have h31 := lnB_le hk
  unfold mX6_faultPlace
  exact c_faultL F k n hk hn B σ h1 h2 F 0 (by omega) (by omega) (fun z hz => by omega)
theorem pOK_0 {k b : Nat} (h : pOK k b 0 = true) : 49 ≤ b ∧ b ≤ 57 := by
  unfold pOK at h
  simp only [↓reduceIte, Bool.and_eq_true, decide_eq_true_eq] at h
  by_cases e : k = 0
  · simp only [e, ↓reduceIte] at h; omega
  · simp only [e, ↓reduceIte] at h; omega
theorem pOK_1 {k b : Nat} (h : pOK k b 1 = true) : 48 ≤ b ∧ b ≤ 57 := by
  unfold pOK at h
  simp only [↓reduceIte, Bool.and_eq_true, decide_eq_true_eq, show ¬ (1 = 0) from by decide] at h
  by_cases e : k = 0
  · simp only [e, ↓reduceIte] at h; omega
  · simp only [e, ↓reduceIte] at h; omega
theorem pOK_2 {b : Nat} (h : pOK 1 b 2 = true) : b = 46 ∨ (97 ≤ b ∧ b ≤ 104) := by
  unfold pOK at h
  simp only [↓reduceIte, Bool.or_eq_true, Bool.and_eq_true, decide_eq_true_eq, show ¬ (2 = 0) from by decide, show ¬ (2 = 1) from by decide, show ¬ (1 = 0) from by decide] at h
  exact h
theorem sub48 {b : Nat} (h : 48 ≤ b) : nI b - 48 = nI (b - 48) := pk_sub (b := 48) h
theorem pEnt_ok {k n : Nat} {B : Nat → Nat} {e : Nat} (he : e < pEnt k B n) : (∀ z, z < n → pOK k (B z) (z % 4) = true) ∧ 4 * e + 2 < n ∧ pEnt k B n = (n + 1) / 4 ∧ n % 4 = 3 := by
  unfold pEnt at he ⊢
  cases q : pFault k B n with
  | some j => rw [q] at he; simp at he
  | none =>
    rw [q] at he
    simp only [Option.isNone_none, ↓reduceIte] at he ⊢
    obtain ⟨h1, h2⟩ := pF_ok q
    exact ⟨h1, by omega, trivial, by omega⟩
