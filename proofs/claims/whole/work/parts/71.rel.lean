/-! ===== when a state of the class and one of the model tell the same ===== -/
/-- bytes that may stand at a place of an entry; k = 0 things, 1 people -/
def pOK (k b pl : Nat) : Bool :=
  if pl = 0 then decide (49 ≤ b) && decide (b ≤ (if k = 0 then 53 else 57))
  else if pl = 1 then decide ((if k = 0 then 49 else 48) ≤ b) && decide (b ≤ (if k = 0 then 53 else 57))
  else if pl = 2 then (if k = 0 then decide (b = 111) || decide (b = 117) else decide (b = 46) || (decide (97 ≤ b) && decide (b ≤ 104)))
  else decide (b = 59)
/-- the first place from i on, of d places, that may not stand -/
def pBad (k : Nat) (B : Nat → Nat) : Nat → Nat → Option Nat
  | _, 0 => none
  | i, d + 1 => if pOK k (B i) (i % 4) then pBad k B (i + 1) d else some i
def pFault (k : Nat) (B : Nat → Nat) (n : Nat) : Option Nat :=
  if (pBad k B 0 n).isSome then pBad k B 0 n else if n = 0 ∨ n % 4 = 3 then none else some n
def pEnt (k : Nat) (B : Nat → Nat) (n : Nat) : Nat := if (pFault k B n).isNone then (n + 1) / 4 else 0
def pThird (k : Nat) (B : Nat → Nat) (n e : Nat) : Nat :=
  if k = 0 then (if B (4 * e + 2) = 117 then 1 else 0)
  else if 97 ≤ B (4 * e + 2) ∧ B (4 * e + 2) - 97 < pEnt k B n then B (4 * e + 2) - 97 else e
def CText (σ : xSt) (k n : Nat) (B : Nat → Nat) : Prop :=
  n ≤ lnB k ∧ xI σ (10 + k) = nI n ∧ (∀ j, j < n → B j < 256 ∧ xA σ (6 + k) j = nI (B j)) ∧ xI σ (12 + k) = nI (pEnt k B n) ∧ ∀ e, e < pEnt k B n → xA σ (8 + k) e = nI (B (4 * e) - 48) ∧ xA σ (10 + k) e = nI (B (4 * e + 1) - 48) ∧ xA σ (12 + k) e = nI (pThird k B n e)
def MText (σ : xSt) (k n : Nat) (B : Nat → Nat) : Prop := xA σ 0 k = nI n ∧ ∀ j, j < n → xA σ 1 (31 * k + j) = nI (B j)
/-- rows by hours, those of one hour as told -/
def bk (h : Nat → Nat) (n x : Nat) : List Nat := (List.range n).filter (fun k => h k == x)
def bks (h : Nat → Nat) (n : Nat) : Nat → Nat → List Nat
  | _, 0 => []
  | a, d + 1 => bk h n a ++ bks h n (a + 1) d
def CTold (σ : xSt) (k n : Nat) (h t o : Nat → Nat) : Prop :=
  xI σ (14 + k) = nI n ∧ (∀ i, i < n → h i < 24 ∧ xA σ (15 + k) i = nI (h i) ∧ xA σ (18 + k) i = nI (t i) ∧ xA σ (21 + k) i = nI (o i)) ∧ ∀ i q, (bks h n 0 24)[i]? = some q → xA σ (24 + k) i = nI q
def MSit (σ : xSt) (n : Nat) (h t p : Nat → Nat) : Prop := ∀ i, i < n → xA σ 11 i = nI (h i) ∧ xA σ 13 i = nI (t i) ∧ xA σ 12 i = nI (p i)
def MWin (σ : xSt) (n : Nat) (h t : Nat → Nat) : Prop := ∀ i, i < n → xA σ 15 i = nI (h i) ∧ xA σ 16 i = nI (t i)
def MSml (σ : xSt) (n : Nat) (h t o : Nat → Nat) : Prop := xI σ 27 = nI n ∧ ∀ i, i < n → xA σ 28 i = nI (h i) ∧ xA σ 29 i = nI (t i) ∧ xA σ 30 i = nI (o i)
def RTx (σc σm : xSt) (k : Nat) : Prop := ∃ n B, CText σc k n B ∧ MText σm k n B
def RSit (σc σm : xSt) : Prop := ∃ n h t p, n ≤ 20 ∧ CTold σc 0 n h t p ∧ (∀ i, i < n → t i < 6 ∧ p i < 8) ∧ xI σm 10 = nI n ∧ MSit σm n h t p
def RWin (σc σm : xSt) : Prop := ∃ n h t, n ≤ 8 ∧ CTold σc 1 n h t (fun _ => 0) ∧ (∀ i, i < n → t i < 6) ∧ xI σm 14 = nI n ∧ MWin σm n h t
def RSml (σc σm : xSt) : Prop := ∃ n h t o, n ≤ 8 ∧ CTold σc 2 n h t o ∧ (∀ i, i < n → t i < 6 ∧ o i < 256) ∧ MSml σm n h t o
def RSh (σc σm : xSt) (k : Nat) : Prop :=
  (xI σc (24 + k) = -1 ∧ xA σm 32 k = 0) ∨ ∃ n f, n ≤ 60 ∧ f < 3 ∧ xI σc (24 + k) = nI n ∧ xI σc (20 + k) = nI f ∧ xA σm 32 k = 1 ∧ xA σm 33 k = nI f ∧ xA σm 34 k = nI n ∧ ∀ i, i < 60 → xA σc (30 + k) i = xA σm 35 (60 * k + i)
def RFd (σc σm : xSt) : Prop := xI σc 0 = xI σm 37
def Rel (σc σm : xSt) : Prop := RTx σc σm 0 ∧ RTx σc σm 1 ∧ RSit σc σm ∧ RWin σc σm ∧ RSml σc σm ∧ (∀ k, k < 4 → RSh σc σm k) ∧ RFd σc σm
theorem Rel_0 : Rel xC0 xM0 := by
  refine ⟨⟨0, fun _ => 0, ⟨by decide, by decide, fun j hj => absurd hj (by omega), by decide, fun e he => ?_⟩, by decide, fun j hj => absurd hj (by omega)⟩, ⟨0, fun _ => 0, ⟨by decide, by decide, fun j hj => absurd hj (by omega), by decide, fun e he => ?_⟩, by decide, fun j hj => absurd hj (by omega)⟩, ⟨0, fun _ => 0, fun _ => 0, fun _ => 0, by decide, ⟨by decide, fun j hj => absurd hj (by omega), ?_⟩, fun j hj => absurd hj (by omega), by decide, fun j hj => absurd hj (by omega)⟩, ⟨0, fun _ => 0, fun _ => 0, by decide, ⟨by decide, fun j hj => absurd hj (by omega), ?_⟩, fun j hj => absurd hj (by omega), by decide, fun j hj => absurd hj (by omega)⟩, ⟨0, fun _ => 0, fun _ => 0, fun _ => 0, by decide, ⟨by decide, fun j hj => absurd hj (by omega), ?_⟩, fun j hj => absurd hj (by omega), by decide, fun j hj => absurd hj (by omega)⟩, fun k hk => Or.inl ?_, rfl⟩
  · have : pEnt 0 (fun _ => 0) 0 = 0 := by decide
    omega
  · have : pEnt 1 (fun _ => 0) 0 = 0 := by decide
    omega
  · intro i q hq
    have : bks (fun _ => 0) 0 0 24 = [] := by decide
    rw [this] at hq
    simp at hq
  · intro i q hq
    have : bks (fun _ => 0) 0 0 24 = [] := by decide
    rw [this] at hq
    simp at hq
  · intro i q hq
    have : bks (fun _ => 0) 0 0 24 = [] := by decide
    rw [this] at hq
    simp at hq
  · rcases (show k = 0 ∨ k = 1 ∨ k = 2 ∨ k = 3 by omega) with rfl | rfl | rfl | rfl <;> exact ⟨by decide, by decide⟩
/-! each part of the relation reads only its own -/
theorem CText_fr {σ σ' : xSt} {k n : Nat} {B : Nat → Nat} (h : CText σ k n B) (h1 : xI σ' (10 + k) = xI σ (10 + k)) (h2 : xI σ' (12 + k) = xI σ (12 + k)) (h3 : xA σ' (6 + k) = xA σ (6 + k)) (h4 : xA σ' (8 + k) = xA σ (8 + k)) (h5 : xA σ' (10 + k) = xA σ (10 + k)) (h6 : xA σ' (12 + k) = xA σ (12 + k)) : CText σ' k n B := by
  unfold CText at h ⊢
  rw [h1, h2, h3, h4, h5, h6]; exact h
theorem MText_fr {σ σ' : xSt} {k n : Nat} {B : Nat → Nat} (h : MText σ k n B) (h1 : xA σ' 0 = xA σ 0) (h2 : xA σ' 1 = xA σ 1) : MText σ' k n B := by
  unfold MText at h ⊢
  rw [h1, h2]; exact h
theorem CTold_fr {σ σ' : xSt} {k n : Nat} {h t o : Nat → Nat} (H : CTold σ k n h t o) (h0 : xI σ' (14 + k) = xI σ (14 + k)) (h1 : xA σ' (15 + k) = xA σ (15 + k)) (h2 : xA σ' (18 + k) = xA σ (18 + k)) (h3 : xA σ' (21 + k) = xA σ (21 + k)) (h4 : xA σ' (24 + k) = xA σ (24 + k)) : CTold σ' k n h t o := by
  unfold CTold at H ⊢
  rw [h0, h1, h2, h3, h4]; exact H
theorem RSh_fr {σc σc' σm σm' : xSt} {k : Nat} (h : RSh σc σm k) (h1 : xI σc' (24 + k) = xI σc (24 + k)) (h2 : xI σc' (20 + k) = xI σc (20 + k)) (h3 : xA σc' (30 + k) = xA σc (30 + k)) (h4 : xA σm' 32 k = xA σm 32 k) (h5 : xA σm' 33 k = xA σm 33 k) (h6 : xA σm' 34 k = xA σm 34 k) (h7 : ∀ i, i < 60 → xA σm' 35 (60 * k + i) = xA σm 35 (60 * k + i)) : RSh σc' σm' k := by
  unfold RSh at h ⊢
  rw [h1, h2, h3, h4, h5, h6]
  rcases h with h | ⟨n, f, a1, a2, a3, a4, a5, a6, a7, a8⟩
  · exact Or.inl h
  · exact Or.inr ⟨n, f, a1, a2, a3, a4, a5, a6, a7, fun i hi => by rw [h7 i hi]; exact a8 i hi⟩
/-- what a change of scratch leaves: ints I and arrays A of the class, I2 and A2 of the model -/
theorem Rel_fr {σc σc' σm σm' : xSt} (h : Rel σc σm) (hc : xFr [1, 2, 3, 4, 5, 6, 7] [0, 1, 2, 3, 4] σc σc') (hm : xFr [2, 6, 20, 21, 22, 23] [3, 4, 5, 7, 8, 9, 17, 18, 19, 24, 25, 26, 31, 36] σm σm') : Rel σc' σm' := by
  have ci : ∀ k, 8 ≤ k ∨ k = 0 → xI σc' k = xI σc k := fun k hk => hc.1 k (by simp; omega)
  have ca : ∀ k, 5 ≤ k → xA σc' k = xA σc k := fun k hk => hc.2 k (by simp; omega)
  obtain ⟨⟨n0, B0, t0, u0⟩, ⟨n1, B1, t1, u1⟩, ⟨ns, hs, ts, ps, s1, s2, s3, s4, s5⟩, ⟨nw, hw, tw, w1, w2, w3, w4, w5⟩, ⟨nm, hm1, tm, om, m1, m2, m3, m4⟩, hsh, hf⟩ := h
  refine ⟨⟨n0, B0, CText_fr t0 (ci _ (by omega)) (ci _ (by omega)) (ca _ (by omega)) (ca _ (by omega)) (ca _ (by omega)) (ca _ (by omega)), MText_fr u0 (hm.2 0 (by decide)) (hm.2 1 (by decide))⟩, ⟨n1, B1, CText_fr t1 (ci _ (by omega)) (ci _ (by omega)) (ca _ (by omega)) (ca _ (by omega)) (ca _ (by omega)) (ca _ (by omega)), MText_fr u1 (hm.2 0 (by decide)) (hm.2 1 (by decide))⟩, ⟨ns, hs, ts, ps, s1, CTold_fr s2 (ci _ (by omega)) (ca _ (by omega)) (ca _ (by omega)) (ca _ (by omega)) (ca _ (by omega)), s3, by rw [hm.1 10 (by decide)]; exact s4, ?_⟩, ⟨nw, hw, tw, w1, CTold_fr w2 (ci _ (by omega)) (ca _ (by omega)) (ca _ (by omega)) (ca _ (by omega)) (ca _ (by omega)), w3, by rw [hm.1 14 (by decide)]; exact w4, ?_⟩, ⟨nm, hm1, tm, om, m1, CTold_fr m2 (ci _ (by omega)) (ca _ (by omega)) (ca _ (by omega)) (ca _ (by omega)) (ca _ (by omega)), m3, ?_⟩, fun k hk => RSh_fr (hsh k hk) (ci _ (by omega)) (ci _ (by omega)) (ca _ (by omega)) (by rw [hm.2 32 (by decide)]) (by rw [hm.2 33 (by decide)]) (by rw [hm.2 34 (by decide)]) (fun i _ => by rw [hm.2 35 (by decide)]), ?_⟩
  · unfold MSit; rw [hm.2 11 (by decide), hm.2 12 (by decide), hm.2 13 (by decide)]; exact s5
  · unfold MWin; rw [hm.2 15 (by decide), hm.2 16 (by decide)]; exact w5
  · unfold MSml; rw [hm.1 27 (by decide), hm.2 28 (by decide), hm.2 29 (by decide), hm.2 30 (by decide)]; exact m4
  · unfold RFd; rw [ci 0 (Or.inr rfl), hm.1 37 (by decide)]; exact hf
/-- the finding alone changes -/
theorem Rel_fd {σc σm : xSt} (h : Rel σc σm) (v : Int32) : Rel (xsI σc 0 v) (xsI σm 37 v) := by
  obtain ⟨⟨n0, B0, t0, u0⟩, ⟨n1, B1, t1, u1⟩, ⟨ns, hs, ts, ps, s1, s2, s3, s4, s5⟩, ⟨nw, hw, tw, w1, w2, w3, w4, w5⟩, ⟨nm, hm1, tm, om, m1, m2, m3, m4⟩, hsh, hf⟩ := h
  have ci : ∀ k, k ≠ 0 → xI (xsI σc 0 v) k = xI σc k := fun k hk => by rw [xI_sI, if_neg hk]
  have mi : ∀ k, k ≠ 37 → xI (xsI σm 37 v) k = xI σm k := fun k hk => by rw [xI_sI, if_neg hk]
  refine ⟨⟨n0, B0, CText_fr t0 (ci _ (by omega)) (ci _ (by omega)) rfl rfl rfl rfl, MText_fr u0 rfl rfl⟩, ⟨n1, B1, CText_fr t1 (ci _ (by omega)) (ci _ (by omega)) rfl rfl rfl rfl, MText_fr u1 rfl rfl⟩, ⟨ns, hs, ts, ps, s1, CTold_fr s2 (ci _ (by omega)) rfl rfl rfl rfl, s3, by rw [mi 10 (by omega)]; exact s4, s5⟩, ⟨nw, hw, tw, w1, CTold_fr w2 (ci _ (by omega)) rfl rfl rfl rfl, w3, by rw [mi 14 (by omega)]; exact w4, w5⟩, ⟨nm, hm1, tm, om, m1, CTold_fr m2 (ci _ (by omega)) rfl rfl rfl rfl, m3, ?_⟩, fun k hk => RSh_fr (hsh k hk) (ci _ (by omega)) (ci _ (by omega)) rfl rfl rfl rfl (fun i _ => rfl), ?_⟩
  · unfold MSml; rw [mi 27 (by omega)]; exact m4
  · unfold RFd; rw [xI_sI, xI_sI, if_pos rfl, if_pos rfl]
/-- the sheets alone change -/
theorem Rel_sh {σc σc' σm σm' : xSt} (h : Rel σc σm) (hc : xFr [20, 21, 22, 23, 24, 25, 26, 27] [30, 31, 32, 33] σc σc') (hm : xFr [] [32, 33, 34, 35, 36] σm σm') (hs : ∀ k, k < 4 → RSh σc' σm' k) : Rel σc' σm' := by
  have ci : ∀ k, k < 20 → xI σc' k = xI σc k := fun k hk => hc.1 k (by simp; omega)
  have ca : ∀ k, k < 30 → xA σc' k = xA σc k := fun k hk => hc.2 k (by simp; omega)
  have mi : ∀ k, xI σm' k = xI σm k := fun k => hm.1 k (by simp)
  have ma : ∀ k, k < 32 → xA σm' k = xA σm k := fun k hk => hm.2 k (by simp; omega)
  obtain ⟨⟨n0, B0, t0, u0⟩, ⟨n1, B1, t1, u1⟩, ⟨ns, hs', ts, ps, s1, s2, s3, s4, s5⟩, ⟨nw, hw, tw, w1, w2, w3, w4, w5⟩, ⟨nm, hm1, tm, om, m1, m2, m3, m4⟩, hsh, hf⟩ := h
  refine ⟨⟨n0, B0, CText_fr t0 (ci _ (by omega)) (ci _ (by omega)) (ca _ (by omega)) (ca _ (by omega)) (ca _ (by omega)) (ca _ (by omega)), MText_fr u0 (ma 0 (by omega)) (ma 1 (by omega))⟩, ⟨n1, B1, CText_fr t1 (ci _ (by omega)) (ci _ (by omega)) (ca _ (by omega)) (ca _ (by omega)) (ca _ (by omega)) (ca _ (by omega)), MText_fr u1 (ma 0 (by omega)) (ma 1 (by omega))⟩, ⟨ns, hs', ts, ps, s1, CTold_fr s2 (ci _ (by omega)) (ca _ (by omega)) (ca _ (by omega)) (ca _ (by omega)) (ca _ (by omega)), s3, by rw [mi]; exact s4, ?_⟩, ⟨nw, hw, tw, w1, CTold_fr w2 (ci _ (by omega)) (ca _ (by omega)) (ca _ (by omega)) (ca _ (by omega)) (ca _ (by omega)), w3, by rw [mi]; exact w4, ?_⟩, ⟨nm, hm1, tm, om, m1, CTold_fr m2 (ci _ (by omega)) (ca _ (by omega)) (ca _ (by omega)) (ca _ (by omega)) (ca _ (by omega)), m3, ?_⟩, hs, ?_⟩
  · unfold MSit; rw [ma 11 (by omega), ma 12 (by omega), ma 13 (by omega)]; exact s5
  · unfold MWin; rw [ma 15 (by omega), ma 16 (by omega)]; exact w5
  · unfold MSml; rw [mi, ma 28 (by omega), ma 29 (by omega), ma 30 (by omega)]; exact m4
  · unfold RFd; rw [ci 0 (by omega), mi]; exact hf
