/-- told rows and scratch change -/
theorem Rel_wide {σc σc' σm σm' : xSt} (h : Rel σc σm) (hc : xFr [1, 2, 3, 4, 5, 6, 7, 14, 15, 16] [0, 1, 2, 3, 4, 15, 16, 17, 18, 19, 20, 21, 22, 23, 24, 25, 26] σc σc') (hm : xFr [2, 6, 20, 21, 22, 23, 10, 14, 27] [3, 4, 5, 7, 8, 9, 17, 18, 19, 24, 25, 26, 31, 36, 11, 12, 13, 15, 16, 28, 29, 30] σm σm')
    (h0 : RSit σc' σm') (h1 : RWin σc' σm') (h2 : RSml σc' σm') : Rel σc' σm' := by
  have ci : ∀ j, (8 ≤ j ∧ j < 14) ∨ 17 ≤ j ∨ j = 0 → xI σc' j = xI σc j := fun j hj => hc.1 j (by simp; omega)
  have ca : ∀ j, (5 ≤ j ∧ j < 15) ∨ 27 ≤ j → xA σc' j = xA σc j := fun j hj => hc.2 j (by simp; omega)
  obtain ⟨⟨n0, B0, t0, u0⟩, ⟨n1, B1, t1, u1⟩, -, -, -, hsh, hf⟩ := h
  refine ⟨⟨n0, B0, CText_fr t0 (ci _ (by omega)) (ci _ (by omega)) (ca _ (by omega)) (ca _ (by omega)) (ca _ (by omega)) (ca _ (by omega)), MText_fr u0 (hm.2 0 (by decide)) (hm.2 1 (by decide))⟩, ⟨n1, B1, CText_fr t1 (ci _ (by omega)) (ci _ (by omega)) (ca _ (by omega)) (ca _ (by omega)) (ca _ (by omega)) (ca _ (by omega)), MText_fr u1 (hm.2 0 (by decide)) (hm.2 1 (by decide))⟩, h0, h1, h2, fun j hj => RSh_fr (hsh j hj) (ci _ (by omega)) (ci _ (by omega)) (ca _ (by omega)) (by rw [hm.2 32 (by decide)]) (by rw [hm.2 33 (by decide)]) (by rw [hm.2 34 (by decide)]) (fun i _ => by rw [hm.2 35 (by decide)]), ?_⟩
  unfold RFd; rw [ci 0 (by omega), hm.1 37 (by decide)]; exact hf
/-! one row more -/
def Dadd (D : Dy) (x tt pp : Nat) : Dy := fun j e => match j with
  | 0 => D 0 0 + 1
  | 1 => ins (D 1) (D 0 0) x e
  | 2 => ins (D 2) (D 0 0) tt e
  | 3 => ins (D 3) (D 0 0) pp e
  | k + 4 => D (k + 4) e
def setN (D : Dy) (n : Nat) : Dy := fun j e => match j with
  | 0 => n
  | k + 1 => D (k + 1) e
theorem c_addD (F x tt pp : Nat) (D : Dy) (σ : xSt) (hF : 100 ≤ F) (hx : x < 24) (ht : tt < 1000) (hp : pp < 1000) (hn : D 0 0 < 44) (h : CD σ D) : ∃ σ', mX7_add F 0 (nI x) (nI tt) (nI pp) σ = some σ' ∧ CD σ' (Dadd D x tt pp) ∧ xFr [14] [15, 18, 21, 24] σ σ' := by
  obtain ⟨a, b, c, d, ⟨o, e⟩, g⟩ := h
  obtain ⟨σ', w1, w2, w3⟩ := c_add F 0 (D 0 0) x tt pp hF (by omega) hx (D 1) (D 2) (D 3) hn σ b
  refine ⟨σ', w1, ⟨show D 0 0 + 1 ≤ 44 by omega, w2, fun i hi => ?_, d, ⟨o, CTold_fr e (w3.1 _ (by decide)) (w3.2 _ (by decide)) (w3.2 _ (by decide)) (w3.2 _ (by decide)) (w3.2 _ (by decide))⟩, g⟩, w3⟩
  show ins (D 2) (D 0 0) tt i < 1000 ∧ ins (D 3) (D 0 0) pp i < 1000
  have hi' : i < D 0 0 + 1 := hi
  by_cases q : i = D 0 0
  · rw [q, ins_n, ins_n]; exact ⟨ht, hp⟩
  · rw [ins_o q, ins_o q]; exact c i (by omega)
theorem c_dropD (F n : Nat) (D : Dy) (σ : xSt) (hF : 100 ≤ F) (hn : D 0 0 = n + 1) (h : CD σ D) : ∃ σ', mX7_drop F 0 σ = some σ' ∧ CD σ' (setN D n) ∧ xFr [14] [24] σ σ' := by
  obtain ⟨a, b, c, d, ⟨o, e⟩, g⟩ := h
  rw [hn] at b
  obtain ⟨σ', w1, w2, w3⟩ := c_drop F 0 n hF (by omega) (D 1) (D 2) (D 3) (by show n < 44; omega) σ b
  exact ⟨σ', w1, ⟨show n ≤ 44 by omega, w2, fun i hi => c i (by have hi' : i < n := hi; omega), d, ⟨o, CTold_fr e (w3.1 _ (by decide)) (w3.2 _ (by decide)) (w3.2 _ (by decide)) (w3.2 _ (by decide)) (w3.2 _ (by decide))⟩, g⟩, w3⟩
theorem m_addD (F x tt pp : Nat) (D : Dy) (σ : xSt) (hx : x < 24) (ht : tt < 1000) (hp : pp < 1000) (hn : D 0 0 < 44) (h : MD σ D) : ∃ σ1, mX9_laysSit F (nI (D 0 0)) (nI x) (nI pp) (nI tt) σ = some σ1 ∧ xI σ1 20 = nI (D 0 0) ∧ MD (xsI σ1 20 (nI (D 0 0 + 1))) (Dadd D x tt pp) ∧ xFr [20] [11, 12, 13] σ (xsI σ1 20 (nI (D 0 0 + 1))) ∧ ∀ i, i ≠ D 0 0 → xA σ1 11 i = xA σ 11 i ∧ xA σ1 12 i = xA σ 12 i ∧ xA σ1 13 i = xA σ 13 i := by
  unfold mX9_laysSit
  rw [xck_in hn (by omega), xck_in hn (by omega), xck_in hn (by omega), nI_clamp (by omega)]
  obtain ⟨a, b, c, d, e, g, k, l, m⟩ := h
  refine ⟨_, rfl, b, ⟨show D 0 0 + 1 ≤ 44 by omega, by rw [xI_sI, if_pos rfl]; rfl, fun i hi => ?_, d, ?_, fun i hi => ?_, fun x' hx' => ?_, ?_, m⟩, xFr_tr (xFr_tr (xFr_tr (xFr_sA (by decide)) (xFr_sA (by decide))) (xFr_sA (by decide))) (xFr_sI (by decide)), fun i hi => ?_⟩
  · have hi' : i < D 0 0 + 1 := hi
    rw [xA_sI, xA_sI, xA_sI, xA_s0 (show 11 ≠ 13 by decide), xA_s0 (show 11 ≠ 12 by decide), xA_s1, xA_s1, xA_s0 (show 13 ≠ 12 by decide), xA_s0 (show 13 ≠ 11 by decide), xA_s0 (show 12 ≠ 13 by decide), xA_s1, xA_s0 (show 12 ≠ 11 by decide)]
    show _ = nI (ins (D 1) (D 0 0) x i) ∧ _ = nI (ins (D 2) (D 0 0) tt i) ∧ _ = nI (ins (D 3) (D 0 0) pp i) ∧ ins (D 1) (D 0 0) x i < 1000 ∧ ins (D 2) (D 0 0) tt i < 1000 ∧ ins (D 3) (D 0 0) pp i < 1000
    by_cases q : i = D 0 0
    · rw [q, ins_n, ins_n, ins_n, upd_1, upd_1, upd_1]; exact ⟨rfl, rfl, rfl, by omega, ht, hp⟩
    · rw [ins_o q, ins_o q, ins_o q, upd_0 q, upd_0 q, upd_0 q]; exact c i (by omega)
  · rw [xI_sI, if_neg (by decide)]; exact e
  · exact g i hi
  · rw [xI_sI, if_neg (by decide)]; exact k x' hx'
  · rw [xI_sI, if_neg (by decide)]; exact l
  · rw [xA_s0 (show 11 ≠ 13 by decide), xA_s0 (show 11 ≠ 12 by decide), xA_s1, xA_s0 (show 12 ≠ 13 by decide), xA_s1, xA_s0 (show 12 ≠ 11 by decide), xA_s1, xA_s0 (show 13 ≠ 12 by decide), xA_s0 (show 13 ≠ 11 by decide), upd_0 hi, upd_0 hi, upd_0 hi]
    exact ⟨rfl, rfl, rfl⟩
/-! lots -/
def lotX (v : Int32) : Nat := (Int32.toUInt32 v >>> (Int32.toUInt32 16 &&& Int32.toUInt32 31)).toNat
theorem u_nI (y : UInt32) : y.toInt32 = nI y.toNat := by
  apply Int32.toBitVec_inj.mp
  show y.toBitVec = BitVec.ofNat 32 y.toNat
  apply BitVec.eq_of_toNat_eq
  rw [BitVec.toNat_ofNat]
  exact (Nat.mod_eq_of_lt y.toNat_lt).symm
theorem lot_nI (v : Int32) : (Int32.toUInt32 v >>> (Int32.toUInt32 16 &&& Int32.toUInt32 31)).toInt32 = nI (lotX v) := u_nI _
theorem lot_lt (v : Int32) : lotX v < 65536 := by
  unfold lotX
  rw [UInt32.toNat_shiftRight, show (Int32.toUInt32 16 &&& Int32.toUInt32 31).toNat % 32 = 16 by decide, Nat.shiftRight_eq_div_pow]
  have := v.toUInt32.toNat_lt
  omega
theorem c_dropsL (F n0 : Nat) (r : Int32) (hF : 100 ≤ F) : ∀ (d fu : Nat) (D : Dy) (σ : xSt), D 0 0 = n0 + d → d < fu → CD σ D → ∃ σ', mX2_tellsByLot_L118 F fu (nI n0) r (nI (n0 + d)) σ = some (r, σ') ∧ CD σ' (setN D n0) ∧ xFr [14] [24] σ σ' := by
  intro d
  induction d with
  | zero =>
    intro fu D σ a b h
    obtain ⟨fu, rfl⟩ : ∃ f, fu = f + 1 := ⟨fu - 1, by omega⟩
    show ∃ σ', mX2_tellsByLot_S118 F (mX2_tellsByLot_L118 F fu) (nI n0) r (nI (n0 + 0)) σ = _ ∧ _
    unfold mX2_tellsByLot_S118 mX2_tellsByLot_L138
    have h44 := h.1
    rw [if_pos (nI_le (by omega) (by omega))]
    refine ⟨σ, rfl, ?_, xFr_rf⟩
    have e : setN D n0 = fun j e => match j with | 0 => n0 | k + 1 => D (k + 1) e := rfl
    obtain ⟨x1, x2, x3, x4, x5, x6⟩ := h
    have a' : D 0 0 = n0 := a
    rw [a'] at x1 x2 x3
    exact ⟨x1, x2, x3, x4, x5, x6⟩
  | succ d ih =>
    intro fu D σ a b h
    obtain ⟨fu, rfl⟩ : ∃ f, fu = f + 1 := ⟨fu - 1, by omega⟩
    show ∃ σ', mX2_tellsByLot_S118 F (mX2_tellsByLot_L118 F fu) (nI n0) r (nI (n0 + (d + 1))) σ = _ ∧ _
    unfold mX2_tellsByLot_S118
    have h44 := h.1
    rw [if_neg (nI_ge (by omega) (by omega)), show n0 + (d + 1) = (n0 + d) + 1 by omega, pk_m1]
    obtain ⟨σ1, w1, w2, w3⟩ := c_dropD F (n0 + d) D σ hF (by omega) h
    rw [w1, xb1_s]
    obtain ⟨σ', z1, z2, z3⟩ := ih fu (setN D (n0 + d)) σ1 rfl (by omega) w2
    exact ⟨σ', z1, z2, xFr_tr w3 z3⟩
