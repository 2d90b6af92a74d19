/-! ===== the model's search ===== -/
theorem m_asTold2 {σ : xSt} {D : Dy} (F : Nat) (h : MR σ D) (h7 : ∀ x, D 7 x = 0) (h8 : D 8 0 = 0) : ∃ σ', mX9_asTold F σ = some σ' ∧ MD σ' D ∧ xFr [20, 21, 22, 23] [] σ σ' := by
  have f : xFr [20, 21, 22, 23] [] σ (xsI (xsI (xsI (xsI σ 20 (xI σ 10)) 21 (xI (xsI σ 20 (xI σ 10)) 14)) 22 0) 23 0) := xFr_tr (xFr_tr (xFr_tr (xFr_sI (by decide)) (xFr_sI (by decide))) (xFr_sI (by decide))) (xFr_sI (by decide))
  refine ⟨_, rfl, ?_, f⟩
  obtain ⟨a, b, c, d, e, g⟩ := h
  refine ⟨by omega, b, fun i hi => ?_, by omega, e, fun i hi => ?_, fun x hx => ?_, by rw [h8]; rfl, by omega⟩
  · obtain ⟨c1, c2, c3, c4, c5, c6⟩ := c i hi
    exact ⟨c1, c2, c3, by omega, by omega, by omega⟩
  · obtain ⟨c1, c2, c3, c4⟩ := g i hi
    exact ⟨c1, c2, by omega, by omega⟩
  · rw [h7 x]
    exact zero_sh x
/-- what the model's search changes -/
def KR (n : Nat) (σ σ' : xSt) : Prop := xFr [20, 21, 22, 23] [11, 12, 13, 17, 18, 19, 26] σ σ' ∧ ∀ e, e < n → xA σ' 11 e = xA σ 11 e ∧ xA σ' 12 e = xA σ 12 e ∧ xA σ' 13 e = xA σ 13 e
theorem KR_rf {n : Nat} {σ : xSt} : KR n σ σ := ⟨xFr_rf, fun _ _ => ⟨rfl, rfl, rfl⟩⟩
theorem KR_tr {n : Nat} {σ σ1 σ2 : xSt} (h : KR n σ σ1) (g : KR n σ1 σ2) : KR n σ σ2 := ⟨xFr_tr h.1 g.1, fun e he => by
  obtain ⟨a, b, c⟩ := h.2 e he
  obtain ⟨a', b', c'⟩ := g.2 e he
  exact ⟨a'.trans a, b'.trans b, c'.trans c⟩⟩
theorem KR_of {n : Nat} {σ σ' : xSt} (f : xFr [20, 21, 22, 23] [17, 18, 19, 26] σ σ') : KR n σ σ' := ⟨xFr_mono f (by simp) (by simp), fun e _ => by
  rw [f.2 11 (by decide), f.2 12 (by decide), f.2 13 (by decide)]; exact ⟨rfl, rfl, rfl⟩⟩
theorem MH_K {n : Nat} {σ σ' : xSt} {H : Hs} (h : MH σ H) (k : KR n σ σ') : MH σ' H := MH_fr h k.1 (by simp) (by simp)
theorem MR_K {σ σ' : xSt} {D : Dy} (h : MR σ D) (k : KR (D 0 0) σ σ') : MR σ' D := by
  obtain ⟨a, b, c, d, e, g⟩ := h
  refine ⟨a, by rw [k.1.1 10 (by decide)]; exact b, fun i hi => ?_, d, by rw [k.1.1 14 (by decide)]; exact e, fun i hi => ?_⟩
  · obtain ⟨x1, x2, x3⟩ := k.2 i hi
    rw [x1, x2, x3]; exact c i hi
  · rw [k.1.2 15 (by decide), k.1.2 16 (by decide)]; exact g i hi
def cI (L : List Nat) (i : Nat) : Int32 := optI L[i]?
/-- whether thing or things tell as wanted -/
def GV (H : Hs) (D : Dy) (x hr : Nat) (tv sv : Int32) (G : List Nat → Bool) : Prop :=
  (tv = -1 ∧ ∀ L, G L = decide ((allL H (fun t => dayL H (SL D x L) t (hr + 1)) (hT H) &&& sv) = 0)) ∨ ∃ t, t < hT H ∧ tv = nI t ∧ ∀ L, G L = decide (toldL (hN H t) (dayL H (SL D x L) t (hr + 1)) = sv)
theorem m_ds68 (F x hr : Nat) (v1 v2 tv sv : Int32) (H : Hs) (D : Dy) (G : List Nat → Bool) (L : List Nat) (hF : 100 ≤ F) (hB : HB H) (hr1 : hr < 24) (h7 : ∀ x, D 7 x = 0) (hG : GV H D x hr tv sv G) (σ : xSt) (hM' : MH σ H) (hD : MD σ (SL D x L)) :
    ∃ σ', mX9_doesSit_L68 F v1 v2 (nI hr) tv sv σ = some (bI (G L = true), σ') ∧ xFr [] [17, 18, 19, 26] σ σ' ∧ xA σ' 26 0 = v1 ∧ xA σ' 26 1 = v2 := by
  have hb1 := hB.1
  have h7' : ∀ x', SL D x L 7 x' = 0 := fun x' => by rw [show SL D x L 7 = D 7 from SL_hi x L D 3]; exact h7 x'
  obtain ⟨σ1, a1, a2, a3⟩ := m_runs F hr H (SL D x L) hF hr1 hB (fun h _ q => by rw [h7' h] at q; omega) σ hM' hD
  have fr : xFr [] [26] σ1 (xsA (xsA σ1 26 0 v1) 26 1 v2) := xFr_tr (xFr_sA (by decide)) (xFr_sA (by decide))
  have hM1 : MH (xsA (xsA σ1 26 0 v1) 26 1 v2) H := MH_fr (MH_l hM' a2) fr (by simp) (by simp)
  have hL1 : MLs (xsA (xsA σ1 26 0 v1) 26 1 v2) H (fun t => dayL H (SL D x L) t (hr + 1)) := fun t ht => by
    obtain ⟨⟨a, b, c⟩, d⟩ := a3 t ht
    refine ⟨⟨a, ?_, ?_⟩, d⟩
    · rw [fr.2 17 (by decide)]; exact b
    · rw [fr.2 18 (by decide), fr.2 19 (by decide)]; exact c
  refine ⟨xsA (xsA σ1 26 0 v1) 26 1 v2, ?_, xFr_tr (xFr_mono a2 (by simp) (by simp)) (xFr_mono fr (by simp) (by simp)), ?_, ?_⟩
  · unfold mX9_doesSit_L68 mX9_doesSit_L128
    rw [a1, xb1_s]
    simp only [show xin 0 3 = true from rfl, show xin 1 3 = true from rfl, show (0 : Int32).toNatClampNeg = 0 from rfl, show (1 : Int32).toNatClampNeg = 1 from rfl, xck_1]
    rcases hG with ⟨e1, e2⟩ | ⟨t, ht, e1, e2⟩
    · rw [if_pos e1, m_tellsAll F H hF hB _ _ hM1 hL1, xb2_s, e2]
      by_cases q : (allL H (fun t => dayL H (SL D x L) t (hr + 1)) (hT H) &&& sv) = 0
      · rw [if_pos q, decide_eq_true q]; rfl
      · rw [if_neg q, decide_eq_false q]; rfl
    · rw [e1, if_neg (nI_m1 (by omega)), m_tellsNow F t H hF hB ht _ _ hM1 (hL1 t ht).1, xb2_s, e2]
      by_cases q : toldL (hN H t) (dayL H (SL D x L) t (hr + 1)) = sv
      · rw [if_pos q, decide_eq_true q]; rfl
      · rw [if_neg q, decide_eq_false q]; rfl
  · rw [xA_s1, upd_0 (by decide), xA_s1, upd_1]
  · rw [xA_s1, upd_1]
theorem m_ds36 (F x hr c : Nat) (v1 tv sv : Int32) (H : Hs) (D D0 : Dy) (G : List Nat → Bool) (L : List Nat) (o : Option Nat) (hF : 100 ≤ F) (hB : HB H) (hx : x < 24) (hr1 : hr < 24) (h7 : ∀ x, D 7 x = 0) (hG : GV H D x hr tv sv G) (hn : D0 0 0 < 44) (hn0 : D 0 0 ≤ D0 0 0) (hc : ∀ c, o = some c → c < 48) (he : SL D x L = match o with | some c => Dadd D0 x (c / 8) (c % 8) | none => D0) (σ : xSt) (hM' : MH σ H) (hD : MD σ D0) :
    ∃ σ', mX9_doesSit_L36 F v1 (optI o) (nI x) (nI hr) tv sv σ = some (bI (G L = true), σ') ∧ KR (D 0 0) σ σ' ∧ xA σ' 26 0 = v1 ∧ xA σ' 26 1 = optI o := by
  unfold mX9_doesSit_L36
  cases o with
  | none =>
    rw [show optI none = -1 from rfl, if_pos rfl]
    obtain ⟨σ', a, b, c, d⟩ := m_ds68 F x hr v1 (-1) tv sv H D G L hF hB hr1 h7 hG σ hM' (by rw [he]; exact hD)
    exact ⟨σ', a, KR_of (xFr_mono b (by simp) (by simp)), c, d⟩
  | some e =>
    have he48 := hc e rfl
    have e2 : nI e / 8 = nI (e / 8) := pk_div (d := 8) (by omega) (by decide) (by decide)
    have e3 : nI e - nI (e / 8) * 8 = nI (e % 8) := by
      rw [← e2]
      exact pk_rem (d := 8) (by omega) (by decide) (by decide)
    rw [show optI (some e) = nI e from rfl, if_neg (nI_m1 (by omega))]
    obtain ⟨σ1, a1, a2, a3, a4, a5⟩ := m_addD F x (e / 8) (e % 8) D0 σ hx (by omega) (by omega) hn hD
    simp only [show xnzI 8 = true from rfl, e2, e3, show xI σ 20 = nI (D0 0 0) from hD.2.1, a1, a2, nI_1, xb1_s, xb2_s, xck_1, i10, i00, i11, ↓reduceIte]
    have k1 : KR (D 0 0) σ (xsI σ1 20 (nI (D0 0 0 + 1))) := ⟨xFr_mono a4 (by simp) (by simp), fun z hz => a5 z (by omega)⟩
    obtain ⟨σ', a, b, c, d⟩ := m_ds68 F x hr v1 (nI e) tv sv H D G L hF hB hr1 h7 hG (xsI σ1 20 (nI (D0 0 0 + 1))) (MH_K hM' k1) (by rw [he]; exact a3)
    exact ⟨σ', a, KR_tr k1 (KR_of (xFr_mono b (by simp) (by simp))), c, d⟩
theorem m_doesSit (F x hr : Nat) (tv sv : Int32) (H : Hs) (D : Dy) (G : List Nat → Bool) (L : List Nat) (hF : 100 ≤ F) (hB : HB H) (hx : x < 24) (hr1 : hr < 24) (h7 : ∀ x, D 7 x = 0) (h8 : D 8 0 = 0) (hG : GV H D x hr tv sv G) (hl : L.length ≤ 2) (hc : ∀ c, c ∈ L → c < 48) (σ : xSt) (hM' : MH σ H) (hR : MR σ D) :
    ∃ σ', mX9_doesSit F (cI L 0) (cI L 1) (nI x) (nI hr) tv sv σ = some (bI (G L = true), σ') ∧ KR (D 0 0) σ σ' ∧ xA σ' 26 0 = cI L 0 ∧ xA σ' 26 1 = cI L 1 := by
  have hn := hR.1
  obtain ⟨σ1, a1, a2, a3⟩ := m_asTold2 F hR h7 h8
  have k1 : KR (D 0 0) σ σ1 := KR_of (xFr_mono a3 (by simp) (by simp))
  unfold mX9_doesSit
  rw [a1, xb1_s]
  match L, hl, hc with
  | [], _, _ =>
    rw [show cI [] 0 = -1 from rfl, if_pos rfl]
    obtain ⟨σ', a, b, c, d⟩ := m_ds36 F x hr 0 (-1) tv sv H D D G [] none hF hB hx hr1 h7 hG (by omega) (Nat.le_refl _) (fun c q => by cases q) rfl σ1 (MH_K hM' k1) a2
    exact ⟨σ', a, KR_tr k1 b, c, d⟩
  | e :: L1, hl, hc =>
    have he48 := hc e (List.mem_cons_self ..)
    have e2 : nI e / 8 = nI (e / 8) := pk_div (d := 8) (by omega) (by decide) (by decide)
    have e3 : nI e - nI (e / 8) * 8 = nI (e % 8) := by
      rw [← e2]
      exact pk_rem (d := 8) (by omega) (by decide) (by decide)
    rw [show cI (e :: L1) 0 = nI e from rfl, if_neg (nI_m1 (by omega))]
    obtain ⟨σ2, b1, b2, b3, b4, b5⟩ := m_addD F x (e / 8) (e % 8) D σ1 hx (by omega) (by omega) (by omega) a2
    simp only [show xnzI 8 = true from rfl, e2, e3, show xI σ1 20 = nI (D 0 0) from a2.2.1, b1, b2, nI_1, xb1_s, xb2_s, xck_1, i10, i00, i11, ↓reduceIte]
    have k2 : KR (D 0 0) σ1 (xsI σ2 20 (nI (D 0 0 + 1))) := ⟨xFr_mono b4 (by simp) (by simp), fun z hz => b5 z (by omega)⟩
    have k3 := KR_tr k1 k2
    have hl1 : L1.length ≤ 1 := by rw [List.length_cons] at hl; omega
    obtain ⟨σ', a, b, c, d⟩ := m_ds36 F x hr 0 (nI e) tv sv H D (Dadd D x (e / 8) (e % 8)) G (e :: L1) L1[0]? hF hB hx hr1 h7 hG (by show D 0 0 + 1 < 44; omega) (by show D 0 0 ≤ D 0 0 + 1; omega) (fun c q => hc c (List.mem_cons_of_mem _ (List.mem_of_getElem? q))) (by
      match L1, hl1 with
      | [], _ => rfl
      | [e'], _ => rfl
      | _ :: _ :: _, hl1 => simp at hl1) (xsI σ2 20 (nI (D 0 0 + 1))) (MH_K hM' k3) b3
    exact ⟨σ', a, KR_tr k3 b, c, d⟩
def myX (H : Hs) (ex : Int32) (c : Nat) : Bool := mpX H ex (c % 8) && decide (c / 8 < hT H)
theorem m_mayCode (F c : Nat) (ex : Int32) (H : Hs) (hB : HB H) (hc : c < 48) (σ : xSt) (hM' : MH σ H) : mX9_mayCode F (nI c) ex σ = some (bI (myX H ex c = true), σ) := by
  have hb1 := hB.1
  have hb2 := hB.2.1
  have e2 : nI c / 8 = nI (c / 8) := pk_div (d := 8) (by omega) (by decide) (by decide)
  have e3 : nI c - nI (c / 8) * 8 = nI (c % 8) := by
    rw [← e2]
    exact pk_rem (d := 8) (by omega) (by decide) (by decide)
  unfold mX9_mayCode mX9_mayCode_L34 mX9_mayCode_L35
  simp only [show xnzI 8 = true from rfl, e2, e3, hM'.1, hM'.2.2.1, show xbit 0 = true from rfl, show xbit 1 = true from rfl, xb1_s, xb2_s, xck_1, i10, i00, i11, ↓reduceIte]
  unfold myX mpX
  by_cases q1 : c % 8 < hP H
  · rw [if_neg (nI_ge q1 (by omega)), decide_eq_true q1]
    by_cases q2 : c / 8 < hT H
    · rw [if_neg (nI_ge q2 (by omega)), decide_eq_true q2]
      by_cases q3 : nI (c % 8) = ex
      · rw [if_pos q3, decide_eq_true q3]; rfl
      · rw [if_neg q3, decide_eq_false q3]; rfl
    · rw [if_pos (nI_le (by omega) (by omega)), decide_eq_false q2, Bool.and_false]; rfl
  · rw [if_pos (nI_le (by omega) (by omega)), decide_eq_false q1]; rfl
