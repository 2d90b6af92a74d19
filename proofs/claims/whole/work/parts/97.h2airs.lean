/-! ===== the model's search of windows ===== -/
theorem m_wadd (F x tt : Nat) (D : Dy) (σ : xSt) (hx : x < 24) (ht : tt < 1000) (hn : D 4 0 < 11) (h : MD σ D) : ∃ σ', mX9_addsWindow F (nI x) (nI tt) σ = some σ' ∧ MD σ' (Wadd D x tt) ∧ xFr [21] [15, 16] σ σ' ∧ ∀ i, i ≠ D 4 0 → xA σ' 15 i = xA σ 15 i ∧ xA σ' 16 i = xA σ 16 i := by
  obtain ⟨a, b, c, d, e, g, k, l, m⟩ := h
  unfold mX9_addsWindow mX9_addsWindow_L35
  simp only [xI_sA, e]
  rw [if_neg (nI_m1 (by omega)), xck_in hn (by omega), xck_in hn (by omega), nI_clamp (by omega), nI_1]
  have rows : ∀ i, xA (xsA (xsA σ 15 (D 4 0) (nI x)) 16 (D 4 0) (nI tt)) 15 i = (if i = D 4 0 then nI x else xA σ 15 i) ∧ xA (xsA (xsA σ 15 (D 4 0) (nI x)) 16 (D 4 0) (nI tt)) 16 i = (if i = D 4 0 then nI tt else xA σ 16 i) := by
    intro i
    rw [xA_s0 (show 15 ≠ 16 by decide), xA_s1, xA_s1, xA_s0 (show 16 ≠ 15 by decide), upd_e, upd_e]
    exact ⟨rfl, rfl⟩
  refine ⟨_, rfl, ⟨a, ?_, fun i hi => ?_, show D 4 0 + 1 ≤ 11 by omega, by rw [xI_sI, if_pos rfl]; rfl, fun i hi => ?_, fun x' hx' => ?_, ?_, m⟩, xFr_tr (xFr_tr (xFr_sA (by decide)) (xFr_sA (by decide))) (xFr_sI (by decide)), fun i hi => ?_⟩
  · rw [xI_sI, if_neg (by decide)]; exact b
  · exact c i hi
  · have hi' : i < D 4 0 + 1 := hi
    obtain ⟨r1, r2⟩ := rows i
    rw [xA_sI, xA_sI, r1, r2]
    show _ = nI (ins (D 5) (D 4 0) x i) ∧ _ = nI (ins (D 6) (D 4 0) tt i) ∧ ins (D 5) (D 4 0) x i < 1000 ∧ ins (D 6) (D 4 0) tt i < 1000
    by_cases q : i = D 4 0
    · rw [q, ins_n, ins_n, if_pos rfl, if_pos rfl]; exact ⟨rfl, rfl, by omega, ht⟩
    · rw [ins_o q, ins_o q, if_neg q, if_neg q]; exact g i (by omega)
  · rw [xI_sI, if_neg (by decide)]; exact k x' hx'
  · rw [xI_sI, if_neg (by decide)]; exact l
  · obtain ⟨r1, r2⟩ := rows i
    rw [xA_sI, xA_sI, r1, r2, if_neg hi, if_neg hi]; exact ⟨rfl, rfl⟩
def KW (n : Nat) (σ σ' : xSt) : Prop := xFr [20, 21, 22, 23] [15, 16, 17, 18, 19, 26] σ σ' ∧ ∀ e, e < n → xA σ' 15 e = xA σ 15 e ∧ xA σ' 16 e = xA σ 16 e
theorem KW_rf {n : Nat} {σ : xSt} : KW n σ σ := ⟨xFr_rf, fun _ _ => ⟨rfl, rfl⟩⟩
theorem KW_tr {n : Nat} {σ σ1 σ2 : xSt} (h : KW n σ σ1) (g : KW n σ1 σ2) : KW n σ σ2 := ⟨xFr_tr h.1 g.1, fun e he => by
  obtain ⟨a, b⟩ := h.2 e he
  obtain ⟨a', b'⟩ := g.2 e he
  exact ⟨a'.trans a, b'.trans b⟩⟩
theorem KW_of {n : Nat} {σ σ' : xSt} (f : xFr [20, 21, 22, 23] [17, 18, 19, 26] σ σ') : KW n σ σ' := ⟨xFr_mono f (by simp) (by simp), fun e _ => by
  rw [f.2 15 (by decide), f.2 16 (by decide)]; exact ⟨rfl, rfl⟩⟩
theorem MH_KW {n : Nat} {σ σ' : xSt} {H : Hs} (h : MH σ H) (k : KW n σ σ') : MH σ' H := MH_fr h k.1 (by simp) (by simp)
theorem MR_KW {σ σ' : xSt} {D : Dy} (h : MR σ D) (k : KW (D 4 0) σ σ') : MR σ' D := by
  obtain ⟨a, b, c, d, e, g⟩ := h
  refine ⟨a, by rw [k.1.1 10 (by decide)]; exact b, fun i hi => ?_, d, by rw [k.1.1 14 (by decide)]; exact e, fun i hi => ?_⟩
  · rw [k.1.2 11 (by decide), k.1.2 12 (by decide), k.1.2 13 (by decide)]; exact c i hi
  · obtain ⟨x1, x2⟩ := k.2 i hi
    rw [x1, x2]; exact g i hi
/-- one window more, or none -/
def wopt (D : Dy) (x : Nat) (o : Option Nat) : Dy := match o with
  | some t => Wadd D x t
  | none => D
theorem wopt_n (D : Dy) (x : Nat) (o : Option Nat) : wopt D x o 4 0 ≤ D 4 0 + 1 ∧ D 4 0 ≤ wopt D x o 4 0 := by
  cases o with
  | none => exact ⟨Nat.le_succ _, Nat.le_refl _⟩
  | some t => exact ⟨Nat.le_refl _, Nat.le_succ _⟩
theorem m_wopt (F x n0 : Nat) (D : Dy) (o : Option Nat) (σ : xSt) (hx : x < 24) (ho : ∀ t, o = some t → t < 1000) (hn : D 4 0 < 11) (hn0 : n0 ≤ D 4 0) (h : MD σ D) : ∃ σ', mX9_addsWindow F (nI x) (optI o) σ = some σ' ∧ MD σ' (wopt D x o) ∧ KW n0 σ σ' := by
  cases o with
  | none =>
    unfold mX9_addsWindow mX9_addsWindow_L35
    rw [show optI none = -1 from rfl, if_pos rfl]
    exact ⟨σ, rfl, h, KW_rf⟩
  | some t =>
    obtain ⟨σ', a, b, c, d⟩ := m_wadd F x t D σ hx (ho t rfl) hn h
    exact ⟨σ', a, b, xFr_mono c (by simp) (by simp), fun e he => d e (by omega)⟩
def selV (H : Hs) (L : Nat → Ly) (v : Int32) : Nat → Int32
  | 0 => 0
  | n + 1 => if hasB v n then selV H L v n ||| toldL (hN H n) (L n) else selV H L v n
theorem selV_0 {H : Hs} {L : Nat → Ly} {v : Int32} : ∀ n, selV H L v n = 0 ↔ ∀ t, t < n → hasB v t → toldL (hN H t) (L t) = 0
  | 0 => ⟨fun _ t ht => by omega, fun _ => rfl⟩
  | n + 1 => by
    show (if hasB v n then selV H L v n ||| toldL (hN H n) (L n) else selV H L v n) = 0 ↔ _
    by_cases q : hasB v n
    · rw [if_pos q, Int32.or_eq_zero_iff, selV_0 n]
      constructor
      · rintro ⟨h1, h2⟩ t ht hs
        by_cases e : t = n
        · rw [e]; exact h2
        · exact h1 t (by omega) hs
      · intro h; exact ⟨fun t ht hs => h t (by omega) hs, h n (by omega) q⟩
    · rw [if_neg q, selV_0 n]
      constructor
      · intro h t ht hs
        by_cases e : t = n
        · rw [e] at hs; exact absurd hs q
        · exact h t (by omega) hs
      · intro h t ht hs; exact h t (by omega) hs
theorem m_da58 (F : Nat) (v : Int32) (H : Hs) (L : Nat → Ly) (hF : 100 ≤ F) (hB : HB H) (σ : xSt) (hM' : MH σ H) (hL : MLs σ H L) : ∀ (fu a : Nat), a ≤ hT H → hT H < a + fu →
    mX9_doesAir_L58 F fu v (selV H L v a) (nI a) σ = some (bI (selV H L v (hT H) = 0), σ) := by
  have hb1 := hB.1
  intro fu
  induction fu with
  | zero => intro a h1 h2; omega
  | succ fu ih =>
    intro a h1 h2
    show mX9_doesAir_S58 F (mX9_doesAir_L58 F fu) v (selV H L v a) (nI a) σ = _
    unfold mX9_doesAir_S58 mX9_doesAir_L89 mX9_doesAir_L98 mX9_doesAir_L108
    rw [hM'.1]
    by_cases q : a = hT H
    · rw [if_pos (by rw [q]; exact nI_le (Nat.le_refl _) (by omega)), q]
      by_cases w : selV H L v (hT H) = 0
      · rw [if_pos w, bI_t w]; rfl
      · rw [if_neg w, bI_f w]; rfl
    · rw [if_neg (nI_ge (by omega) (by omega)), m_isI, xb2_s, nI_1, or0, ← ih (a + 1) (by omega) (by omega)]
      show _ = mX9_doesAir_L58 F fu v (if hasB v a then selV H L v a ||| toldL (hN H a) (L a) else selV H L v a) (nI (a + 1)) σ
      by_cases w : hasB v a
      · rw [bI_t w, if_neg (by decide), m_tellsNow F a H hF hB (by omega) (L a) σ hM' (hL a (by omega)).1, xb2_s, if_pos w]
      · rw [bI_f w, if_pos rfl, if_neg w]
def GW (H : Hs) (D : Dy) (x hr : Nat) (v : Int32) (L : List Nat) : Bool := decide (selV H (fun t => dayL H (WL D x L) t (hr + 1)) v (hT H) = 0)
theorem m_doesAir (F x hr : Nat) (v : Int32) (H : Hs) (D : Dy) (L : List Nat) (hF : 100 ≤ F) (hB : HB H) (hx : x < 24) (hr1 : hr < 24) (h7 : ∀ x, D 7 x = 0) (h8 : D 8 0 = 0) (hl : L.length ≤ 3) (hc : ∀ c, c ∈ L → c < 48) (σ : xSt) (hM' : MH σ H) (hR : MR σ D) :
    ∃ σ', mX9_doesAir F (cI L 0) (cI L 1) (cI L 2) v (nI x) (nI hr) σ = some (bI (GW H D x hr v L = true), σ') ∧ KW (D 4 0) σ σ' ∧ xA σ' 26 0 = cI L 0 ∧ xA σ' 26 1 = cI L 1 ∧ xA σ' 26 2 = cI L 2 := by
  have hb1 := hB.1
  have hn := hR.2.2.2.1
  obtain ⟨σ1, a1, a2, a3⟩ := m_asTold2 F hR h7 h8
  have k1 : KW (D 4 0) σ σ1 := KW_of (xFr_mono a3 (by simp) (by simp))
  have gb : ∀ i t, L[i]? = some t → t < 1000 := fun i t q => by
    have := hc t (List.mem_of_getElem? q)
    omega
  obtain ⟨σ2, b1, b2, b3⟩ := m_wopt F x (D 4 0) D L[0]? σ1 hx (gb 0) (by omega) (Nat.le_refl _) a2
  have m1 := wopt_n D x L[0]?
  obtain ⟨σ3, c1, c2, c3⟩ := m_wopt F x (D 4 0) (wopt D x L[0]?) L[1]? σ2 hx (gb 1) (by omega) (by omega) b2
  have m2 := wopt_n (wopt D x L[0]?) x L[1]?
  obtain ⟨σ4, d1, d2, d3⟩ := m_wopt F x (D 4 0) (wopt (wopt D x L[0]?) x L[1]?) L[2]? σ3 hx (gb 2) (by omega) (by omega) c2
  have k4 := KW_tr (KW_tr (KW_tr k1 b3) c3) d3
  have eD : wopt (wopt (wopt D x L[0]?) x L[1]?) x L[2]? = WL D x L := by
    match L, hl with
    | [], _ => rfl
    | [_], _ => rfl
    | [_, _], _ => rfl
    | [_, _, _], _ => rfl
    | _ :: _ :: _ :: _ :: _, hl => simp at hl
  rw [eD] at d2
  have h7' : ∀ x', WL D x L 7 x' = 0 := fun x' => by rw [show WL D x L 7 = D 7 from WL_hi x L D 0]; exact h7 x'
  obtain ⟨σ5, e1, e2, e3⟩ := m_runs F hr H (WL D x L) hF hr1 hB (fun h _ q => by rw [h7' h] at q; omega) σ4 (MH_KW hM' k4) d2
  have fr : xFr [] [26] σ5 (xsA (xsA (xsA σ5 26 0 (cI L 0)) 26 1 (cI L 1)) 26 2 (cI L 2)) := xFr_tr (xFr_tr (xFr_sA (by decide)) (xFr_sA (by decide))) (xFr_sA (by decide))
  have hM6 : MH (xsA (xsA (xsA σ5 26 0 (cI L 0)) 26 1 (cI L 1)) 26 2 (cI L 2)) H := MH_fr (MH_l (MH_KW hM' k4) e2) fr (by simp) (by simp)
  have hL6 : MLs (xsA (xsA (xsA σ5 26 0 (cI L 0)) 26 1 (cI L 1)) 26 2 (cI L 2)) H (fun t => dayL H (WL D x L) t (hr + 1)) := fun t ht => by
    obtain ⟨⟨a, b, c⟩, d⟩ := e3 t ht
    refine ⟨⟨a, ?_, ?_⟩, d⟩
    · rw [fr.2 17 (by decide)]; exact b
    · rw [fr.2 18 (by decide), fr.2 19 (by decide)]; exact c
  have f58 := m_da58 F v H (fun t => dayL H (WL D x L) t (hr + 1)) hF hB _ hM6 hL6 F 0 (by omega) (by omega)
  refine ⟨_, ?_, KW_tr k4 (KW_of (xFr_tr (xFr_mono e2 (by simp) (by simp)) (xFr_mono fr (by simp) (by simp)))), ?_, ?_, ?_⟩
  · unfold mX9_doesAir
    rw [a1, xb1_s, show mX9_addsWindow F (nI x) (cI L 0) σ1 = _ from b1, xb1_s, show mX9_addsWindow F (nI x) (cI L 1) σ2 = _ from c1, xb1_s, show mX9_addsWindow F (nI x) (cI L 2) σ3 = _ from d1, xb1_s, e1, xb1_s]
    simp only [show xin 0 3 = true from rfl, show xin 1 3 = true from rfl, show xin 2 3 = true from rfl, show (0 : Int32).toNatClampNeg = 0 from rfl, show (1 : Int32).toNatClampNeg = 1 from rfl, show (2 : Int32).toNatClampNeg = 2 from rfl, xck_1]
    rw [show mX9_doesAir_L58 F F v 0 0 (xsA (xsA (xsA σ5 26 0 (cI L 0)) 26 1 (cI L 1)) 26 2 (cI L 2)) = _ from f58]
    unfold GW
    congr 2
    exact bI_cg (by rw [decide_eq_true_eq])
  · rw [xA_s1, upd_0 (by decide), xA_s1, upd_0 (by decide), xA_s1, upd_1]
  · rw [xA_s1, upd_0 (by decide), xA_s1, upd_1]
  · rw [xA_s1, upd_1]
theorem m_am18 (F x hr : Nat) (v : Int32) (H : Hs) (D : Dy) (hF : 100 ≤ F) (hB : HB H) (hx : x < 24) (hr1 : hr < 24) (h7 : ∀ x, D 7 x = 0) (h8 : D 8 0 = 0) : ∀ (d fu a : Nat) (σ : xSt), a + d = hT H → d < fu → MH σ H → MR σ D →
    ∃ σ', mX9_airsMore_L18 F fu v (nI x) (nI hr) (nI a) σ = (match firstF (fun a => GW H D x hr v [a]) a d with | some _ => some (1, σ') | none => mX9_airsMore_L49 F v (nI x) (nI hr) σ') ∧ KW (D 4 0) σ σ' ∧ ∀ r, firstF (fun a => GW H D x hr v [a]) a d = some r → xA σ' 26 0 = nI r := by
  have hb1 := hB.1
  intro d
  induction d with
  | zero =>
    intro fu a σ h1 h2 hM' hR
    obtain ⟨fu, rfl⟩ : ∃ f, fu = f + 1 := ⟨fu - 1, by omega⟩
    show ∃ σ', mX9_airsMore_S18 F (mX9_airsMore_L18 F fu) v (nI x) (nI hr) (nI a) σ = _ ∧ _
    unfold mX9_airsMore_S18
    rw [hM'.1, if_pos (nI_le (by omega) (by omega))]
    exact ⟨σ, rfl, KW_rf, fun r q => by cases q⟩
  | succ d ih =>
    intro fu a σ h1 h2 hM' hR
    obtain ⟨fu, rfl⟩ : ∃ f, fu = f + 1 := ⟨fu - 1, by omega⟩
    show ∃ σ', mX9_airsMore_S18 F (mX9_airsMore_L18 F fu) v (nI x) (nI hr) (nI a) σ = _ ∧ _
    unfold mX9_airsMore_S18 mX9_airsMore_L41
    obtain ⟨σ1, a1, a2, a3, a4, a5⟩ := m_doesAir F x hr v H D [a] hF hB hx hr1 h7 h8 (by simp) (fun z hz => by
      have := List.mem_singleton.mp hz; omega) σ hM' hR
    rw [hM'.1, if_neg (nI_ge (by omega) (by omega)), show mX9_doesAir F (nI a) (-1) (-1) v (nI x) (nI hr) σ = _ from a1, xb2_s, nI_1]
    have ef : firstF (fun a => GW H D x hr v [a]) a (d + 1) = if GW H D x hr v [a] then some a else firstF (fun a => GW H D x hr v [a]) (a + 1) d := rfl
    rw [ef]
    cases q3 : GW H D x hr v [a] with
    | false =>
      rw [show bI (false = true) = 0 from rfl, if_pos rfl, if_neg (by decide)]
      obtain ⟨σ', z1, z2, z3⟩ := ih fu (a + 1) σ1 (by omega) (by omega) (MH_KW hM' a2) (MR_KW hR a2)
      exact ⟨σ', z1, KW_tr a2 z2, z3⟩
    | true =>
      rw [show bI (true = true) = 1 from rfl, if_neg (by decide), if_pos rfl]
      refine ⟨σ1, rfl, a2, fun r q => ?_⟩
      cases q
      exact a3
theorem m_am65 (F x hr c : Nat) (v : Int32) (H : Hs) (D : Dy) (c52 : Int32 → Int32 → Int32 → Int32 → xSt → Option (Int32 × xSt)) (hF : 100 ≤ F) (hB : HB H) (hx : x < 24) (hr1 : hr < 24) (h7 : ∀ x, D 7 x = 0) (h8 : D 8 0 = 0) (hc : c < hT H) : ∀ (d fu e : Nat) (σ : xSt), e + d = hT H → d < fu → MH σ H → MR σ D →
    ∃ σ', mX9_airsMore_L65 F c52 fu v (nI x) (nI hr) (nI c) (nI e) σ = (match firstF (fun e => GW H D x hr v [c, e]) e d with | some _ => some (2, σ') | none => c52 v (nI x) (nI hr) (nI (c + 1)) σ') ∧ KW (D 4 0) σ σ' ∧ ∀ r, firstF (fun e => GW H D x hr v [c, e]) e d = some r → xA σ' 26 0 = nI c ∧ xA σ' 26 1 = nI r := by
  have hb1 := hB.1
  intro d
  induction d with
  | zero =>
    intro fu e σ h1 h2 hM' hR
    obtain ⟨fu, rfl⟩ : ∃ f, fu = f + 1 := ⟨fu - 1, by omega⟩
    show ∃ σ', mX9_airsMore_S65 F c52 (mX9_airsMore_L65 F c52 fu) v (nI x) (nI hr) (nI c) (nI e) σ = _ ∧ _
    unfold mX9_airsMore_S65 mX9_airsMore_L97
    rw [hM'.1, if_pos (nI_le (by omega) (by omega)), nI_1]
    exact ⟨σ, rfl, KW_rf, fun r q => by cases q⟩
  | succ d ih =>
    intro fu e σ h1 h2 hM' hR
    obtain ⟨fu, rfl⟩ : ∃ f, fu = f + 1 := ⟨fu - 1, by omega⟩
    show ∃ σ', mX9_airsMore_S65 F c52 (mX9_airsMore_L65 F c52 fu) v (nI x) (nI hr) (nI c) (nI e) σ = _ ∧ _
    unfold mX9_airsMore_S65 mX9_airsMore_L89
    obtain ⟨σ1, a1, a2, a3, a4, a5⟩ := m_doesAir F x hr v H D [c, e] hF hB hx hr1 h7 h8 (by simp) (fun z hz => by
      rcases List.mem_cons.mp hz with hz | hz
      · omega
      · have := List.mem_singleton.mp hz; omega) σ hM' hR
    rw [hM'.1, if_neg (nI_ge (by omega) (by omega)), show mX9_doesAir F (nI c) (nI e) (-1) v (nI x) (nI hr) σ = _ from a1, xb2_s, nI_1]
    have ef : firstF (fun e => GW H D x hr v [c, e]) e (d + 1) = if GW H D x hr v [c, e] then some e else firstF (fun e => GW H D x hr v [c, e]) (e + 1) d := rfl
    rw [ef]
    cases q3 : GW H D x hr v [c, e] with
    | false =>
      rw [show bI (false = true) = 0 from rfl, if_pos rfl, if_neg (by decide)]
      obtain ⟨σ', z1, z2, z3⟩ := ih fu (e + 1) σ1 (by omega) (by omega) (MH_KW hM' a2) (MR_KW hR a2)
      exact ⟨σ', z1, KW_tr a2 z2, z3⟩
    | true =>
      rw [show bI (true = true) = 1 from rfl, if_neg (by decide), if_pos rfl]
      refine ⟨σ1, rfl, a2, fun r q => ?_⟩
      cases q
      exact ⟨a3, a4⟩
theorem m_am52 (F x hr : Nat) (v : Int32) (H : Hs) (D : Dy) (hF : 100 ≤ F) (hB : HB H) (hx : x < 24) (hr1 : hr < 24) (h7 : ∀ x, D 7 x = 0) (h8 : D 8 0 = 0) : ∀ (d fu a : Nat) (σ : xSt), a + d = hT H → d < fu → MH σ H → MR σ D →
    ∃ σ', mX9_airsMore_L52 F fu v (nI x) (nI hr) (nI a) σ = (match pairF 0 (fun a b => GW H D x hr v [a, b]) a d with | some _ => some (2, σ') | none => mX9_airsMore_L103 F v (nI x) (nI hr) σ') ∧ KW (D 4 0) σ σ' ∧ ∀ c r, pairF 0 (fun a b => GW H D x hr v [a, b]) a d = some (c, r) → xA σ' 26 0 = nI c ∧ xA σ' 26 1 = nI r := by
  have hb1 := hB.1
  intro d
  induction d with
  | zero =>
    intro fu a σ h1 h2 hM' hR
    obtain ⟨fu, rfl⟩ : ∃ f, fu = f + 1 := ⟨fu - 1, by omega⟩
    show ∃ σ', mX9_airsMore_S52 F (mX9_airsMore_L52 F fu) v (nI x) (nI hr) (nI a) σ = _ ∧ _
    unfold mX9_airsMore_S52
    rw [hM'.1, if_pos (nI_le (by omega) (by omega))]
    exact ⟨σ, rfl, KW_rf, fun c r q => by cases q⟩
  | succ d ih =>
    intro fu a σ h1 h2 hM' hR
    obtain ⟨fu, rfl⟩ : ∃ f, fu = f + 1 := ⟨fu - 1, by omega⟩
    show ∃ σ', mX9_airsMore_S52 F (mX9_airsMore_L52 F fu) v (nI x) (nI hr) (nI a) σ = _ ∧ _
    unfold mX9_airsMore_S52
    rw [hM'.1, if_neg (nI_ge (by omega) (by omega))]
    obtain ⟨σ1, a1, a2, a3⟩ := m_am65 F x hr a v H D (mX9_airsMore_L52 F fu) hF hB hx hr1 h7 h8 (by omega) (d + 1) F a σ (by omega) (by omega) hM' hR
    have ef : pairF 0 (fun a b => GW H D x hr v [a, b]) a (d + 1) = match firstF (fun e => GW H D x hr v [a, e]) a (d + 1) with | some e => some (a, e) | none => pairF 0 (fun a b => GW H D x hr v [a, b]) (a + 1) d := rfl
    rw [a1, ef]
    cases q : firstF (fun e => GW H D x hr v [a, e]) a (d + 1) with
    | some r =>
      refine ⟨σ1, rfl, a2, fun c r' w => ?_⟩
      cases w
      exact a3 r q
    | none =>
      obtain ⟨σ', z1, z2, z3⟩ := ih fu (a + 1) σ1 (by omega) (by omega) (MH_KW hM' a2) (MR_KW hR a2)
      exact ⟨σ', z1, KW_tr a2 z2, z3⟩
theorem m_am132 (F x hr c e : Nat) (v : Int32) (H : Hs) (D : Dy) (c106 : Int32 → Int32 → Int32 → Int32 → xSt → Option (Int32 × xSt)) (c119 : Int32 → Int32 → Int32 → Int32 → Int32 → xSt → Option (Int32 × xSt)) (hF : 100 ≤ F) (hB : HB H) (hx : x < 24) (hr1 : hr < 24) (h7 : ∀ x, D 7 x = 0) (h8 : D 8 0 = 0) (hc : c < hT H) (he : e < hT H) : ∀ (d fu g : Nat) (σ : xSt), g + d = hT H → d < fu → MH σ H → MR σ D →
    ∃ σ', mX9_airsMore_L132 F c106 c119 fu v (nI x) (nI hr) (nI c) (nI e) (nI g) σ = (match firstF (fun g => GW H D x hr v [c, e, g]) g d with | some _ => some (3, σ') | none => c119 v (nI x) (nI hr) (nI c) (nI (e + 1)) σ') ∧ KW (D 4 0) σ σ' ∧ ∀ r, firstF (fun g => GW H D x hr v [c, e, g]) g d = some r → xA σ' 26 0 = nI c ∧ xA σ' 26 1 = nI e ∧ xA σ' 26 2 = nI r := by
  have hb1 := hB.1
  intro d
  induction d with
  | zero =>
    intro fu g σ h1 h2 hM' hR
    obtain ⟨fu, rfl⟩ : ∃ f, fu = f + 1 := ⟨fu - 1, by omega⟩
    show ∃ σ', mX9_airsMore_S132 F c106 c119 (mX9_airsMore_L132 F c106 c119 fu) v (nI x) (nI hr) (nI c) (nI e) (nI g) σ = _ ∧ _
    unfold mX9_airsMore_S132 mX9_airsMore_L165
    rw [hM'.1, if_pos (nI_le (by omega) (by omega)), nI_1]
    exact ⟨σ, rfl, KW_rf, fun r q => by cases q⟩
  | succ d ih =>
    intro fu g σ h1 h2 hM' hR
    obtain ⟨fu, rfl⟩ : ∃ f, fu = f + 1 := ⟨fu - 1, by omega⟩
    show ∃ σ', mX9_airsMore_S132 F c106 c119 (mX9_airsMore_L132 F c106 c119 fu) v (nI x) (nI hr) (nI c) (nI e) (nI g) σ = _ ∧ _
    unfold mX9_airsMore_S132 mX9_airsMore_L157
    obtain ⟨σ1, a1, a2, a3, a4, a5⟩ := m_doesAir F x hr v H D [c, e, g] hF hB hx hr1 h7 h8 (by simp) (fun z hz => by
      rcases List.mem_cons.mp hz with hz | hz
      · omega
      · rcases List.mem_cons.mp hz with hz | hz
        · omega
        · have := List.mem_singleton.mp hz; omega) σ hM' hR
    rw [hM'.1, if_neg (nI_ge (by omega) (by omega)), show mX9_doesAir F (nI c) (nI e) (nI g) v (nI x) (nI hr) σ = _ from a1, xb2_s, nI_1]
    have ef : firstF (fun g => GW H D x hr v [c, e, g]) g (d + 1) = if GW H D x hr v [c, e, g] then some g else firstF (fun g => GW H D x hr v [c, e, g]) (g + 1) d := rfl
    rw [ef]
    cases q3 : GW H D x hr v [c, e, g] with
    | false =>
      rw [show bI (false = true) = 0 from rfl, if_pos rfl, if_neg (by decide)]
      obtain ⟨σ', z1, z2, z3⟩ := ih fu (g + 1) σ1 (by omega) (by omega) (MH_KW hM' a2) (MR_KW hR a2)
      exact ⟨σ', z1, KW_tr a2 z2, z3⟩
    | true =>
      rw [show bI (true = true) = 1 from rfl, if_neg (by decide), if_pos rfl]
      refine ⟨σ1, rfl, a2, fun r q => ?_⟩
      cases q
      exact ⟨a3, a4, a5⟩
theorem m_am119 (F x hr c : Nat) (v : Int32) (H : Hs) (D : Dy) (c106 : Int32 → Int32 → Int32 → Int32 → xSt → Option (Int32 × xSt)) (hF : 100 ≤ F) (hB : HB H) (hx : x < 24) (hr1 : hr < 24) (h7 : ∀ x, D 7 x = 0) (h8 : D 8 0 = 0) (hc : c < hT H) : ∀ (d fu a : Nat) (σ : xSt), a + d = hT H → d < fu → MH σ H → MR σ D →
    ∃ σ', mX9_airsMore_L119 F c106 fu v (nI x) (nI hr) (nI c) (nI a) σ = (match pairF 0 (fun a b => GW H D x hr v [c, a, b]) a d with | some _ => some (3, σ') | none => c106 v (nI x) (nI hr) (nI (c + 1)) σ') ∧ KW (D 4 0) σ σ' ∧ ∀ e r, pairF 0 (fun a b => GW H D x hr v [c, a, b]) a d = some (e, r) → xA σ' 26 0 = nI c ∧ xA σ' 26 1 = nI e ∧ xA σ' 26 2 = nI r := by
  have hb1 := hB.1
  intro d
  induction d with
  | zero =>
    intro fu a σ h1 h2 hM' hR
    obtain ⟨fu, rfl⟩ : ∃ f, fu = f + 1 := ⟨fu - 1, by omega⟩
    show ∃ σ', mX9_airsMore_S119 F c106 (mX9_airsMore_L119 F c106 fu) v (nI x) (nI hr) (nI c) (nI a) σ = _ ∧ _
    unfold mX9_airsMore_S119 mX9_airsMore_L171
    rw [hM'.1, if_pos (nI_le (by omega) (by omega)), nI_1]
    exact ⟨σ, rfl, KW_rf, fun c r q => by cases q⟩
  | succ d ih =>
    intro fu a σ h1 h2 hM' hR
    obtain ⟨fu, rfl⟩ : ∃ f, fu = f + 1 := ⟨fu - 1, by omega⟩
    show ∃ σ', mX9_airsMore_S119 F c106 (mX9_airsMore_L119 F c106 fu) v (nI x) (nI hr) (nI c) (nI a) σ = _ ∧ _
    unfold mX9_airsMore_S119
    rw [hM'.1, if_neg (nI_ge (by omega) (by omega))]
    obtain ⟨σ1, a1, a2, a3⟩ := m_am132 F x hr c a v H D c106 (mX9_airsMore_L119 F c106 fu) hF hB hx hr1 h7 h8 hc (by omega) (d + 1) F a σ (by omega) (by omega) hM' hR
    have ef : pairF 0 (fun a b => GW H D x hr v [c, a, b]) a (d + 1) = match firstF (fun e => GW H D x hr v [c, a, e]) a (d + 1) with | some e => some (a, e) | none => pairF 0 (fun a b => GW H D x hr v [c, a, b]) (a + 1) d := rfl
    rw [a1, ef]
    cases q : firstF (fun e => GW H D x hr v [c, a, e]) a (d + 1) with
    | some r =>
      refine ⟨σ1, rfl, a2, fun e r' w => ?_⟩
      cases w
      exact a3 r q
    | none =>
      obtain ⟨σ', z1, z2, z3⟩ := ih fu (a + 1) σ1 (by omega) (by omega) (MH_KW hM' a2) (MR_KW hR a2)
      exact ⟨σ', z1, KW_tr a2 z2, z3⟩
theorem m_am106 (F x hr : Nat) (v : Int32) (H : Hs) (D : Dy) (hF : 100 ≤ F) (hB : HB H) (hx : x < 24) (hr1 : hr < 24) (h7 : ∀ x, D 7 x = 0) (h8 : D 8 0 = 0) : ∀ (d fu a : Nat) (σ : xSt), a + d = hT H → d < fu → MH σ H → MR σ D →
    ∃ σ', mX9_airsMore_L106 F fu v (nI x) (nI hr) (nI a) σ = some ((match tripF (fun a b c => GW H D x hr v [a, b, c]) a d with | some _ => 3 | none => -1), σ') ∧ KW (D 4 0) σ σ' ∧ ∀ c e r, tripF (fun a b c => GW H D x hr v [a, b, c]) a d = some (c, e, r) → xA σ' 26 0 = nI c ∧ xA σ' 26 1 = nI e ∧ xA σ' 26 2 = nI r := by
  have hb1 := hB.1
  intro d
  induction d with
  | zero =>
    intro fu a σ h1 h2 hM' hR
    obtain ⟨fu, rfl⟩ : ∃ f, fu = f + 1 := ⟨fu - 1, by omega⟩
    show ∃ σ', mX9_airsMore_S106 F (mX9_airsMore_L106 F fu) v (nI x) (nI hr) (nI a) σ = _ ∧ _
    unfold mX9_airsMore_S106 mX9_airsMore_L177
    rw [hM'.1, if_pos (nI_le (by omega) (by omega))]
    exact ⟨σ, rfl, KW_rf, fun c e r q => by cases q⟩
  | succ d ih =>
    intro fu a σ h1 h2 hM' hR
    obtain ⟨fu, rfl⟩ : ∃ f, fu = f + 1 := ⟨fu - 1, by omega⟩
    show ∃ σ', mX9_airsMore_S106 F (mX9_airsMore_L106 F fu) v (nI x) (nI hr) (nI a) σ = _ ∧ _
    unfold mX9_airsMore_S106
    rw [hM'.1, if_neg (nI_ge (by omega) (by omega))]
    obtain ⟨σ1, a1, a2, a3⟩ := m_am119 F x hr a v H D (mX9_airsMore_L106 F fu) hF hB hx hr1 h7 h8 (by omega) (d + 1) F a σ (by omega) (by omega) hM' hR
    have ef : tripF (fun a b c => GW H D x hr v [a, b, c]) a (d + 1) = match pairF 0 (fun b c => GW H D x hr v [a, b, c]) a (d + 1) with | some (b, c) => some (a, b, c) | none => tripF (fun a b c => GW H D x hr v [a, b, c]) (a + 1) d := rfl
    rw [a1, ef]
    cases q : pairF 0 (fun b c => GW H D x hr v [a, b, c]) a (d + 1) with
    | some r =>
      obtain ⟨b, c⟩ := r
      refine ⟨σ1, rfl, a2, fun c' e' r' w => ?_⟩
      cases w
      exact a3 b c q
    | none =>
      obtain ⟨σ', z1, z2, z3⟩ := ih fu (a + 1) σ1 (by omega) (by omega) (MH_KW hM' a2) (MR_KW hR a2)
      exact ⟨σ', z1, KW_tr a2 z2, z3⟩
theorem m_airsMore (F x hr : Nat) (v : Int32) (H : Hs) (D : Dy) (hF : 100 ≤ F) (hB : HB H) (hx : x < 24) (hr1 : hr < 24) (h7 : ∀ x, D 7 x = 0) (h8 : D 8 0 = 0) (σ : xSt) (hM' : MH σ H) (hR : MR σ D) :
    ∃ σ', mX9_airsMore F v (nI x) (nI hr) σ = some (szI (modA (GW H D x hr v) (hT H)), σ') ∧ KW (D 4 0) σ σ' ∧ RowM σ' (modA (GW H D x hr v) (hT H)) := by
  have hb1 := hB.1
  obtain ⟨σ1, a1, a2, a3, a4, a5⟩ := m_doesAir F x hr v H D [] hF hB hx hr1 h7 h8 (by simp) (fun z hz => by cases hz) σ hM' hR
  unfold mX9_airsMore
  rw [show mX9_doesAir F (-1) (-1) (-1) v (nI x) (nI hr) σ = _ from a1, xb2_s]
  unfold modA
  cases q0 : GW H D x hr v [] with
  | true =>
    rw [show bI (true = true) = 1 from rfl, if_neg (by decide), if_pos rfl]
    refine ⟨σ1, rfl, a2, fun L w => ?_⟩
    cases w
    exact ⟨by simp, fun i e he => by simp at he⟩
  | false =>
    rw [show bI (false = true) = 0 from rfl, if_pos rfl, if_neg (by decide)]
    obtain ⟨σ2, b1, b2, b3⟩ := m_am18 F x hr v H D hF hB hx hr1 h7 h8 (hT H) F 0 σ1 (by omega) (by omega) (MH_KW hM' a2) (MR_KW hR a2)
    have k2 := KW_tr a2 b2
    rw [show mX9_airsMore_L18 F F v (nI x) (nI hr) 0 σ1 = _ from b1]
    cases q1 : firstF (fun a => GW H D x hr v [a]) 0 (hT H) with
    | some c =>
      refine ⟨σ2, rfl, k2, fun L w => ?_⟩
      cases w
      refine ⟨by simp, fun i e he => ?_⟩
      match i, he with
      | 0, he => cases he; exact b3 c q1
      | i + 1, he => simp at he
    | none =>
      unfold mX9_airsMore_L49
      obtain ⟨σ3, c1, c2, c3⟩ := m_am52 F x hr v H D hF hB hx hr1 h7 h8 (hT H) F 0 σ2 (by omega) (by omega) (MH_KW hM' k2) (MR_KW hR k2)
      have k3 := KW_tr k2 c2
      rw [show mX9_airsMore_L52 F F v (nI x) (nI hr) 0 σ2 = _ from c1]
      cases q2 : pairF 0 (fun a b => GW H D x hr v [a, b]) 0 (hT H) with
      | some pq =>
        obtain ⟨c, r⟩ := pq
        obtain ⟨x1, x2⟩ := c3 c r q2
        refine ⟨σ3, rfl, k3, fun L w => ?_⟩
        cases w
        refine ⟨by simp, fun i e he => ?_⟩
        match i, he with
        | 0, he => cases he; exact x1
        | 1, he => cases he; exact x2
        | i + 2, he => simp at he
      | none =>
        unfold mX9_airsMore_L103
        obtain ⟨σ4, d1, d2, d3⟩ := m_am106 F x hr v H D hF hB hx hr1 h7 h8 (hT H) F 0 σ3 (by omega) (by omega) (MH_KW hM' k3) (MR_KW hR k3)
        have k4 := KW_tr k3 d2
        cases q3 : tripF (fun a b c => GW H D x hr v [a, b, c]) 0 (hT H) with
        | none =>
          rw [q3] at d1
          exact ⟨σ4, d1, k4, fun L w => by cases w⟩
        | some pq =>
          obtain ⟨c, e, r⟩ := pq
          rw [q3] at d1
          obtain ⟨x1, x2, x3⟩ := d3 c e r q3
          refine ⟨σ4, d1, k4, fun L w => ?_⟩
          cases w
          refine ⟨by simp, fun i e he => ?_⟩
          match i, he with
          | 0, he => cases he; exact x1
          | 1, he => cases he; exact x2
          | 2, he => cases he; exact x3
          | i + 3, he => simp at he
