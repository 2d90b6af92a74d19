theorem m_sm75 (F x hr c : Nat) (tv sv ex : Int32) (H : Hs) (D : Dy) (G : List Nat → Bool) (c64 : Int32 → Int32 → Int32 → Int32 → Int32 → Int32 → xSt → Option (Int32 × xSt)) (hF : 100 ≤ F) (hB : HB H) (hx : x < 24) (hr1 : hr < 24) (h7 : ∀ x, D 7 x = 0) (h8 : D 8 0 = 0) (hG : GV H D x hr tv sv G) (hc : c < 48) : ∀ (d fu e : Nat) (σ : xSt), e + d = 48 → d < fu → MH σ H → MR σ D →
    ∃ σ', mX9_sitsMore_L75 F c64 fu ex (nI x) (nI hr) tv sv (nI c) (nI e) σ = (match firstF (fun e => myX H ex c && (myX H ex e && G [c, e])) e d with | some _ => some (2, σ') | none => c64 ex (nI x) (nI hr) tv sv (nI (c + 1)) σ') ∧ KR (D 0 0) σ σ' ∧ ∀ r, firstF (fun e => myX H ex c && (myX H ex e && G [c, e])) e d = some r → xA σ' 26 0 = nI c ∧ xA σ' 26 1 = nI r := by
  intro d
  induction d with
  | zero =>
    intro fu e σ h1 h2 hM' hR
    obtain ⟨fu, rfl⟩ : ∃ f, fu = f + 1 := ⟨fu - 1, by omega⟩
    show ∃ σ', mX9_sitsMore_S75 F c64 (mX9_sitsMore_L75 F c64 fu) ex (nI x) (nI hr) tv sv (nI c) (nI e) σ = _ ∧ _
    unfold mX9_sitsMore_S75 mX9_sitsMore_L127
    rw [if_pos (show (48 : Int32) ≤ nI e from nI_le (a := 48) (by omega) (by omega)), nI_1]
    exact ⟨σ, rfl, KR_rf, fun r q => by cases q⟩
  | succ d ih =>
    intro fu e σ h1 h2 hM' hR
    obtain ⟨fu, rfl⟩ : ∃ f, fu = f + 1 := ⟨fu - 1, by omega⟩
    show ∃ σ', mX9_sitsMore_S75 F c64 (mX9_sitsMore_L75 F c64 fu) ex (nI x) (nI hr) tv sv (nI c) (nI e) σ = _ ∧ _
    unfold mX9_sitsMore_S75 mX9_sitsMore_L121 mX9_sitsMore_L119
    rw [if_neg (show ¬ ((48 : Int32) ≤ nI e) from nI_ge (b := 48) (by omega) (by omega)), m_mayCode F c ex H hB hc σ hM', xb2_s, m_mayCode F e ex H hB (by omega) σ hM', nI_1]
    have ef : firstF (fun e => myX H ex c && (myX H ex e && G [c, e])) e (d + 1) = if (myX H ex c && (myX H ex e && G [c, e])) then some e else firstF (fun e => myX H ex c && (myX H ex e && G [c, e])) (e + 1) d := rfl
    rw [ef]
    cases q1 : myX H ex c with
    | false =>
      rw [show bI (false = true) = 0 from rfl, if_pos rfl, Bool.false_and, if_neg (by decide)]
      have := ih fu (e + 1) σ (by omega) (by omega) hM' hR
      rw [q1] at this
      exact this
    | true =>
      rw [show bI (true = true) = 1 from rfl, if_neg (by decide), xb2_s]
      cases q2 : myX H ex e with
      | false =>
        rw [show bI (false = true) = 0 from rfl, if_pos rfl, Bool.false_and, Bool.and_false, if_neg (by decide)]
        have := ih fu (e + 1) σ (by omega) (by omega) hM' hR
        rw [q1] at this
        exact this
      | true =>
        obtain ⟨σ1, a1, a2, a3, a4⟩ := m_doesSit F x hr tv sv H D G [c, e] hF hB hx hr1 h7 h8 hG (by simp) (fun z hz => by
          rcases List.mem_cons.mp hz with hz | hz
          · omega
          · rcases List.mem_cons.mp hz with hz | hz
            · omega
            · cases hz) σ hM' hR
        rw [show bI (true = true) = 1 from rfl, if_neg (by decide), show mX9_doesSit F (nI c) (nI e) (nI x) (nI hr) tv sv σ = _ from a1, xb2_s]
        cases q3 : G [c, e] with
        | false =>
          rw [show bI (false = true) = 0 from rfl, if_pos rfl, Bool.and_false, Bool.and_false, if_neg (by decide)]
          obtain ⟨σ', z1, z2, z3⟩ := ih fu (e + 1) σ1 (by omega) (by omega) (MH_K hM' a2) (MR_K hR a2)
          rw [q1] at z1 z3
          exact ⟨σ', z1, KR_tr a2 z2, z3⟩
        | true =>
          rw [show bI (true = true) = 1 from rfl, if_neg (by decide), if_pos (by decide)]
          refine ⟨σ1, rfl, a2, fun r q => ?_⟩
          cases q
          exact ⟨a3, a4⟩
theorem m_sm64 (F x hr : Nat) (tv sv ex : Int32) (H : Hs) (D : Dy) (G : List Nat → Bool) (hF : 100 ≤ F) (hB : HB H) (hx : x < 24) (hr1 : hr < 24) (h7 : ∀ x, D 7 x = 0) (h8 : D 8 0 = 0) (hG : GV H D x hr tv sv G) : ∀ (d fu a : Nat) (σ : xSt), a + d = 48 → d < fu → MH σ H → MR σ D →
    ∃ σ', mX9_sitsMore_L64 F fu ex (nI x) (nI hr) tv sv (nI a) σ = some ((match pairF 0 (fun c e => myX H ex c && (myX H ex e && G [c, e])) a d with | some _ => 2 | none => -1), σ') ∧ KR (D 0 0) σ σ' ∧ ∀ c r, pairF 0 (fun c e => myX H ex c && (myX H ex e && G [c, e])) a d = some (c, r) → xA σ' 26 0 = nI c ∧ xA σ' 26 1 = nI r := by
  intro d
  induction d with
  | zero =>
    intro fu a σ h1 h2 hM' hR
    obtain ⟨fu, rfl⟩ : ∃ f, fu = f + 1 := ⟨fu - 1, by omega⟩
    show ∃ σ', mX9_sitsMore_S64 F (mX9_sitsMore_L64 F fu) ex (nI x) (nI hr) tv sv (nI a) σ = _ ∧ _
    unfold mX9_sitsMore_S64 mX9_sitsMore_L133
    rw [if_pos (show (48 : Int32) ≤ nI a from nI_le (a := 48) (by omega) (by omega))]
    exact ⟨σ, rfl, KR_rf, fun c r q => by cases q⟩
  | succ d ih =>
    intro fu a σ h1 h2 hM' hR
    obtain ⟨fu, rfl⟩ : ∃ f, fu = f + 1 := ⟨fu - 1, by omega⟩
    show ∃ σ', mX9_sitsMore_S64 F (mX9_sitsMore_L64 F fu) ex (nI x) (nI hr) tv sv (nI a) σ = _ ∧ _
    unfold mX9_sitsMore_S64
    rw [if_neg (show ¬ ((48 : Int32) ≤ nI a) from nI_ge (b := 48) (by omega) (by omega))]
    obtain ⟨σ1, a1, a2, a3⟩ := m_sm75 F x hr a tv sv ex H D G (mX9_sitsMore_L64 F fu) hF hB hx hr1 h7 h8 hG (by omega) (d + 1) F a σ (by omega) (by omega) hM' hR
    have ef : pairF 0 (fun c e => myX H ex c && (myX H ex e && G [c, e])) a (d + 1) = match firstF (fun e => myX H ex a && (myX H ex e && G [a, e])) a (d + 1) with | some e => some (a, e) | none => pairF 0 (fun c e => myX H ex c && (myX H ex e && G [c, e])) (a + 1) d := rfl
    rw [a1, ef]
    cases q : firstF (fun e => myX H ex a && (myX H ex e && G [a, e])) a (d + 1) with
    | some r =>
      refine ⟨σ1, rfl, a2, fun c r' w => ?_⟩
      cases w
      exact a3 r q
    | none =>
      obtain ⟨σ', z1, z2, z3⟩ := ih fu (a + 1) σ1 (by omega) (by omega) (MH_K hM' a2) (MR_K hR a2)
      exact ⟨σ', z1, KR_tr a2 z2, z3⟩
theorem m_sm20 (F x hr : Nat) (tv sv ex : Int32) (H : Hs) (D : Dy) (G : List Nat → Bool) (hF : 100 ≤ F) (hB : HB H) (hx : x < 24) (hr1 : hr < 24) (h7 : ∀ x, D 7 x = 0) (h8 : D 8 0 = 0) (hG : GV H D x hr tv sv G) : ∀ (d fu a : Nat) (σ : xSt), a + d = 48 → d < fu → MH σ H → MR σ D →
    ∃ σ', mX9_sitsMore_L20 F fu ex (nI x) (nI hr) tv sv (nI a) σ = (match firstF (fun c => myX H ex c && G [c]) a d with | some _ => some (1, σ') | none => mX9_sitsMore_L61 F ex (nI x) (nI hr) tv sv σ') ∧ KR (D 0 0) σ σ' ∧ ∀ r, firstF (fun c => myX H ex c && G [c]) a d = some r → xA σ' 26 0 = nI r := by
  intro d
  induction d with
  | zero =>
    intro fu a σ h1 h2 hM' hR
    obtain ⟨fu, rfl⟩ : ∃ f, fu = f + 1 := ⟨fu - 1, by omega⟩
    show ∃ σ', mX9_sitsMore_S20 F (mX9_sitsMore_L20 F fu) ex (nI x) (nI hr) tv sv (nI a) σ = _ ∧ _
    unfold mX9_sitsMore_S20
    rw [if_pos (show (48 : Int32) ≤ nI a from nI_le (a := 48) (by omega) (by omega))]
    exact ⟨σ, rfl, KR_rf, fun r q => by cases q⟩
  | succ d ih =>
    intro fu a σ h1 h2 hM' hR
    obtain ⟨fu, rfl⟩ : ∃ f, fu = f + 1 := ⟨fu - 1, by omega⟩
    show ∃ σ', mX9_sitsMore_S20 F (mX9_sitsMore_L20 F fu) ex (nI x) (nI hr) tv sv (nI a) σ = _ ∧ _
    unfold mX9_sitsMore_S20 mX9_sitsMore_L55 mX9_sitsMore_L53
    rw [if_neg (show ¬ ((48 : Int32) ≤ nI a) from nI_ge (b := 48) (by omega) (by omega)), m_mayCode F a ex H hB (by omega) σ hM', xb2_s, nI_1]
    have ef : firstF (fun c => myX H ex c && G [c]) a (d + 1) = if (myX H ex a && G [a]) then some a else firstF (fun c => myX H ex c && G [c]) (a + 1) d := rfl
    rw [ef]
    cases q1 : myX H ex a with
    | false =>
      rw [show bI (false = true) = 0 from rfl, if_pos rfl, Bool.false_and, if_neg (by decide)]
      exact ih fu (a + 1) σ (by omega) (by omega) hM' hR
    | true =>
      obtain ⟨σ1, a1, a2, a3, a4⟩ := m_doesSit F x hr tv sv H D G [a] hF hB hx hr1 h7 h8 hG (by simp) (fun z hz => by
        have := List.mem_singleton.mp hz; omega) σ hM' hR
      rw [show bI (true = true) = 1 from rfl, if_neg (by decide), show mX9_doesSit F (nI a) (-1) (nI x) (nI hr) tv sv σ = _ from a1, xb2_s]
      cases q3 : G [a] with
      | false =>
        rw [show bI (false = true) = 0 from rfl, if_pos rfl, Bool.and_false, if_neg (by decide)]
        obtain ⟨σ', z1, z2, z3⟩ := ih fu (a + 1) σ1 (by omega) (by omega) (MH_K hM' a2) (MR_K hR a2)
        exact ⟨σ', z1, KR_tr a2 z2, z3⟩
      | true =>
        rw [show bI (true = true) = 1 from rfl, if_neg (by decide), if_pos (by decide)]
        refine ⟨σ1, rfl, a2, fun r q => ?_⟩
        cases q
        exact a3
def szI (R : Option (List Nat)) : Int32 := match R with
  | none => -1
  | some L => nI L.length
def RowM (σ : xSt) (R : Option (List Nat)) : Prop := ∀ L, R = some L → L.length ≤ 3 ∧ ∀ i e, L[i]? = some e → xA σ 26 i = nI e
theorem m_sitsMore (F x hr : Nat) (tv sv ex : Int32) (H : Hs) (D : Dy) (G : List Nat → Bool) (hF : 100 ≤ F) (hB : HB H) (hx : x < 24) (hr1 : hr < 24) (h7 : ∀ x, D 7 x = 0) (h8 : D 8 0 = 0) (hG : GV H D x hr tv sv G) (σ : xSt) (hM' : MH σ H) (hR : MR σ D) :
    ∃ σ', mX9_sitsMore F ex (nI x) (nI hr) tv sv σ = some (szI (modR G (myX H ex)), σ') ∧ KR (D 0 0) σ σ' ∧ RowM σ' (modR G (myX H ex)) := by
  obtain ⟨σ1, a1, a2, a3, a4⟩ := m_doesSit F x hr tv sv H D G [] hF hB hx hr1 h7 h8 hG (by simp) (fun z hz => by cases hz) σ hM' hR
  unfold mX9_sitsMore
  rw [show mX9_doesSit F (-1) (-1) (nI x) (nI hr) tv sv σ = _ from a1, xb2_s]
  unfold modR
  cases q0 : G [] with
  | true =>
    rw [show bI (true = true) = 1 from rfl, if_neg (by decide), if_pos rfl]
    refine ⟨σ1, rfl, a2, fun L w => ?_⟩
    cases w
    exact ⟨by simp, fun i e he => by simp at he⟩
  | false =>
    rw [show bI (false = true) = 0 from rfl, if_pos rfl, if_neg (by decide)]
    obtain ⟨σ2, b1, b2, b3⟩ := m_sm20 F x hr tv sv ex H D G hF hB hx hr1 h7 h8 hG 48 F 0 σ1 (by omega) (by omega) (MH_K hM' a2) (MR_K hR a2)
    have k2 := KR_tr a2 b2
    rw [show mX9_sitsMore_L20 F F ex (nI x) (nI hr) tv sv 0 σ1 = _ from b1]
    cases q1 : firstF (fun c => myX H ex c && G [c]) 0 48 with
    | some c =>
      refine ⟨σ2, rfl, k2, fun L w => ?_⟩
      cases w
      refine ⟨by simp, fun i e he => ?_⟩
      match i, he with
      | 0, he => cases he; exact b3 c q1
      | i + 1, he => simp at he
    | none =>
      unfold mX9_sitsMore_L61
      obtain ⟨σ3, c1, c2, c3⟩ := m_sm64 F x hr tv sv ex H D G hF hB hx hr1 h7 h8 hG 48 F 0 σ2 (by omega) (by omega) (MH_K hM' k2) (MR_K hR k2)
      have k3 := KR_tr k2 c2
      cases q2 : pairF 0 (fun c e => myX H ex c && (myX H ex e && G [c, e])) 0 48 with
      | none =>
        rw [q2] at c1
        exact ⟨σ3, c1, k3, fun L w => by cases w⟩
      | some pq =>
        obtain ⟨c, r⟩ := pq
        rw [q2] at c1
        obtain ⟨x1, x2⟩ := c3 c r q2
        refine ⟨σ3, c1, k3, fun L w => ?_⟩
        cases w
        refine ⟨by simp, fun i e he => ?_⟩
        match i, he with
        | 0, he => cases he; exact x1
        | 1, he => cases he; exact x2
        | i + 2, he => simp at he
theorem m_ofRow (F : Nat) (v : Int32) (σ : xSt) (R : Option (List Nat)) (h : RowM σ R) (hv : v = -1 ∨ ∃ j, j < 3 ∧ v = nI j) : mX9_ofRow F (szI R) v σ = some (ansR R v, σ) := by
  unfold mX9_ofRow mX9_ofRow_L24
  cases R with
  | none =>
    rcases hv with rfl | ⟨j, hj, rfl⟩
    · rw [if_pos rfl]; rfl
    · rw [if_neg (nI_m1 (by omega)), if_pos (show szI none ≤ nI j from Int32.le_iff_toInt_le.mpr (by rw [nI_toInt (by omega)]; show (-1 : Int) ≤ j; omega))]; rfl
  | some L =>
    obtain ⟨a, c⟩ := h L rfl
    rcases hv with rfl | ⟨j, hj, rfl⟩
    · rw [if_pos rfl]; rfl
    · rw [if_neg (nI_m1 (by omega))]
      show _ = some (if nI j = -1 then _ else match L[(nI j).toNatClampNeg]? with | some e => nI e | none => -1, σ)
      rw [if_neg (nI_m1 (by omega)), nI_clamp (by omega)]
      by_cases q : L.length ≤ j
      · rw [if_pos (show szI (some L) ≤ nI j from nI_le q (by omega)), List.getElem?_eq_none q]
      · have hj2 : j < L.length := by omega
        have hg := List.getElem?_eq_getElem hj2
        rw [if_neg (show ¬ (szI (some L) ≤ nI j) from nI_ge hj2 (by omega)), xck_in hj (by omega), c j _ hg, hg]
