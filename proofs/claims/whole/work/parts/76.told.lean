/-! ===== rows by hours ===== -/
theorem bk_mem {h : Nat → Nat} {n x q : Nat} : q ∈ bk h n x ↔ q < n ∧ h q = x := by
  unfold bk
  rw [List.mem_filter, List.mem_range, beq_iff_eq]
theorem bk_congr {h h' : Nat → Nat} {n : Nat} (e : ∀ i, i < n → h i = h' i) (x : Nat) : bk h n x = bk h' n x := by
  unfold bk
  refine List.filter_congr (fun i hi => ?_)
  rw [e i (List.mem_range.mp hi)]
theorem bk_succ (h : Nat → Nat) (n x : Nat) : bk h (n + 1) x = bk h n x ++ (if h n = x then [n] else []) := by
  unfold bk
  rw [List.range_succ, List.filter_append]
  by_cases e : h n = x
  · rw [if_pos e]; simp [e]
  · rw [if_neg e]; simp [e]
theorem bks_congr {h h' : Nat → Nat} {n : Nat} (e : ∀ i, i < n → h i = h' i) : ∀ (d a : Nat), bks h n a d = bks h' n a d := by
  intro d
  induction d with
  | zero => intro a; rfl
  | succ d ih => intro a; show bk h n a ++ bks h n (a + 1) d = bk h' n a ++ bks h' n (a + 1) d; rw [bk_congr e, ih]
theorem bks_mem {h : Nat → Nat} {n : Nat} : ∀ {d a q : Nat}, q ∈ bks h n a d → q < n ∧ a ≤ h q ∧ h q < a + d := by
  intro d
  induction d with
  | zero => intro a q hq; cases hq
  | succ d ih =>
    intro a q hq
    rcases List.mem_append.mp hq with hq | hq
    · obtain ⟨h1, h2⟩ := bk_mem.mp hq
      exact ⟨h1, by omega, by omega⟩
    · obtain ⟨h1, h2, h3⟩ := ih hq
      exact ⟨h1, by omega, by omega⟩
theorem bks_add (h : Nat → Nat) (n : Nat) : ∀ (d a e : Nat), bks h n a (d + e) = bks h n a d ++ bks h n (a + d) e := by
  intro d
  induction d with
  | zero => intro a e; rw [Nat.zero_add]; rfl
  | succ d ih =>
    intro a e
    rw [show d + 1 + e = (d + e) + 1 by omega]
    show bk h n a ++ bks h n (a + 1) (d + e) = (bk h n a ++ bks h n (a + 1) d) ++ bks h n (a + (d + 1)) e
    rw [ih, List.append_assoc, show a + 1 + d = a + (d + 1) by omega]
theorem bks_same {h : Nat → Nat} {n : Nat} : ∀ (d a : Nat), (h n < a ∨ a + d ≤ h n) → bks h (n + 1) a d = bks h n a d := by
  intro d
  induction d with
  | zero => intro a _; rfl
  | succ d ih =>
    intro a ha
    show bk h (n + 1) a ++ bks h (n + 1) (a + 1) d = bk h n a ++ bks h n (a + 1) d
    rw [bk_succ, if_neg (by omega), List.append_nil, ih (a + 1) (by omega)]
theorem bks_succ {h : Nat → Nat} {n x : Nat} (hx : h n = x) (hx2 : x < 24) : bks h (n + 1) 0 24 = bks h n 0 (x + 1) ++ n :: bks h n (x + 1) (23 - x) := by
  rw [show 24 = (x + 1) + (23 - x) by omega, bks_add, Nat.zero_add, bks_same (23 - x) (x + 1) (by omega), bks_add h (n + 1) x 0 1, bks_add h n x 0 1, bks_same x 0 (by omega)]
  have e1 : bks h (n + 1) (0 + x) 1 = bks h n (0 + x) 1 ++ [n] := by
    show bk h (n + 1) (0 + x) ++ [] = (bk h n (0 + x) ++ []) ++ [n]
    rw [bk_succ, if_pos (by omega), List.append_nil, List.append_nil]
  rw [e1]
  simp [List.append_assoc]
theorem bks_split (h : Nat → Nat) (n : Nat) {x : Nat} (hx : x < 24) : bks h n 0 24 = bks h n 0 (x + 1) ++ bks h n (x + 1) (23 - x) := by
  rw [show 24 = (x + 1) + (23 - x) by omega, bks_add, Nat.zero_add]
theorem bks_len (h : Nat → Nat) : ∀ n, (∀ i, i < n → h i < 24) → (bks h n 0 24).length = n := by
  intro n
  induction n with
  | zero => intro _; have : bks h 0 0 24 = [] := by
              rw [bks_congr (h' := fun _ => 0) (fun i hi => absurd hi (by omega))]; decide
            rw [this]; rfl
  | succ n ih =>
    intro hh
    have h1 := ih (fun i hi => hh i (by omega))
    rw [bks_split h n (hh n (by omega)), List.length_append] at h1
    rw [bks_succ rfl (hh n (by omega)), List.length_append, List.length_cons]
    omega
def ins (f : Nat → Nat) (n x : Nat) : Nat → Nat := fun i => if i = n then x else f i
theorem ins_n {f : Nat → Nat} {n x : Nat} : ins f n x n = x := if_pos rfl
theorem ins_o {f : Nat → Nat} {n x i : Nat} (h : i ≠ n) : ins f n x i = f i := if_neg h
theorem lnT_le {k : Nat} (hk : k < 3) : lnT k ≤ 44 := by
  rcases (show k = 0 ∨ k = 1 ∨ k = 2 by omega) with rfl | rfl | rfl <;> decide
theorem c_addL (F k x : Nat) (hk : k < 3) (hx : x < 24) (P Q : List Nat) (g : Nat → Nat) (hl : P.length + Q.length < lnT k) (hP : ∀ q, q ∈ P → q < P.length + Q.length ∧ g q ≤ x) (hQ : ∀ q, q ∈ Q → q < P.length + Q.length ∧ x < g q ∧ g q < 24) (v2 v3 : Int32) :
    ∀ (fu d : Nat) (σ : xSt), d ≤ Q.length → d < fu → (∀ q, q < P.length + Q.length → xA σ (15 + k) q = nI (g q)) → (∀ i q, i < P.length + d → (P ++ Q)[i]? = some q → xA σ (24 + k) i = nI q) → (∀ i q, P.length + d < i → (P ++ Q)[i - 1]? = some q → xA σ (24 + k) i = nI q) →
    ∃ σ', mX7_add_L19 F k fu (nI x) v2 v3 (nI (P.length + d)) σ = mX7_add_L64 F k (nI x) v2 v3 (nI P.length) σ' ∧ xFr [] [24 + k] σ σ' ∧ (∀ i q, i < P.length → (P ++ Q)[i]? = some q → xA σ' (24 + k) i = nI q) ∧ (∀ i q, P.length < i → (P ++ Q)[i - 1]? = some q → xA σ' (24 + k) i = nI q) := by
  have h44 := lnT_le hk
  intro fu
  induction fu with
  | zero => intro d σ h1 h2; omega
  | succ fu ih =>
    intro d σ h1 h2 h3 h4 h5
    show ∃ σ', mX7_add_S19 F k (mX7_add_L19 F k fu) (nI x) v2 v3 (nI (P.length + d)) σ = _ ∧ _
    unfold mX7_add_S19
    rcases Nat.eq_zero_or_pos (P.length + d) with e0 | e0
    · have ep : P.length = 0 := by omega
      have ed : d = 0 := by omega
      subst ed
      refine ⟨σ, ?_, xFr_rf, fun i q hi hq => h4 i q (by omega) hq, fun i q hi hq => h5 i q (by omega) hq⟩
      rw [if_pos (by rw [e0]; decide)]
      simp
    · obtain ⟨m, em⟩ : ∃ m, P.length + d = m + 1 := ⟨P.length + d - 1, by omega⟩
      have hm : m < (P ++ Q).length := by rw [List.length_append]; omega
      obtain ⟨q, hq⟩ : ∃ q, (P ++ Q)[m]? = some q := ⟨_, List.getElem?_eq_getElem hm⟩
      have hqo := h4 m q (by omega) hq
      have hqm : q ∈ P ++ Q := List.mem_of_getElem? hq
      have hqb : q < P.length + Q.length := by
        rcases List.mem_append.mp hqm with h | h
        · exact (hP q h).1
        · exact (hQ q h).1
      rw [em, if_neg (nI_nle (by omega) (by omega)), nI_pred, xck_in (by omega) (by omega), nI_clamp (show m < 2 ^ 31 by omega), hqo, xck_in (by omega) (by omega), nI_clamp (show q < 2 ^ 31 by omega), h3 q hqb]
      rcases Nat.eq_zero_or_pos d with ed | ed
      · subst ed
        have hqP : q ∈ P := by
          rw [List.getElem?_append_left (by omega)] at hq
          exact List.mem_of_getElem? hq
        refine ⟨σ, ?_, xFr_rf, fun i q hi hq => h4 i q (by omega) hq, fun i q hi hq => h5 i q (by omega) hq⟩
        rw [if_pos (nI_le (hP q hqP).2 (by omega))]
        rw [show P.length = m + 1 by omega]
      · have hqQ : q ∈ Q := by
          rw [List.getElem?_append_right (by omega)] at hq
          exact List.mem_of_getElem? hq
        have hg := (hQ q hqQ).2
        rw [if_neg (nI_ge hg.1 (by omega)), xck_in (by omega) (by omega), xck_in (by omega) (by omega), pk_m1, nI_clamp (show m + 1 < 2 ^ 31 by omega)]
        obtain ⟨σ', w1, w2, w3, w4⟩ := ih (d - 1) (xsA σ (24 + k) (m + 1) (nI q)) (by omega) (by omega) (fun z hz => by rw [xA_s0 (by omega)]; exact h3 z hz)
          (fun i z hi hz => by rw [xA_s1, upd_0 (by omega)]; exact h4 i z (by omega) hz)
          (fun i z hi hz => by
            rw [xA_s1, upd_e]
            by_cases e : i = m + 1
            · rw [if_pos e]
              subst e
              rw [show m + 1 - 1 = m by omega] at hz
              rw [hq] at hz
              rw [Option.some.inj hz]
            · rw [if_neg e]; exact h5 i z (by omega) hz)
        refine ⟨σ', ?_, xFr_tr (xFr_sA (by simp)) w2, w3, w4⟩
        rw [show P.length + (d - 1) = m by omega] at w1
        exact w1
theorem c_add (F k n x tt oo : Nat) (hF : 100 ≤ F) (hk : k < 3) (hx : x < 24) (h t o : Nat → Nat) (hn : n < lnT k) (σ : xSt) (C : CTold σ k n h t o) : xOk (mX7_add F k (nI x) (nI tt) (nI oo) σ) (fun σ' => CTold σ' k (n + 1) (ins h n x) (ins t n tt) (ins o n oo) ∧ xFr [14 + k] [15 + k, 18 + k, 21 + k, 24 + k] σ σ') := by
  have h44 := lnT_le hk
  obtain ⟨c1, c2, c3⟩ := C
  have hlen := bks_len h n (fun i hi => (c2 i hi).1)
  have hsp := bks_split h n hx
  rw [hsp, List.length_append] at hlen
  unfold mX7_add
  rw [c1]
  refine xOk_t (nI_lt hn (by omega)) ?_
  obtain ⟨σ1, w1, w2, w3, w4⟩ := c_addL F k x hk hx (bks h n 0 (x + 1)) (bks h n (x + 1) (23 - x)) h (by omega) (fun q hq => by have := bks_mem hq; omega) (fun q hq => by have := bks_mem hq; omega) (nI tt) (nI oo) F (bks h n (x + 1) (23 - x)).length σ (by omega) (by omega) (fun q hq => (c2 q (by omega)).2.1) (fun i q hi hq => c3 i q (by rw [hsp]; exact hq)) (fun i q hi hq => by
      have := (List.getElem?_eq_some_iff.mp hq).1
      rw [List.length_append] at this
      omega)
  rw [hlen] at w1
  rw [w1]
  generalize hpl : (bks h n 0 (x + 1)).length = pl at w3 w4 hlen ⊢
  unfold mX7_add_L64
  have i1 : xI σ1 (14 + k) = nI n := by rw [w2.1 _ (by simp)]; exact c1
  simp only [xI_sA, i1, nI_clamp (show pl < 2 ^ 31 by omega), nI_clamp (show n < 2 ^ 31 by omega), xin_nI (show pl < lnT k by omega) (show lnT k < 2 ^ 31 by omega), xin_nI (show n < lnT k by omega) (show lnT k < 2 ^ 31 by omega), nI_1, xck_1]
  refine xOk_ret ⟨⟨?_, fun i hi => ?_, fun i q hq => ?_⟩, ?_⟩
  · rw [xI_sI, if_pos rfl]
  · rw [xA_sI, xA_s0 (by omega), xA_s0 (by omega), xA_s1, xA_s0 (by omega), xA_sI, xA_s0 (by omega), xA_s1, xA_s0 (by omega), xA_s0 (by omega), xA_sI, xA_s1, xA_s0 (by omega), xA_s0 (by omega), xA_s0 (by omega), w2.2 (15 + k) (by simp), w2.2 (18 + k) (by simp), w2.2 (21 + k) (by simp), upd_e, upd_e, upd_e]
    by_cases e : i = n
    · subst e
      rw [if_pos rfl, if_pos rfl, if_pos rfl, ins_n, ins_n, ins_n]
      exact ⟨hx, rfl, rfl, rfl⟩
    · rw [if_neg e, if_neg e, if_neg e, ins_o e, ins_o e, ins_o e]
      exact c2 i (by omega)
  · rw [xA_sI, xA_s0 (by omega), xA_s0 (by omega), xA_s0 (by omega), xA_s1, upd_e]
    rw [bks_succ (h := ins h n x) ins_n hx, bks_congr (h := ins h n x) (h' := h) (fun i hi => ins_o (by omega)), bks_congr (h := ins h n x) (h' := h) (fun i hi => ins_o (by omega))] at hq
    by_cases e : i = pl
    · rw [if_pos e]
      rw [e, List.getElem?_append_right (by omega), hpl, Nat.sub_self, List.getElem?_cons_zero] at hq
      rw [Option.some.inj hq]
    · rw [if_neg e]
      rcases Nat.lt_or_ge i pl with z | z
      · rw [List.getElem?_append_left (by omega)] at hq
        exact w3 i q z (by rw [List.getElem?_append_left (by omega)]; exact hq)
      · rw [List.getElem?_append_right (by omega), hpl, show i - pl = (i - 1 - pl) + 1 by omega, List.getElem?_cons_succ] at hq
        exact w4 i q (by omega) (by rw [List.getElem?_append_right (by omega), hpl]; exact hq)
  · exact xFr_tr (xFr_tr (xFr_tr (xFr_tr (xFr_tr (xFr_mono w2 (by simp) (by simp)) (xFr_sA (by simp))) (xFr_sA (by simp))) (xFr_sA (by simp))) (xFr_sA (by simp))) (xFr_sI (by simp))
