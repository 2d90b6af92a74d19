/-! ===== windows: the least row ===== -/
def tkN (c : Nat) : Nat → Option (List Nat) → Option (List Nat)
  | 0, R => R
  | k + 1, R => tkN c k (tkR 3 c R)
theorem tkN_none (c : Nat) : ∀ k, tkN c k none = none
  | 0 => rfl
  | k + 1 => tkN_none c k
theorem tkN_s (c : Nat) : ∀ (k : Nat) (L : List Nat), L.length ≤ 3 → tkN c k (some L) = if L.length + k ≤ 3 then some (L ++ List.replicate k c) else none
  | 0, L, h => by simp [tkN, h]
  | k + 1, L, h => by
    show tkN c k (if 3 ≤ L.length then none else some (L ++ [c])) = _
    by_cases q : 3 ≤ L.length
    · rw [if_pos q, if_neg (by omega), tkN_none]
    · rw [if_neg q, tkN_s c k (L ++ [c]) (by rw [List.length_append]; show L.length + 1 ≤ 3; omega)]
      rw [List.length_append]
      show (if L.length + 1 + k ≤ 3 then some (L ++ [c] ++ List.replicate k c) else none) = _
      by_cases q2 : L.length + 1 + k ≤ 3
      · rw [if_pos q2, if_pos (by omega), List.append_assoc, List.replicate_succ]; rfl
      · rw [if_neg q2, if_neg (by omega)]
def stepA (S : Nat → Bool) (w : Nat → Nat → Bool) (R : Option (List Nat)) (t : Nat) : Option (List Nat) :=
  match R with
  | none => none
  | some L => if S t = true then (match firstF (w t) 0 4 with | some k => tkN t k (some L) | none => none) else some L
def clA (S : Nat → Bool) (w : Nat → Nat → Bool) : Nat → Option (List Nat)
  | 0 => some []
  | n + 1 => stepA S w (clA S w n) n
def GA (S : Nat → Bool) (w : Nat → Nat → Bool) (n : Nat) (L : List Nat) : Prop := ∀ t, t < n → S t = true → w t (L.count t) = true
def SpA (S : Nat → Bool) (w : Nat → Nat → Bool) (n : Nat) : Option (List Nat) → Prop
  | none => ∀ L' : List Nat, L'.length ≤ 3 → ¬ GA S w n L'
  | some L => L.length ≤ 3 ∧ L.Pairwise (· ≤ ·) ∧ (∀ e, e ∈ L → e < n) ∧ GA S w n L ∧ ∀ L', GA S w n L' → ∀ t, L.count t ≤ L'.count t
theorem GA_s {S : Nat → Bool} {w : Nat → Nat → Bool} {n : Nat} {L : List Nat} : GA S w (n + 1) L ↔ GA S w n L ∧ (S n = true → w n (L.count n) = true) := by
  constructor
  · intro h; exact ⟨fun t ht => h t (by omega), h n (by omega)⟩
  · rintro ⟨h1, h2⟩ t ht hs
    by_cases e : t = n
    · subst e; exact h2 hs
    · exact h1 t (by omega) hs
theorem sub_len : ∀ (A B : List Nat), (∀ t, A.count t ≤ B.count t) → A.length ≤ B.length ∧ (B.length ≤ A.length → A.Perm B)
  | [], B, _ => ⟨Nat.zero_le _, fun h => by
    have : B = [] := List.length_eq_zero_iff.mp (by simpa using h)
    rw [this]⟩
  | a :: A, B, h => by
    have ha : a ∈ B := by
      have := h a
      rw [List.count_cons_self] at this
      exact List.count_pos_iff.mp (by omega)
    have hc : ∀ t, A.count t ≤ (B.erase a).count t := fun t => by
      have := h t
      rw [List.count_cons] at this
      rw [List.count_erase]
      omega
    obtain ⟨l1, l2⟩ := sub_len A (B.erase a) hc
    have hl := List.length_erase_of_mem ha
    have hp : 0 < B.length := List.length_pos_of_mem ha
    rw [hl] at l1 l2
    refine ⟨by rw [List.length_cons]; omega, fun hh => ?_⟩
    rw [List.length_cons] at hh
    exact ((l2 (by omega)).cons a).trans (List.perm_cons_erase ha).symm
theorem SpA_step {S : Nat → Bool} {w : Nat → Nat → Bool} {n : Nat} {R : Option (List Nat)} (h : SpA S w n R) : SpA S w (n + 1) (stepA S w R n) := by
  unfold stepA
  cases R with
  | none => exact fun L' hl g => h L' hl (GA_s.mp g).1
  | some L =>
    obtain ⟨h1, h2, h3, h4, h5⟩ := h
    by_cases q : S n = true
    · simp only [if_pos q]
      have c0 : L.count n = 0 := List.count_eq_zero.mpr (fun hm => by have := h3 n hm; omega)
      cases f : firstF (w n) 0 4 with
      | none =>
        show SpA S w (n + 1) none
        intro L' hl g
        have hc : L'.count n ≤ L'.length := List.count_le_length
        exact firstF_none f (L'.count n) (by omega) (by omega) ((GA_s.mp g).2 q)
      | some k =>
        obtain ⟨f1, f2, f3, f4⟩ := firstF_some f
        show SpA S w (n + 1) (tkN n k (some L))
        rw [tkN_s n k L h1]
        have cn : ∀ t, (L ++ List.replicate k n).count t = L.count t + if t = n then k else 0 := fun t => by
          rw [List.count_append, List.count_replicate]
          by_cases e : t = n
          · rw [if_pos e, if_pos (by simp [e])]
          · rw [if_neg e, if_neg (by simp; exact fun z => e z.symm)]
        have low : ∀ L', GA S w (n + 1) L' → ∀ t, (L ++ List.replicate k n).count t ≤ L'.count t := fun L' g t => by
          rw [cn]
          have a := h5 L' (GA_s.mp g).1 t
          by_cases e : t = n
          · rw [if_pos e, e, c0]
            have := (GA_s.mp g).2 q
            by_cases z : L'.count n < 4
            · have := f4 (L'.count n) (by omega) (by omega) this
              omega
            · omega
          · rw [if_neg e]; exact a
        by_cases z : L.length + k ≤ 3
        · rw [if_pos z]
          refine ⟨by rw [List.length_append, List.length_replicate]; exact z, ?_, fun e he => ?_, GA_s.mpr ⟨fun t ht hs => ?_, fun _ => ?_⟩, low⟩
          · rw [List.pairwise_append]
            refine ⟨h2, ?_, fun a ha b hb => ?_⟩
            · exact List.pairwise_replicate.mpr (Or.inr (Nat.le_refl _))
            · have := h3 a ha
              rw [List.eq_of_mem_replicate hb]; omega
          · rcases List.mem_append.mp he with he | he
            · have := h3 e he; omega
            · rw [List.eq_of_mem_replicate he]; omega
          · rw [cn, if_neg (by omega)]; exact h4 t ht hs
          · rw [cn, if_pos rfl, c0, Nat.zero_add]; exact f3
        · rw [if_neg z]
          intro L' hl g
          have := (sub_len _ _ (low L' g)).1
          rw [List.length_append, List.length_replicate] at this
          omega
    · simp only [if_neg q]
      exact ⟨h1, h2, fun e he => by have := h3 e he; omega, GA_s.mpr ⟨h4, fun z => absurd z q⟩, fun L' g t => h5 L' (GA_s.mp g).1 t⟩
theorem SpA_all {S : Nat → Bool} {w : Nat → Nat → Bool} : ∀ n, SpA S w n (clA S w n)
  | 0 => ⟨by simp, by simp, by simp, fun t ht => by omega, fun L' _ t => by simp⟩
  | n + 1 => SpA_step (SpA_all n)
def tripF (f : Nat → Nat → Nat → Bool) : Nat → Nat → Option (Nat × Nat × Nat)
  | _, 0 => none
  | a, d + 1 => match pairF 0 (f a) a (d + 1) with
    | some (b, c) => some (a, b, c)
    | none => tripF f (a + 1) d
theorem tripF_some {f : Nat → Nat → Nat → Bool} {i j k : Nat} : ∀ {d a : Nat}, tripF f a d = some (i, j, k) → a ≤ i ∧ i ≤ j ∧ j ≤ k ∧ k < a + d ∧ f i j k = true
  | 0, a, h => by cases h
  | d + 1, a, h => by
    unfold tripF at h
    cases q : pairF 0 (f a) a (d + 1) with
    | some e =>
      obtain ⟨b, c⟩ := e
      rw [q] at h
      cases h
      obtain ⟨h1, h2, h3, h4, h5⟩ := pairF_some (by omega) q
      exact ⟨Nat.le_refl _, h1, by omega, by omega, h4⟩
    | none =>
      rw [q] at h
      obtain ⟨h1, h2, h3, h4, h5⟩ := tripF_some h
      exact ⟨by omega, h2, h3, by omega, h5⟩
theorem tripF_none {f : Nat → Nat → Nat → Bool} : ∀ {d a : Nat}, tripF f a d = none → ∀ i j k, a ≤ i → i ≤ j → j ≤ k → k < a + d → ¬ f i j k = true
  | 0, a, _, i, j, k, h1, h2, h3, h4 => by omega
  | d + 1, a, h, i, j, k, h1, h2, h3, h4 => by
    unfold tripF at h
    cases q : pairF 0 (f a) a (d + 1) with
    | some e => rw [q] at h; cases h
    | none =>
      rw [q] at h
      by_cases w : i = a
      · subst w; exact pairF_none (by omega) q j k (by omega) (by omega) (by omega)
      · exact tripF_none h i j k (by omega) h2 h3 (by omega)
def modA (G : List Nat → Bool) (T : Nat) : Option (List Nat) :=
  if G [] = true then some [] else match firstF (fun a => G [a]) 0 T with
    | some a => some [a]
    | none => match pairF 0 (fun a b => G [a, b]) 0 T with
      | some (a, b) => some [a, b]
      | none => match tripF (fun a b c => G [a, b, c]) 0 T with
        | some (a, b, c) => some [a, b, c]
        | none => none
theorem SpA_mod {S : Nat → Bool} {w : Nat → Nat → Bool} {T : Nat} {G : List Nat → Bool} {R : Option (List Nat)} (hG : ∀ L, G L = true ↔ GA S w T L) (h : SpA S w T R) : modA G T = R := by
  cases R with
  | none =>
    have no : ∀ L : List Nat, L.length ≤ 3 → ¬ G L = true := fun L hl g => h L hl ((hG L).mp g)
    unfold modA
    rw [if_neg (no [] (by simp))]
    cases q : firstF (fun a => G [a]) 0 T with
    | some e => exact absurd (firstF_some q).2.2.1 (no _ (by simp))
    | none =>
      cases q2 : pairF 0 (fun a b => G [a, b]) 0 T with
      | some e => exact absurd (pairF_some (by omega) q2).2.2.2.1 (no _ (by simp))
      | none =>
        cases q3 : tripF (fun a b c => G [a, b, c]) 0 T with
        | some e => exact absurd (tripF_some q3).2.2.2.2 (no _ (by simp))
        | none => rfl
  | some L =>
    obtain ⟨h1, h2, h3, h4, h5⟩ := h
    have low : ∀ L', G L' = true → L'.length < L.length → False := fun L' g hl => by
      have := (sub_len L L' (h5 L' ((hG L').mp g))).1
      omega
    have eq : ∀ L', G L' = true → L'.Pairwise (· ≤ ·) → L'.length = L.length → L' = L := fun L' g hs hl => by
      have := (sub_len L L' (h5 L' ((hG L').mp g))).2 (by omega)
      exact (List.Perm.eq_of_pairwise (fun a b _ _ x y => Nat.le_antisymm x y) h2 hs this).symm
    have g0 := (hG L).mpr h4
    unfold modA
    match L, h1, h2, h3, g0, low, eq with
    | [], _, _, _, g0, _, _ => rw [if_pos g0]
    | [a], _, _, h3, g0, low, eq =>
      rw [if_neg (fun z => low [] z (by simp))]
      cases q : firstF (fun a => G [a]) 0 T with
      | some e => exact congrArg some (eq [e] (firstF_some q).2.2.1 (by simp) rfl)
      | none => exact absurd g0 (firstF_none q a (by omega) (by have := h3 a (by simp); omega))
    | [a, b], _, h2, h3, g0, low, eq =>
      have h3a := h3 a (by simp)
      have h3b := h3 b (by simp)
      have hab : a ≤ b := by simpa using h2
      rw [if_neg (fun z => low [] z (by simp))]
      cases q : firstF (fun a => G [a]) 0 T with
      | some e => exact absurd (low [e] (firstF_some q).2.2.1 (by simp)) (fun z => z)
      | none =>
        cases q2 : pairF 0 (fun a b => G [a, b]) 0 T with
        | some e =>
          obtain ⟨i, j⟩ := e
          obtain ⟨k1, k2, k3, k4, k5⟩ := pairF_some (by omega) q2
          exact congrArg some (eq [i, j] k4 (by simpa using k2) rfl)
        | none => exact absurd g0 (pairF_none (by omega) q2 a b (by omega) (by omega) (by omega))
    | [a, b, c], _, h2, h3, g0, low, eq =>
      have h3c := h3 c (by simp)
      have hs : (a ≤ b ∧ a ≤ c) ∧ b ≤ c := by simpa using h2
      rw [if_neg (fun z => low [] z (by simp))]
      cases q : firstF (fun a => G [a]) 0 T with
      | some e => exact absurd (low [e] (firstF_some q).2.2.1 (by simp)) (fun z => z)
      | none =>
        cases q2 : pairF 0 (fun a b => G [a, b]) 0 T with
        | some e => exact absurd (low [e.1, e.2] (pairF_some (by omega) q2).2.2.2.1 (by simp)) (fun z => z)
        | none =>
          cases q3 : tripF (fun a b c => G [a, b, c]) 0 T with
          | some e =>
            obtain ⟨i, j, k⟩ := e
            obtain ⟨k1, k2, k3, k4, k5⟩ := tripF_some q3
            refine congrArg some (eq [i, j, k] k5 ?_ rfl)
            simp
            omega
          | none => exact absurd g0 (tripF_none q3 a b c (by omega) (by omega) (by omega) (by omega))
    | _ :: _ :: _ :: _ :: _, h1, _, _, _, _, _ => simp at h1
