/-! ===== the search for the least row ===== -/
def firstF (f : Nat → Bool) : Nat → Nat → Option Nat
  | _, 0 => none
  | a, d + 1 => if f a then some a else firstF f (a + 1) d
theorem firstF_some {f : Nat → Bool} {i : Nat} : ∀ {d a : Nat}, firstF f a d = some i → a ≤ i ∧ i < a + d ∧ f i = true ∧ ∀ j, a ≤ j → j < a + d → f j = true → i ≤ j
  | 0, a, h => by cases h
  | d + 1, a, h => by
    unfold firstF at h
    by_cases q : f a = true
    · rw [if_pos q] at h; cases h
      exact ⟨Nat.le_refl _, by omega, q, fun j hj _ _ => hj⟩
    · rw [if_neg q] at h
      obtain ⟨h1, h2, h3, h4⟩ := firstF_some h
      refine ⟨by omega, by omega, h3, fun j hj hj2 hf => ?_⟩
      by_cases e : j = a
      · rw [e] at hf; exact absurd hf q
      · exact h4 j (by omega) (by omega) hf
theorem firstF_none {f : Nat → Bool} : ∀ {d a : Nat}, firstF f a d = none → ∀ j, a ≤ j → j < a + d → ¬ f j = true
  | 0, a, _, j, h1, h2 => by omega
  | d + 1, a, h, j, h1, h2 => by
    unfold firstF at h
    by_cases q : f a = true
    · rw [if_pos q] at h; cases h
    · rw [if_neg q] at h
      by_cases e : j = a
      · rw [e]; exact q
      · exact firstF_none h j (by omega) (by omega)
/-- the first pair a ≤ c, c + g ≤ e below a + d -/
def pairF (g : Nat) (f : Nat → Nat → Bool) : Nat → Nat → Option (Nat × Nat)
  | _, 0 => none
  | a, d + 1 => match firstF (f a) (a + g) (d + 1 - g) with
    | some e => some (a, e)
    | none => pairF g f (a + 1) d
theorem pairF_some {g : Nat} {f : Nat → Nat → Bool} {i k : Nat} (hg : g ≤ 1) : ∀ {d a : Nat}, pairF g f a d = some (i, k) → a ≤ i ∧ i + g ≤ k ∧ k < a + d ∧ f i k = true ∧ ∀ j e, a ≤ j → j + g ≤ e → e < a + d → f j e = true → i < j ∨ (i = j ∧ k ≤ e)
  | 0, a, h => by cases h
  | d + 1, a, h => by
    unfold pairF at h
    cases q : firstF (f a) (a + g) (d + 1 - g) with
    | some e =>
      rw [q] at h
      cases h
      obtain ⟨h1, h2, h3, h4⟩ := firstF_some q
      refine ⟨Nat.le_refl _, h1, by omega, h3, fun j e' hj he he2 hf => ?_⟩
      by_cases w : j = i
      · subst w; exact Or.inr ⟨rfl, h4 e' (by omega) (by omega) hf⟩
      · left; omega
    | none =>
      rw [q] at h
      obtain ⟨h1, h2, h3, h4, h5⟩ := pairF_some hg h
      refine ⟨by omega, h2, by omega, h4, fun j e' hj he he2 hf => ?_⟩
      by_cases w : j = a
      · subst w; exact absurd hf (firstF_none q e' (by omega) (by omega))
      · exact h5 j e' (by omega) he (by omega) hf
theorem pairF_none {g : Nat} {f : Nat → Nat → Bool} (hg : g ≤ 1) : ∀ {d a : Nat}, pairF g f a d = none → ∀ j e, a ≤ j → j + g ≤ e → e < a + d → ¬ f j e = true
  | 0, a, _, j, e, h1, h2, h3 => by omega
  | d + 1, a, h, j, e, h1, h2, h3 => by
    unfold pairF at h
    cases q : firstF (f a) (a + g) (d + 1 - g) with
    | some e => rw [q] at h; cases h
    | none =>
      rw [q] at h
      by_cases w : j = a
      · subst w; exact firstF_none q e (by omega) (by omega)
      · exact pairF_none hg h j e (by omega) h2 (by omega)
def tkR (most c : Nat) : Option (List Nat) → Option (List Nat)
  | none => none
  | some L => if most ≤ L.length then none else some (L ++ [c])
def needR (g : Nat → List Nat → Bool) (mp : Nat → Bool) (P t : Nat) (L : List Nat) : Option (List Nat) :=
  match firstF (fun p => mp p && g t [8 * t + p]) 0 P with
  | some p => tkR 2 (8 * t + p) (some L)
  | none => match pairF 1 (fun p q => mp p && (mp q && g t [8 * t + p, 8 * t + q])) 0 P with
    | some (p, q) => tkR 2 (8 * t + q) (tkR 2 (8 * t + p) (some L))
    | none => none
def stepR (S : Nat → Bool) (g : Nat → List Nat → Bool) (mp : Nat → Bool) (P : Nat) (R : Option (List Nat)) (t : Nat) : Option (List Nat) :=
  match R with
  | none => none
  | some L => if S t = true then (if g t [] = true then some L else needR g mp P t L) else some L
def clR (S : Nat → Bool) (g : Nat → List Nat → Bool) (mp : Nat → Bool) (P : Nat) : Nat → Option (List Nat)
  | 0 => some []
  | n + 1 => stepR S g mp P (clR S g mp P n) n
def GR (S : Nat → Bool) (g : Nat → List Nat → Bool) (n : Nat) (L : List Nat) : Prop := ∀ t, t < n → S t = true → g t L = true
def SpR (S : Nat → Bool) (g : Nat → List Nat → Bool) (mp : Nat → Bool) (n : Nat) : Option (List Nat) → Prop
  | none => ¬ GR S g n [] ∧ (∀ c', c' / 8 < n → mp (c' % 8) = true → ¬ GR S g n [c']) ∧ ∀ c' d', c' ≤ d' → d' / 8 < n → mp (c' % 8) = true → mp (d' % 8) = true → ¬ GR S g n [c', d']
  | some [] => GR S g n []
  | some [c] => ¬ GR S g n [] ∧ c / 8 < n ∧ mp (c % 8) = true ∧ GR S g n [c] ∧ ∀ c', c' / 8 < n → mp (c' % 8) = true → GR S g n [c'] → c ≤ c'
  | some [c, d] => ¬ GR S g n [] ∧ (∀ c', c' / 8 < n → mp (c' % 8) = true → ¬ GR S g n [c']) ∧ c ≤ d ∧ d / 8 < n ∧ mp (c % 8) = true ∧ mp (d % 8) = true ∧ GR S g n [c, d] ∧ ∀ c' d', c' ≤ d' → d' / 8 < n → mp (c' % 8) = true → mp (d' % 8) = true → GR S g n [c', d'] → c < c' ∨ (c = c' ∧ d ≤ d')
  | some (_ :: _ :: _ :: _) => False
theorem GR_s {S : Nat → Bool} {g : Nat → List Nat → Bool} {n : Nat} {L : List Nat} : GR S g (n + 1) L ↔ GR S g n L ∧ (S n = true → g n L = true) := by
  constructor
  · intro h; exact ⟨fun t ht => h t (by omega), h n (by omega)⟩
  · rintro ⟨h1, h2⟩ t ht hs
    by_cases e : t = n
    · subst e; exact h2 hs
    · exact h1 t (by omega) hs
theorem SpR_step {S : Nat → Bool} {g : Nat → List Nat → Bool} {mp : Nat → Bool} {P T n : Nat} (hP8 : P ≤ 8) (hmp : ∀ p, mp p = true → p < P) (hn : n < T)
    (g1 : ∀ t c, t < T → c / 8 ≠ t → g t [c] = g t []) (g2a : ∀ t c d, t < T → d / 8 ≠ t → g t [c, d] = g t [c]) (g2b : ∀ t c d, t < T → c / 8 ≠ t → g t [c, d] = g t [d]) (gcc : ∀ t c, t < T → c / 8 = t → g t [c, c] = g t [c])
    {R : Option (List Nat)} (h : SpR S g mp n R) : SpR S g mp (n + 1) (stepR S g mp P R n) := by
  have A1 : ∀ c, n ≤ c / 8 → (GR S g n [c] ↔ GR S g n []) := fun c hc =>
    ⟨fun w t ht hs => by rw [← g1 t c (by omega) (by omega)]; exact w t ht hs, fun w t ht hs => by rw [g1 t c (by omega) (by omega)]; exact w t ht hs⟩
  have A2 : ∀ c d, n ≤ d / 8 → (GR S g n [c, d] ↔ GR S g n [c]) := fun c d hc =>
    ⟨fun w t ht hs => by rw [← g2a t c d (by omega) (by omega)]; exact w t ht hs, fun w t ht hs => by rw [g2a t c d (by omega) (by omega)]; exact w t ht hs⟩
  by_cases ok : S n = true → g n [] = true
  · have es : stepR S g mp P R n = R := by
      unfold stepR
      cases R with
      | none => rfl
      | some L =>
        by_cases q : S n = true
        · simp only [if_pos q, if_pos (ok q)]
        · simp only [if_neg q]
    rw [es]
    match R, h with
    | none, h =>
      obtain ⟨h1, h2, h3⟩ := h
      refine ⟨fun w => h1 (GR_s.mp w).1, fun c' hc hm w => ?_, fun c' d' hcd hd hm hm2 w => ?_⟩
      · have w1 := (GR_s.mp w).1
        by_cases e : c' / 8 < n
        · exact h2 c' e hm w1
        · exact h1 ((A1 c' (by omega)).mp w1)
      · have w1 := (GR_s.mp w).1
        by_cases e : d' / 8 < n
        · exact h3 c' d' hcd e hm hm2 w1
        · have w2 := (A2 c' d' (by omega)).mp w1
          by_cases e2 : c' / 8 < n
          · exact h2 c' e2 hm w2
          · exact h1 ((A1 c' (by omega)).mp w2)
    | some [], h => exact GR_s.mpr ⟨h, ok⟩
    | some [c], h =>
      obtain ⟨h1, h2, h3, h4, h5⟩ := h
      refine ⟨fun w => h1 (GR_s.mp w).1, by omega, h3, GR_s.mpr ⟨h4, fun hs => by rw [g1 n c hn (by omega)]; exact ok hs⟩, fun c' hc hm w => ?_⟩
      by_cases e : c' / 8 < n
      · exact h5 c' e hm (GR_s.mp w).1
      · omega
    | some [c, d], h =>
      obtain ⟨h1, h2, h3, h4, h5, h6, h7, h8⟩ := h
      refine ⟨fun w => h1 (GR_s.mp w).1, fun c' hc hm w => ?_, h3, by omega, h5, h6, GR_s.mpr ⟨h7, fun hs => by rw [g2a n c d hn (by omega), g1 n c hn (by omega)]; exact ok hs⟩, fun c' d' hcd hd hm hm2 w => ?_⟩
      · have w1 := (GR_s.mp w).1
        by_cases e : c' / 8 < n
        · exact h2 c' e hm w1
        · exact h1 ((A1 c' (by omega)).mp w1)
      · have w1 := (GR_s.mp w).1
        by_cases e : d' / 8 < n
        · exact h8 c' d' hcd e hm hm2 w1
        · have w2 := (A2 c' d' (by omega)).mp w1
          by_cases e2 : c' / 8 < n
          · exact absurd w2 (h2 c' e2 hm)
          · left; omega
  · have hS : S n = true := Decidable.byContradiction (fun q => ok (fun w => absurd w q))
    have hg : ¬ g n [] = true := fun q => ok (fun _ => q)
    have B1 : ∀ c, c / 8 < n → ¬ GR S g (n + 1) [c] := fun c hc w => hg (by rw [← g1 n c hn (by omega)]; exact (GR_s.mp w).2 hS)
    have B2 : ∀ c d, c ≤ d → d / 8 < n → ¬ GR S g (n + 1) [c, d] := fun c d hcd hd w => hg (by rw [← g1 n c hn (by omega), ← g2a n c d hn (by omega)]; exact (GR_s.mp w).2 hS)
    have B0 : ¬ GR S g (n + 1) [] := fun w => hg ((GR_s.mp w).2 hS)
    -- singles of n
    have f1n : firstF (fun p => mp p && g n [8 * n + p]) 0 P = none → ∀ c, c / 8 = n → mp (c % 8) = true → ¬ g n [c] = true := fun q c hc hm w => by
      refine firstF_none q (c % 8) (by omega) (by have := hmp _ hm; omega) ?_
      rw [Bool.and_eq_true]
      exact ⟨hm, by rw [show 8 * n + c % 8 = c by omega]; exact w⟩
    match R, h with
    | none, h =>
      obtain ⟨h1, h2, h3⟩ := h
      show SpR S g mp (n + 1) none
      refine ⟨B0, fun c' hc hm w => ?_, fun c' d' hcd hd hm hm2 w => ?_⟩
      · by_cases e : c' / 8 < n
        · exact B1 c' e w
        · exact h1 ((A1 c' (by omega)).mp (GR_s.mp w).1)
      · by_cases e : d' / 8 < n
        · exact B2 c' d' hcd e w
        · have w2 := (A2 c' d' (by omega)).mp (GR_s.mp w).1
          by_cases e2 : c' / 8 < n
          · exact h2 c' e2 hm w2
          · exact h1 ((A1 c' (by omega)).mp w2)
    | some [], h =>
      show SpR S g mp (n + 1) (if S n = true then (if g n [] = true then some [] else needR g mp P n []) else some [])
      rw [if_pos hS, if_neg hg]
      unfold needR
      cases q : firstF (fun p => mp p && g n [8 * n + p]) 0 P with
      | some p =>
        show SpR S g mp (n + 1) (some [8 * n + p])
        obtain ⟨f1, f2, f3, f4⟩ := firstF_some q
        rw [Bool.and_eq_true] at f3
        have hc8 : (8 * n + p) / 8 = n := by omega
        have hc9 : (8 * n + p) % 8 = p := by omega
        refine ⟨B0, by omega, by rw [hc9]; exact f3.1, GR_s.mpr ⟨(A1 _ (by omega)).mpr h, fun _ => f3.2⟩, fun c' hc hm w => ?_⟩
        by_cases e : c' / 8 < n
        · exact absurd w (B1 c' e)
        · have := f4 (c' % 8) (by omega) (by have := hmp _ hm; omega) (by
            rw [Bool.and_eq_true]
            exact ⟨hm, by rw [show 8 * n + c' % 8 = c' by omega]; exact (GR_s.mp w).2 hS⟩)
          omega
      | none =>
        have f1 := f1n q
        have sng : ∀ c', c' / 8 < n + 1 → mp (c' % 8) = true → ¬ GR S g (n + 1) [c'] := fun c' hc hm w => by
          by_cases e : c' / 8 < n
          · exact B1 c' e w
          · exact f1 c' (by omega) hm ((GR_s.mp w).2 hS)
        have prs : ∀ c' d', c' ≤ d' → d' / 8 < n + 1 → mp (c' % 8) = true → mp (d' % 8) = true → GR S g (n + 1) [c', d'] → c' / 8 = n ∧ d' / 8 = n ∧ c' % 8 + 1 ≤ d' % 8 ∧ g n [c', d'] = true := fun c' d' hcd hd hm hm2 w => by
          have w2 := (GR_s.mp w).2 hS
          by_cases e : d' / 8 < n
          · exact absurd w (B2 c' d' hcd e)
          · by_cases e2 : c' / 8 < n
            · rw [g2b n c' d' hn (by omega)] at w2
              exact absurd w2 (f1 d' (by omega) hm2)
            · refine ⟨by omega, by omega, ?_, w2⟩
              by_cases e3 : c' = d'
              · rw [← e3, gcc n c' hn (by omega)] at w2
                exact absurd w2 (f1 c' (by omega) hm)
              · omega
        cases q2 : pairF 1 (fun p q => mp p && (mp q && g n [8 * n + p, 8 * n + q])) 0 P with
        | none =>
          show SpR S g mp (n + 1) none
          refine ⟨B0, sng, fun c' d' hcd hd hm hm2 w => ?_⟩
          obtain ⟨w1, w2, w3, w4⟩ := prs c' d' hcd hd hm hm2 w
          refine pairF_none (by omega) q2 (c' % 8) (d' % 8) (by omega) w3 (by have := hmp _ hm2; omega) ?_
          rw [Bool.and_eq_true, Bool.and_eq_true, show 8 * n + c' % 8 = c' by omega, show 8 * n + d' % 8 = d' by omega]
          exact ⟨hm, hm2, w4⟩
        | some pq =>
          obtain ⟨p, r⟩ := pq
          show SpR S g mp (n + 1) (some [8 * n + p, 8 * n + r])
          obtain ⟨k1, k2, k3, k4, k5⟩ := pairF_some (by omega) q2
          rw [Bool.and_eq_true, Bool.and_eq_true] at k4
          have hc9 : (8 * n + p) % 8 = p := by omega
          have hd9 : (8 * n + r) % 8 = r := by omega
          refine ⟨B0, sng, by omega, by omega, by rw [hc9]; exact k4.1, by rw [hd9]; exact k4.2.1, GR_s.mpr ⟨(A2 _ _ (by omega)).mpr ((A1 _ (by omega)).mpr h), fun _ => k4.2.2⟩, fun c' d' hcd hd hm hm2 w => ?_⟩
          obtain ⟨w1, w2, w3, w4⟩ := prs c' d' hcd hd hm hm2 w
          have := k5 (c' % 8) (d' % 8) (by omega) w3 (by have := hmp _ hm2; omega) (by
            rw [Bool.and_eq_true, Bool.and_eq_true, show 8 * n + c' % 8 = c' by omega, show 8 * n + d' % 8 = d' by omega]
            exact ⟨hm, hm2, w4⟩)
          omega
    | some [c], h =>
      obtain ⟨h1, h2, h3, h4, h5⟩ := h
      have sng : ∀ c', c' / 8 < n + 1 → mp (c' % 8) = true → ¬ GR S g (n + 1) [c'] := fun c' hc hm w => by
        by_cases e : c' / 8 < n
        · exact B1 c' e w
        · exact h1 ((A1 c' (by omega)).mp (GR_s.mp w).1)
      show SpR S g mp (n + 1) (if S n = true then (if g n [] = true then some [c] else needR g mp P n [c]) else some [c])
      rw [if_pos hS, if_neg hg]
      unfold needR
      cases q : firstF (fun p => mp p && g n [8 * n + p]) 0 P with
      | some p =>
        show SpR S g mp (n + 1) (some [c, 8 * n + p])
        obtain ⟨f1, f2, f3, f4⟩ := firstF_some q
        rw [Bool.and_eq_true] at f3
        have hd9 : (8 * n + p) % 8 = p := by omega
        refine ⟨B0, sng, by omega, by omega, h3, by rw [hd9]; exact f3.1, GR_s.mpr ⟨(A2 _ _ (by omega)).mpr h4, fun _ => by rw [g2b n c _ hn (by omega)]; exact f3.2⟩, fun c' d' hcd hd hm hm2 w => ?_⟩
        by_cases e : d' / 8 < n
        · exact absurd w (B2 c' d' hcd e)
        · by_cases e2 : c' / 8 < n
          · have w1 := h5 c' e2 hm ((A2 c' d' (by omega)).mp (GR_s.mp w).1)
            have w2 := (GR_s.mp w).2 hS
            rw [g2b n c' d' hn (by omega)] at w2
            have := f4 (d' % 8) (by omega) (by have := hmp _ hm2; omega) (by
              rw [Bool.and_eq_true]
              exact ⟨hm2, by rw [show 8 * n + d' % 8 = d' by omega]; exact w2⟩)
            omega
          · left; omega
      | none =>
        have f1 := f1n q
        have fin : SpR S g mp (n + 1) none := by
          refine ⟨B0, sng, fun c' d' hcd hd hm hm2 w => ?_⟩
          by_cases e : d' / 8 < n
          · exact B2 c' d' hcd e w
          · by_cases e2 : c' / 8 < n
            · have w2 := (GR_s.mp w).2 hS
              rw [g2b n c' d' hn (by omega)] at w2
              exact f1 d' (by omega) hm2 w2
            · exact h1 ((A1 c' (by omega)).mp ((A2 c' d' (by omega)).mp (GR_s.mp w).1))
        cases q2 : pairF 1 (fun p q => mp p && (mp q && g n [8 * n + p, 8 * n + q])) 0 P with
        | none => exact fin
        | some pq => exact fin
    | some [c, d], h =>
      obtain ⟨h1, h2, h3, h4, h5, h6, h7, h8⟩ := h
      have fin : SpR S g mp (n + 1) none := by
        refine ⟨B0, fun c' hc hm w => ?_, fun c' d' hcd hd hm hm2 w => ?_⟩
        · by_cases e : c' / 8 < n
          · exact B1 c' e w
          · exact h1 ((A1 c' (by omega)).mp (GR_s.mp w).1)
        · by_cases e : d' / 8 < n
          · exact B2 c' d' hcd e w
          · have w2 := (A2 c' d' (by omega)).mp (GR_s.mp w).1
            by_cases e2 : c' / 8 < n
            · exact h2 c' e2 hm w2
            · exact h1 ((A1 c' (by omega)).mp w2)
      show SpR S g mp (n + 1) (if S n = true then (if g n [] = true then some [c, d] else needR g mp P n [c, d]) else some [c, d])
      rw [if_pos hS, if_neg hg]
      unfold needR
      cases q : firstF (fun p => mp p && g n [8 * n + p]) 0 P with
      | some p => exact fin
      | none =>
        cases q2 : pairF 1 (fun p q => mp p && (mp q && g n [8 * n + p, 8 * n + q])) 0 P with
        | none => exact fin
        | some pq => exact fin
/-- what an exhaustive search finds -/
def modR (G : List Nat → Bool) (my : Nat → Bool) : Option (List Nat) :=
  if G [] = true then some [] else match firstF (fun c => my c && G [c]) 0 48 with
    | some c => some [c]
    | none => match pairF 0 (fun c d => my c && (my d && G [c, d])) 0 48 with
      | some (c, d) => some [c, d]
      | none => none
theorem SpR_mod {S : Nat → Bool} {g : Nat → List Nat → Bool} {mp my : Nat → Bool} {T : Nat} {G : List Nat → Bool} {R : Option (List Nat)} (hT6 : T ≤ 6) (hG : ∀ L, G L = true ↔ GR S g T L) (hmy : ∀ c, my c = true ↔ (c / 8 < T ∧ mp (c % 8) = true)) (h : SpR S g mp T R) : modR G my = R := by
  have a1 : ∀ c, (my c && G [c]) = true ↔ (c / 8 < T ∧ mp (c % 8) = true) ∧ GR S g T [c] := fun c => by rw [Bool.and_eq_true, hmy, hG]
  have a2 : ∀ c d, (my c && (my d && G [c, d])) = true ↔ (c / 8 < T ∧ mp (c % 8) = true) ∧ (d / 8 < T ∧ mp (d % 8) = true) ∧ GR S g T [c, d] := fun c d => by rw [Bool.and_eq_true, Bool.and_eq_true, hmy, hmy, hG]
  unfold modR
  match R, h with
  | some [], h => rw [if_pos ((hG []).mpr h)]
  | some [c], h =>
    obtain ⟨h1, h2, h3, h4, h5⟩ := h
    rw [if_neg (fun w => h1 ((hG []).mp w))]
    cases q : firstF (fun c => my c && G [c]) 0 48 with
    | none => exact absurd ((a1 c).mpr ⟨⟨h2, h3⟩, h4⟩) (firstF_none q c (by omega) (by omega))
    | some e =>
      obtain ⟨f1, f2, f3, f4⟩ := firstF_some q
      obtain ⟨⟨k1, k2⟩, k3⟩ := (a1 e).mp f3
      have x1 := h5 e k1 k2 k3
      have x2 := f4 c (by omega) (by omega) ((a1 c).mpr ⟨⟨h2, h3⟩, h4⟩)
      show some [e] = some [c]
      rw [show e = c by omega]
  | some [c, d], h =>
    obtain ⟨h1, h2, h3, h4, h5, h6, h7, h8⟩ := h
    rw [if_neg (fun w => h1 ((hG []).mp w))]
    cases q : firstF (fun c => my c && G [c]) 0 48 with
    | some e =>
      obtain ⟨f1, f2, f3, f4⟩ := firstF_some q
      obtain ⟨⟨k1, k2⟩, k3⟩ := (a1 e).mp f3
      exact absurd k3 (h2 e k1 k2)
    | none =>
      have hw : (my c && (my d && G [c, d])) = true := (a2 c d).mpr ⟨⟨by omega, h5⟩, ⟨h4, h6⟩, h7⟩
      cases q2 : pairF 0 (fun c d => my c && (my d && G [c, d])) 0 48 with
      | none => exact absurd hw (pairF_none (by omega) q2 c d (by omega) (by omega) (by omega))
      | some pq =>
        obtain ⟨e, r⟩ := pq
        obtain ⟨k1, k2, k3, k4, k5⟩ := pairF_some (by omega) q2
        obtain ⟨⟨l1, l2⟩, ⟨l3, l4⟩, l5⟩ := (a2 e r).mp k4
        have x1 := h8 e r (by omega) l3 l2 l4 l5
        have x2 := k5 c d (by omega) (by omega) (by omega) hw
        show some [e, r] = some [c, d]
        rw [show e = c by omega, show r = d by omega]
  | none, h =>
    obtain ⟨h1, h2, h3⟩ := h
    rw [if_neg (fun w => h1 ((hG []).mp w))]
    cases q : firstF (fun c => my c && G [c]) 0 48 with
    | some e =>
      obtain ⟨f1, f2, f3, f4⟩ := firstF_some q
      obtain ⟨⟨k1, k2⟩, k3⟩ := (a1 e).mp f3
      exact absurd k3 (h2 e k1 k2)
    | none =>
      cases q2 : pairF 0 (fun c d => my c && (my d && G [c, d])) 0 48 with
      | none => rfl
      | some pq =>
        obtain ⟨e, r⟩ := pq
        obtain ⟨k1, k2, k3, k4, k5⟩ := pairF_some (by omega) q2
        obtain ⟨⟨l1, l2⟩, ⟨l3, l4⟩, l5⟩ := (a2 e r).mp k4
        exact absurd l5 (h3 e r (by omega) l3 l2 l4)
theorem SpR_all {S : Nat → Bool} {g : Nat → List Nat → Bool} {mp : Nat → Bool} {P T : Nat} (hP8 : P ≤ 8) (hmp : ∀ p, mp p = true → p < P)
    (g1 : ∀ t c, t < T → c / 8 ≠ t → g t [c] = g t []) (g2a : ∀ t c d, t < T → d / 8 ≠ t → g t [c, d] = g t [c]) (g2b : ∀ t c d, t < T → c / 8 ≠ t → g t [c, d] = g t [d]) (gcc : ∀ t c, t < T → c / 8 = t → g t [c, c] = g t [c]) : ∀ n, n ≤ T → SpR S g mp n (clR S g mp P n)
  | 0, _ => fun t ht => by omega
  | n + 1, h => SpR_step hP8 hmp h g1 g2a g2b gcc (SpR_all hP8 hmp g1 g2a g2b gcc n (by omega))
