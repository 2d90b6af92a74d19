/-! ===== pairs: the bits ===== -/
theorem fold_tb {f : Nat → Nat → Nat} {q : Nat → Bool} {p : Nat} (h : ∀ x b, (f x b).testBit p = (x.testBit p || q b)) : ∀ (l : List Nat) (x : Nat), (l.foldl f x).testBit p = (x.testBit p || l.any q)
  | [], x => by simp
  | b :: l, x => by rw [List.foldl_cons, fold_tb h l, h, List.any_cons, Bool.or_assoc]
def bB (v : Int32) (k : Nat) : Bool := decide (hasB v k)
def Bt (v : Int32) (p : Nat) : Bool := bB v (p / 8) && bB v (p % 8)
def Ap (v : Int32) (p : Nat) : Bool := bB v (p / 8) != bB v (p % 8)
theorem inX_tb (v : Int32) (a p x b : Nat) : (inX v a x b).testBit p = (x.testBit p || ((bB v a && bB v b) && decide (p = 8 * a + b))) := by
  unfold inX bB
  by_cases q1 : hasB v a
  · by_cases q2 : hasB v b
    · rw [if_pos ⟨q1, q2⟩, Nat.testBit_or, Nat.testBit_two_pow, decide_eq_true q1, decide_eq_true q2]
      congr 1
      rw [Bool.true_and, Bool.true_and]
      exact decide_eq_decide.mpr ⟨fun h => h.symm, fun h => h.symm⟩
    · rw [if_neg (fun w => q2 w.2), decide_eq_false q2, Bool.and_false, Bool.false_and, Bool.or_false]
  · rw [if_neg (fun w => q1 w.1), decide_eq_false q1, Bool.false_and, Bool.false_and, Bool.or_false]
theorem inY_tb (v : Int32) (a p x b : Nat) : (inY v a x b).testBit p = (x.testBit p || ((bB v a != bB v b) && decide (p = 8 * a + b))) := by
  unfold inY bB
  have e : ∀ k, (2 ^ k).testBit p = decide (p = k) := fun k => by
    rw [Nat.testBit_two_pow]
    exact decide_eq_decide.mpr ⟨fun h => h.symm, fun h => h.symm⟩
  by_cases q1 : hasB v a
  · by_cases q2 : hasB v b
    · rw [if_pos ⟨fun _ => q2, fun _ => q1⟩, decide_eq_true q1, decide_eq_true q2]; simp
    · rw [if_neg (fun w => q2 (w.mp q1)), decide_eq_true q1, decide_eq_false q2, Nat.testBit_or, e]; simp
  · by_cases q2 : hasB v b
    · rw [if_neg (fun w => q1 (w.mpr q2)), decide_eq_false q1, decide_eq_true q2, Nat.testBit_or, e]; simp
    · rw [if_pos ⟨fun w => absurd w q1, fun w => absurd w q2⟩, decide_eq_false q1, decide_eq_false q2]; simp
theorem pr_any (g : Nat → Nat → Bool) (p : Nat) : ((List.range' 0 8).any fun a => (List.range' (a + 1) (7 - a)).any fun b => g a b && decide (p = 8 * a + b)) = (decide (p / 8 < p % 8) && decide (p < 64) && g (p / 8) (p % 8)) := by
  apply Bool.eq_iff_iff.mpr
  simp only [List.any_eq_true, List.mem_range'_1, Bool.and_eq_true, decide_eq_true_eq]
  constructor
  · rintro ⟨a, ha, b, hb, hg, e⟩
    have e1 : p / 8 = a := by omega
    have e2 : p % 8 = b := by omega
    rw [e1, e2]
    exact ⟨⟨by omega, by omega⟩, hg⟩
  · rintro ⟨⟨h1, h2⟩, hg⟩
    exact ⟨p / 8, ⟨by omega, by omega⟩, p % 8, ⟨by omega, by omega⟩, hg, by omega⟩
theorem hrX_tb (H : Hs) (D : Dy) (t p x h : Nat) : (hrX H D t x h).testBit p = (x.testBit p || (decide (p / 8 < p % 8) && decide (p < 64) && Bt (tlv H D t h) p)) := by
  unfold hrX Bt
  rw [← pr_any (fun a b => bB (tlv H D t h) a && bB (tlv H D t h) b) p]
  exact fold_tb (f := rwX (tlv H D t h)) (fun x a => fold_tb (inX_tb (tlv H D t h) a p) (List.range' (a + 1) (7 - a)) x) _ x
theorem hrY_tb (H : Hs) (D : Dy) (t p x h : Nat) : (hrY H D t x h).testBit p = (x.testBit p || (decide (p / 8 < p % 8) && decide (p < 64) && Ap (tlv H D t h) p)) := by
  unfold hrY Ap
  rw [← pr_any (fun a b => bB (tlv H D t h) a != bB (tlv H D t h) b) p]
  exact fold_tb (f := rwY (tlv H D t h)) (fun x a => fold_tb (inY_tb (tlv H D t h) a p) (List.range' (a + 1) (7 - a)) x) _ x
def allP (H : Hs) (D : Dy) (g : Int32 → Nat → Bool) (p : Nat) : Bool := (List.range' 0 24).any fun h => (List.range' 0 (hT H)).any fun t => g (tlv H D t h) p
theorem any_sw {f : Nat → Nat → Bool} {l1 l2 : List Nat} : (l1.any fun a => l2.any fun b => f a b) = (l2.any fun b => l1.any fun a => f a b) := by
  apply Bool.eq_iff_iff.mpr
  simp only [List.any_eq_true]
  constructor
  · rintro ⟨a, ha, b, hb, e⟩; exact ⟨b, hb, a, ha, e⟩
  · rintro ⟨a, ha, b, hb, e⟩; exact ⟨b, hb, a, ha, e⟩
theorem any_and {f : Nat → Bool} {c : Bool} {l : List Nat} : (l.any fun a => c && f a) = (c && l.any f) := by
  apply Bool.eq_iff_iff.mpr
  simp only [List.any_eq_true, Bool.and_eq_true]
  constructor
  · rintro ⟨a, ha, hc, e⟩; exact ⟨hc, a, ha, e⟩
  · rintro ⟨hc, a, ha, e⟩; exact ⟨a, ha, hc, e⟩
theorem allX_tb (H : Hs) (D : Dy) (p : Nat) : ((List.range' 0 (hT H)).foldl (thX H D) 0).testBit p = (decide (p / 8 < p % 8) && decide (p < 64) && allP H D Bt p) := by
  rw [fold_tb (f := thX H D) (fun x t => fold_tb (hrX_tb H D t p) (List.range' 0 24) x) _ 0, Nat.zero_testBit, Bool.false_or, any_sw]
  simp only [any_and]
  rfl
theorem allY_tb (H : Hs) (D : Dy) (p : Nat) : ((List.range' 0 (hT H)).foldl (thY H D) 0).testBit p = (decide (p / 8 < p % 8) && decide (p < 64) && allP H D Ap p) := by
  rw [fold_tb (f := thY H D) (fun x t => fold_tb (hrY_tb H D t p) (List.range' 0 24) x) _ 0, Nat.zero_testBit, Bool.false_or, any_sw]
  simp only [any_and]
  rfl
def tgB (H : Hs) (D : Dy) (p : Nat) : Bool := decide (p / 8 < p % 8) && decide (p < 64) && allP H D Bt p && !allP H D Ap p
def tgZ (H : Hs) (D : Dy) : Nat := (List.range' 0 (hT H)).foldl (thX H D) 0 &&& ((List.range' 0 (hT H)).foldl (thY H D) 0 ^^^ (2 ^ 64 - 1))
theorem tgZ_tb (H : Hs) (D : Dy) (p : Nat) : (tgZ H D).testBit p = tgB H D p := by
  unfold tgZ tgB
  rw [Nat.testBit_and, Nat.testBit_xor, Nat.testBit_two_pow_sub_one, allX_tb, allY_tb]
  by_cases q1 : p < 64
  · by_cases q2 : p / 8 < p % 8
    · simp [q1, q2]
    · simp [q2]
  · simp [q1]
theorem tgZ_lt (H : Hs) (D : Dy) : tgZ H D < 2 ^ 56 := by
  refine Nat.lt_pow_two_of_testBit _ (fun i hi => ?_)
  rw [tgZ_tb]
  unfold tgB
  by_cases q2 : i / 8 < i % 8
  · have : ¬ (i < 64) := by omega
    simp [this]
  · simp [q2]
theorem c_insep {σc σm : xSt} {H : Hs} {D : Dy} (F : Nat) (hF : 100 ≤ F) (hH : Hse σc σm H D) : ∃ σ', mX2_inseparable F σc = some (lN (tgZ H D), σ') ∧ xFr [1, 2] [2, 3, 4] σc σ' := by
  have hb1 := hH.1.1
  obtain ⟨σ', a, b⟩ := c_in7 F hF (hT H) F 0 0 0 σc (by omega) (by omega) hH
  refine ⟨σ', ?_, b⟩
  unfold mX2_inseparable tgZ
  rw [← fb_andL, ← fb_xorL]
  exact a
theorem fb_ct_cg {s s' : Nat → Bool} : ∀ n, (∀ p, p < n → s p = s' p) → fb_ct s n = fb_ct s' n
  | 0, _ => rfl
  | n + 1, h => by rw [fb_ct_succ, fb_ct_succ, h n (by omega), fb_ct_cg n (fun p hp => h p (by omega))]
theorem kth_cg {s s' : Nat → Bool} {i : Nat} : ∀ n, (∀ p, p < n → s p = s' p) → kth s i n = kth s' i n
  | 0, _ => rfl
  | n + 1, h => by
    show (if s n && decide (fb_ct s n = i) then nI n else kth s i n) = (if s' n && decide (fb_ct s' n = i) then nI n else kth s' i n)
    rw [h n (by omega), fb_ct_cg n (fun p hp => h p (by omega)), kth_cg n (fun p hp => h p (by omega))]
