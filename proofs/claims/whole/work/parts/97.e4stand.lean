/-! ===== stand ===== -/
def wN (f : Nat → Bool) : Nat → Nat
  | 0 => 0
  | n + 1 => if f n then wN f n ||| 2 ^ n else wN f n
theorem wN_lt {f : Nat → Bool} : ∀ n, wN f n < 2 ^ n
  | 0 => Nat.zero_lt_one
  | n + 1 => by
    have h := wN_lt (f := f) n
    have h2 : 2 ^ n < 2 ^ (n + 1) := Nat.pow_lt_pow_right (by omega) (by omega)
    unfold wN
    by_cases q : f n = true
    · rw [if_pos q]; exact Nat.or_lt_two_pow (by omega) h2
    · rw [if_neg q]; omega
theorem whoB_N {f : Nat → Bool} : ∀ n, n ≤ 30 → whoB f n = nI (wN f n)
  | 0, _ => rfl
  | n + 1, h => by
    unfold whoB wN
    rw [whoB_N n (by omega), shl1 n (by omega), fa_or]
    by_cases q : f n = true
    · rw [if_pos q, if_pos q]
    · rw [if_neg q, if_neg q]
theorem wN_bit {f : Nat → Bool} : ∀ n p, (wN f n).testBit p = (decide (p < n) && f p)
  | 0, p => by show (0 : Nat).testBit p = _; rw [Nat.zero_testBit]; simp
  | n + 1, p => by
    unfold wN
    by_cases q : f n = true
    · rw [if_pos q, fb_bit_set, wN_bit n p]
      by_cases e : p = n
      · subst e; simp [q]
      · by_cases e2 : p < n
        · simp [e2, e, show p < n + 1 by omega]
        · simp [e2, e, show ¬ p < n + 1 by omega]
    · rw [if_neg q, wN_bit n p]
      by_cases e : p = n
      · subst e
        have : f p = false := by cases h : f p with
          | true => exact absurd h q
          | false => rfl
        simp [this]
      · by_cases e2 : p < n
        · simp [e2, show p < n + 1 by omega]
        · simp [e2, show ¬ p < n + 1 by omega]
theorem who_has {f : Nat → Bool} {n p : Nat} (hn : n ≤ 8) (hp : p < 32) : hasB (whoB f n) p ↔ (decide (p < n) && f p) = true := by
  rw [whoB_N n (by omega), hasB_t _ p (Nat.lt_of_lt_of_le (wN_lt n) (Nat.pow_le_pow_right (by omega) (by omega))) hp, wN_bit]
def cntA (s : Nat → Bool) (g : Nat → Int32) (p n : Nat) : Nat := fb_ct (fun q => s q && decide (g q = g p)) n
def cM (s : Nat → Bool) (g : Nat → Int32) : Nat → Nat
  | 0 => 0
  | n + 1 => if s n then max (cM s g n) (cntA s g n (n + 1)) else cM s g n
def mM (s : Nat → Bool) (g : Nat → Int32) (P : Nat) : Nat → Nat
  | 0 => 0
  | n + 1 => max (mM s g P n) (if s n then cntA s g n P else 0)
theorem cM_le {s : Nat → Bool} {g : Nat → Int32} {p : Nat} (hs : s p = true) : ∀ n, p < n → cntA s g p (p + 1) ≤ cM s g n
  | 0, h => by omega
  | n + 1, h => by
    unfold cM
    by_cases e : p = n
    · subst e; rw [if_pos hs]; exact Nat.le_max_right _ _
    · have := cM_le hs n (by omega) (g := g)
      by_cases q : s n = true
      · rw [if_pos q]; exact Nat.le_trans this (Nat.le_max_left _ _)
      · rw [if_neg q]; exact this
theorem cM_mM {s : Nat → Bool} {g : Nat → Int32} {P : Nat} : ∀ n, n ≤ P → cM s g n ≤ mM s g P n
  | 0, _ => Nat.le_refl _
  | n + 1, h => by
    have ih := cM_mM n (by omega) (s := s) (g := g) (P := P)
    unfold cM mM
    by_cases q : s n = true
    · rw [if_pos q, if_pos q]
      have : cntA s g n (n + 1) ≤ cntA s g n P := fb_ct_mono _ (by omega)
      exact Nat.max_le.mpr ⟨Nat.le_trans ih (Nat.le_max_left _ _), Nat.le_trans this (Nat.le_max_right _ _)⟩
    · rw [if_neg q, if_neg q]; exact Nat.le_trans ih (Nat.le_max_left _ _)
theorem mM_cM {s : Nat → Bool} {g : Nat → Int32} {P : Nat} : ∀ n, n ≤ P → mM s g P n ≤ cM s g P
  | 0, _ => Nat.zero_le _
  | n + 1, h => by
    have ih := mM_cM n (by omega) (s := s) (g := g) (P := P)
    unfold mM
    refine Nat.max_le.mpr ⟨ih, ?_⟩
    by_cases q : s n = true
    · rw [if_pos q]
      obtain ⟨m, m1, ⟨m2, m3⟩, m4⟩ := fb_last (p := fun i => s i = true ∧ g i = g n) (n := P) ⟨n, by omega, q, rfl⟩
      have e : cntA s g n P = cntA s g m (m + 1) := by
        unfold cntA
        rw [m3]
        obtain ⟨d, hd⟩ : ∃ d, P = (m + 1) + d := ⟨P - (m + 1), by omega⟩
        rw [hd, fb_ct_split]
        have : fb_ct (fun k => s (m + 1 + k) && decide (g (m + 1 + k) = g n)) d = 0 := fb_ct_zero.mpr (fun k hk => by
          have := m4 (m + 1 + k) (by omega) (by omega)
          cases w : s (m + 1 + k) with
          | false => rfl
          | true =>
            have w2 : ¬ g (m + 1 + k) = g n := fun z => this ⟨w, z⟩
            simp [w2])
        omega
      rw [e]
      exact cM_le m2 P m1
    · rw [if_neg q]; exact Nat.zero_le _
theorem cM_ext {s : Nat → Bool} {g : Nat → Int32} {P : Nat} (h : ∀ p, P ≤ p → s p = false) : ∀ d, cM s g (P + d) = cM s g P
  | 0 => rfl
  | d + 1 => by
    show (if s (P + d) then _ else cM s g (P + d)) = _
    rw [h (P + d) (by omega), cM_ext h d]; rfl
theorem alike_eq {s : Nat → Bool} {g : Nat → Int32} {P : Nat} (hP : P ≤ 8) (h : ∀ p, P ≤ p → s p = false) : cM s g 8 = mM s g P P := by
  obtain ⟨d, hd⟩ : ∃ d, 8 = P + d := ⟨8 - P, by omega⟩
  rw [hd, cM_ext h d]
  exact Nat.le_antisymm (cM_mM P (Nat.le_refl _)) (mM_cM P (Nat.le_refl _))
theorem cM_le8 {s : Nat → Bool} {g : Nat → Int32} : ∀ n, cM s g n ≤ n
  | 0 => Nat.le_refl _
  | n + 1 => by
    have ih := cM_le8 n (s := s) (g := g)
    have : cntA s g n (n + 1) ≤ n + 1 := fb_ct_le _ _
    unfold cM
    by_cases q : s n = true
    · rw [if_pos q]; exact Nat.max_le.mpr ⟨by omega, this⟩
    · rw [if_neg q]; omega
theorem nI_max {a b : Nat} (ha : a < 2 ^ 31) (hb : b < 2 ^ 31) : (if nI a < nI b then nI b else nI a) = nI (max a b) := by
  by_cases q : a < b
  · rw [if_pos (nI_lt q hb), Nat.max_eq_right (by omega)]
  · rw [if_neg (nI_nlt (by omega) ha), Nat.max_eq_left (by omega)]
/-! the class's count for one thing -/
theorem c_alikeL (F p : Nat) (W : Int32) (s : Nat → Bool) (g : Nat → Int32) (c40 : Int32 → Int32 → Int32 → Int32 → Int32 → Int32 → Int32 → xSt → Option (Int32 × xSt)) (v1 v2 v3 v5 v6 : Int32) (hp : p < 8) (hs : ∀ q, q < 8 → (hasB W q ↔ s q = true)) (σ : xSt) (ha : ∀ q, q ≤ p → s q = true → xA σ 1 q = g q) (hsp : s p = true) : ∀ (fu q : Nat), q ≤ p + 1 → p + 1 < q + fu →
    mX1_mostAlike_L100 F c40 fu v1 v2 v3 W v5 v6 (nI p) (nI (cntA s g p q)) (nI q) σ = mX1_mostAlike_L143 F c40 v1 v2 v3 W v5 v6 (nI p) (nI (cntA s g p (p + 1))) σ := by
  intro fu
  induction fu with
  | zero => intro q a b; omega
  | succ fu ih =>
    intro q a b
    show mX1_mostAlike_S100 F c40 (mX1_mostAlike_L100 F c40 fu) v1 v2 v3 W v5 v6 (nI p) (nI (cntA s g p q)) (nI q) σ = _
    unfold mX1_mostAlike_S100 mX1_mostAlike_L137
    by_cases e : q = p + 1
    · subst e; rw [if_pos (nI_lt (by omega) (by omega))]
    · rw [if_neg (nI_nlt (by omega) (by omega)), c_hold, xb2_s, nI_1, nI_1, ← ih (q + 1) (by omega) (by omega)]
      have ec : cntA s g p (q + 1) = cntA s g p q + (if (s q && decide (g q = g p)) then 1 else 0) := rfl
      rw [ec]
      by_cases q1 : s q = true
      · rw [bI_t ((hs q (by omega)).mpr q1), if_neg (by decide), xck_in (by omega) (by omega), xck_in hp (by omega), nI_clamp (by omega), nI_clamp (by omega), ha q (by omega) q1, ha p (Nat.le_refl _) hsp]
        by_cases q2 : g q = g p
        · rw [if_pos q2]; simp [q1, q2]
        · rw [if_neg q2]; simp [q1, q2]
      · rw [bI_f (fun z => q1 ((hs q (by omega)).mp z)), if_pos rfl]
        simp [q1]
theorem c_mostL (F t hr i : Nat) (W : Int32) (s : Nat → Bool) (H : Hs) (D : Dy) (hF : 100 ≤ F) (hB : HB H) (ht : t < hT H) (hr1 : hr < 24) (h7 : ∀ x, D 7 x = 0) (hi : i < D 0 0) (h44 : D 0 0 ≤ 44) (h3 : D 3 i < 1000) (hs : ∀ q, q < 8 → (hasB W q ↔ s q = true)) : ∀ (fu p q : Nat) (σ : xSt), p ≤ 8 → 8 < p + fu → CH σ H → CD σ (Dset D i q) → (∀ z, z < p → s z = true → xA σ 1 z = toldL (hN H t) (dayL H (Dset D i z) t (hr + 1))) →
    ∃ σ', mX1_mostAlike_L40 F fu (nI t) (nI i) (nI hr) W (nI (D 3 i)) (nI (cM s (fun z => toldL (hN H t) (dayL H (Dset D i z) t (hr + 1))) p)) (nI p) σ = some (nI (cM s (fun z => toldL (hN H t) (dayL H (Dset D i z) t (hr + 1))) 8), σ') ∧ CD σ' D ∧ xFr [1, 2] [1, 2, 3, 4, 21] σ σ' := by
  intro fu
  induction fu with
  | zero => intro p q σ a b; omega
  | succ fu ih =>
    intro p q σ a b hC hD ha
    show ∃ σ', mX1_mostAlike_S40 F (mX1_mostAlike_L40 F fu) (nI t) (nI i) (nI hr) W (nI (D 3 i)) _ (nI p) σ = _ ∧ _
    unfold mX1_mostAlike_S40 mX1_mostAlike_L158 mX1_mostAlike_L152
    simp only [xin_nI (show i < lnT 0 by show i < 44; omega) (show lnT 0 < 2 ^ 31 by decide), nI_clamp (show i < 2 ^ 31 by omega), xck_1]
    by_cases e : p = 8
    · subst e
      rw [if_pos (nI_le (Nat.le_refl _) (by omega))]
      refine ⟨_, rfl, ?_, xFr_sA (by decide)⟩
      have := CD_set hi h3 hD
      rw [Dset_id] at this
      exact this
    · rw [if_neg (nI_ge (show p < 8 by omega) (by omega)), c_hold, xb2_s, nI_1]
      by_cases q1 : s p = true
      · rw [bI_t ((hs p (by omega)).mpr q1), if_neg (by decide)]
        have hD1 : CD (xsA σ 21 i (nI p)) (Dset D i p) := CD_set hi (by omega) hD
        have f0 : xFr [1, 2] [1, 2, 3, 4, 21] σ (xsA σ 21 i (nI p)) := xFr_sA (by decide)
        have hC1 : CH (xsA σ 21 i (nI p)) H := CH_fr hC (f0.1 _ (by decide)) (f0.1 _ (by decide)) (fun a h1 h2 => f0.2 a (by simp <;> omega))
        obtain ⟨σ1, b1, b2, b3⟩ := c_tellsBehind F t hr 0 H (Dset D i p) hF hB ht hr1 (fun x _ => by rw [show Dset D i p 7 x = 0 from h7 x]; exact zero_sh x) (fun x q => by rw [show Dset D i p 7 x = 0 from h7 x] at q; omega) _ hC1 hD1
        rw [show 21 + 0 = 21 from rfl, b1, xb2_s, xck_in (show p < 8 by omega) (by omega), nI_clamp (show p < 2 ^ 31 by omega)]
        have ha' : ∀ z, z ≤ p → s z = true → xA (xsA σ1 1 p (toldL (hN H t) (dayL H (Dset D i p) t (hr + 1)))) 1 z = toldL (hN H t) (dayL H (Dset D i z) t (hr + 1)) := by
          intro z hz hsz
          rw [xA_s1, upd_e]
          by_cases w : z = p
          · rw [if_pos w, w]
          · rw [if_neg w, b2.2 1 (by decide), xA_s0 (by decide)]; exact ha z (by omega) hsz
        rw [show mX1_mostAlike_L100 F (mX1_mostAlike_L40 F fu) F (nI t) (nI i) (nI hr) W (nI (D 3 i)) (nI (cM s (fun z => toldL (hN H t) (dayL H (Dset D i z) t (hr + 1))) p)) (nI p) 0 0 (xsA σ1 1 p (toldL (hN H t) (dayL H (Dset D i p) t (hr + 1)))) = _ from c_alikeL F p W s (fun z => toldL (hN H t) (dayL H (Dset D i z) t (hr + 1))) (mX1_mostAlike_L40 F fu) (nI t) (nI i) (nI hr) (nI (D 3 i)) _ (by omega) hs _ ha' q1 F 0 (by omega) (by omega)]
        unfold mX1_mostAlike_L143 mX1_mostAlike_L152
        have l1 : cM s (fun z => toldL (hN H t) (dayL H (Dset D i z) t (hr + 1))) p ≤ p := cM_le8 p
        have l2 : cntA s (fun z => toldL (hN H t) (dayL H (Dset D i z) t (hr + 1))) p (p + 1) ≤ p + 1 := fb_ct_le _ _
        rw [nI_max (by omega) (by omega), nI_1]
        have f1 : xFr [1, 2] [1, 2, 3, 4, 21] σ1 (xsA σ1 1 p (toldL (hN H t) (dayL H (Dset D i p) t (hr + 1)))) := xFr_sA (by decide)
        have f01 : xFr [1, 2] [1, 2, 3, 4, 21] σ (xsA σ1 1 p (toldL (hN H t) (dayL H (Dset D i p) t (hr + 1)))) := xFr_tr (xFr_tr f0 (xFr_mono b2 (by simp) (by simp))) f1
        have hD2 : CD (xsA σ1 1 p (toldL (hN H t) (dayL H (Dset D i p) t (hr + 1)))) (Dset D i p) := by
          obtain ⟨x1, x2, x3, x4, ⟨o, x5⟩, x6⟩ := b3.2.1
          exact ⟨x1, CTold_fr x2 rfl (f1.2 _ (by decide)) (f1.2 _ (by decide)) (xA_s0 (by decide)) (f1.2 _ (by decide)), x3, x4, ⟨o, CTold_fr x5 rfl (f1.2 _ (by decide)) (f1.2 _ (by decide)) (f1.2 _ (by decide)) (f1.2 _ (by decide))⟩, x6⟩
        obtain ⟨σ', z1, z2, z3⟩ := ih (p + 1) p _ (by omega) (by omega) (CH_fr hC (f01.1 _ (by decide)) (f01.1 _ (by decide)) (fun a h1 h2 => f01.2 a (by simp <;> omega))) hD2 (fun z hz hsz => ha' z (by omega) hsz)
        refine ⟨σ', ?_, z2, xFr_tr f01 z3⟩
        rw [← z1]
        show _ = mX1_mostAlike_L40 F fu (nI t) (nI i) (nI hr) W (nI (D 3 i)) (nI (if s p then _ else _)) (nI (p + 1)) _
        rw [if_pos q1]
      · rw [bI_f (fun z => q1 ((hs p (by omega)).mp z)), if_pos rfl]
        obtain ⟨σ', z1, z2, z3⟩ := ih (p + 1) q σ (by omega) (by omega) hC hD (fun z hz hsz => by
          by_cases w : z = p
          · rw [w] at hsz; exact absurd hsz q1
          · exact ha z (by omega) hsz)
        refine ⟨σ', ?_, z2, z3⟩
        rw [← z1]
        show _ = mX1_mostAlike_L40 F fu (nI t) (nI i) (nI hr) W (nI (D 3 i)) (nI (if s p then _ else _)) (nI (p + 1)) _
        rw [if_neg q1]
