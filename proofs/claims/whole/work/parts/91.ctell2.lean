/-! ===== what a thing tells, by the class ===== -/
def CD (σ : xSt) (D : Dy) : Prop := D 0 0 ≤ 44 ∧ CTold σ 0 (D 0 0) (D 1) (D 2) (D 3) ∧ (∀ i, i < D 0 0 → D 2 i < 1000 ∧ D 3 i < 1000) ∧ D 4 0 ≤ 11 ∧ (∃ o, CTold σ 1 (D 4 0) (D 5) (D 6) o) ∧ ∀ i, i < D 4 0 → D 6 i < 1000
theorem CD_l {σ σ' : xSt} {D : Dy} (h : CD σ D) (f : xFr [1, 2] [2, 3, 4] σ σ') : CD σ' D := by
  obtain ⟨a, b, c, d, ⟨o, e⟩, g⟩ := h
  exact ⟨a, CTold_fr b (f.1 _ (by decide)) (f.2 _ (by decide)) (f.2 _ (by decide)) (f.2 _ (by decide)) (f.2 _ (by decide)), c, d, ⟨o, CTold_fr e (f.1 _ (by decide)) (f.2 _ (by decide)) (f.2 _ (by decide)) (f.2 _ (by decide)) (f.2 _ (by decide))⟩, g⟩
theorem CH_l {σ σ' : xSt} {H : Hs} (h : CH σ H) (f : xFr [1, 2] [2, 3, 4] σ σ') : CH σ' H := CH_fr h (f.1 _ (by decide)) (f.1 _ (by decide)) (fun a h1 h2 => f.2 a (by simp <;> omega))
theorem fr12 {σ σ' : xSt} (f : xFr [1] [2, 3, 4] σ σ') : xFr [1, 2] [2, 3, 4] σ σ' := xFr_mono f (by simp) (by simp)
theorem c_lacksThing (F : Nat) (v : Int32) (σ : xSt) (H : Hs) (h : CH σ H) : mX2_lacksThing F v σ = some (bI (¬ (¬ v < 0 ∧ v < nI (hT H))), σ) := by
  unfold mX2_lacksThing mX2_lacksThing_L15 mX2_lacksThing_L20
  rw [show xI σ (12 + 0) = nI (hT H) from h.1]
  by_cases q : v < 0
  · rw [if_pos q, bI_nt (show ¬ (¬ v < 0 ∧ v < nI (hT H)) from fun z => z.1 q)]; rfl
  · rw [if_neg q]
    by_cases q2 : v < nI (hT H)
    · rw [if_pos q2, bI_nf ⟨q, q2⟩]; rfl
    · rw [if_neg q2, bI_nt (show ¬ (¬ v < 0 ∧ v < nI (hT H)) from fun z => q2 z.2)]; rfl
theorem c_lacksPerson (F : Nat) (v : Int32) (σ : xSt) (H : Hs) (h : CH σ H) : mX2_lacksPerson F v σ = some (bI (¬ (¬ v < 0 ∧ v < nI (hP H))), σ) := by
  unfold mX2_lacksPerson mX2_lacksPerson_L15 mX2_lacksPerson_L20
  rw [show xI σ (12 + 1) = nI (hP H) from h.2.2.1]
  by_cases q : v < 0
  · rw [if_pos q, bI_nt (show ¬ (¬ v < 0 ∧ v < nI (hP H)) from fun z => z.1 q)]; rfl
  · rw [if_neg q]
    by_cases q2 : v < nI (hP H)
    · rw [if_pos q2, bI_nf ⟨q, q2⟩]; rfl
    · rw [if_neg q2, bI_nt (show ¬ (¬ v < 0 ∧ v < nI (hP H)) from fun z => q2 z.2)]; rfl
theorem c_lacksP (F p : Nat) (hp : p < 1000) (σ : xSt) (H : Hs) (hB : HB H) (h : CH σ H) : mX2_lacksPerson F (nI p) σ = some (bI (¬ (p < hP H)), σ) := by
  have hb2 := hB.2.1
  rw [c_lacksPerson F (nI p) σ H h]
  congr 2
  by_cases q : p < hP H
  · rw [bI_nf q, bI_nf ⟨nI_pos (by omega), nI_lt q (by omega)⟩]
  · rw [bI_nt q, bI_nt (show ¬ (¬ nI p < 0 ∧ nI p < nI (hP H)) from fun z => absurd z.2 (nI_nlt (by omega) (by omega)))]
theorem c_holds (F : Nat) (b v : Int32) (σ : xSt) : mX8_holds F b v σ = some (bI ((b >>> (v &&& 31)) &&& 1 = 1), σ) := by
  unfold mX8_holds mX8_holds_L14
  by_cases q : (b >>> (v &&& 31)) &&& 1 = 1
  · rw [if_pos q, bI_t q]; rfl
  · rw [if_neg q, bI_f q]; rfl
theorem foldl_filt {f : Ly → Nat → Ly} {p : Nat → Bool} (h : ∀ l k, p k = false → f l k = l) : ∀ (ks : List Nat) (l : Ly), (ks.filter p).foldl f l = ks.foldl f l
  | [], _ => rfl
  | k :: ks, l => by
    rw [List.foldl_cons]
    cases q : p k with
    | true => rw [List.filter_cons_of_pos q, List.foldl_cons]; exact foldl_filt h ks _
    | false => rw [List.filter_cons_of_neg (by rw [q]; decide), h l k q]; exact foldl_filt h ks l
/-- where the class stands in the loops of an hour -/
def CS (σ : xSt) (H : Hs) (D : Dy) (t : Nat) (l : Ly) : Prop := CH σ H ∧ CD σ D ∧ xI σ 2 = nI (hU H t) ∧ crep σ (hQ H) (revU (hU H t) l) ∧ OkL H t l
theorem CS_of {σ σ' : xSt} {H : Hs} {D : Dy} {t : Nat} {l l' : Ly} (h : CS σ H D t l) (f : xFr [1] [2, 3, 4] σ σ') (r : crep σ' (hQ H) (revU (hU H t) l')) (o : OkL H t l') : CS σ' H D t l' :=
  ⟨CH_l h.1 (fr12 f), CD_l h.2.1 (fr12 f), by rw [f.1 2 (by decide)]; exact h.2.2.1, r, o⟩
theorem CS_come (F p t : Nat) (H : Hs) (D : Dy) (hF : 100 ≤ F) (hB : HB H) (ht : t < hT H) (hp : p < hP H) (l : Ly) (σ : xSt) (h : CS σ H D t l) :
    ∃ σ', mX3_come F (nI (hM H p)) (nI (hS H p)) (nI (hQ H (hM H p))) (nI (hK H t)) σ = some σ' ∧ xFr [1] [2, 3, 4] σ σ' ∧ CS σ' H D t (comeL (hU H t) (hK H t) (hM H p) (hS H p) l) := by
  have hb2 := hB.2.1
  obtain ⟨k1, _, u1⟩ := hB.2.2.1 t ht
  obtain ⟨s1, _, m1⟩ := hB.2.2.2 p hp
  obtain ⟨a, b, c⟩ := OkL_rev (u := hU H t) hB h.2.2.2.2
  obtain ⟨σ', w1, w2, w3⟩ := c_come F (hQ H) hF (hK H t) (hM H p) (hS H p) (by omega) k1 (revU (hU H t) l) σ a b c h.2.2.2.1
  rw [rev_come] at w3
  exact ⟨σ', w1, w2, CS_of h w2 w3 (OkL_come hB ht hp h.2.2.2.2)⟩
theorem CS_fade (F t : Nat) (H : Hs) (D : Dy) (hF : 100 ≤ F) (hB : HB H) (l : Ly) (σ : xSt) (h : CS σ H D t l) :
    ∃ σ', mX3_fade F σ = some σ' ∧ xFr [1] [2, 3, 4] σ σ' ∧ CS σ' H D t (fadeL (hQ H) l) := by
  obtain ⟨a, b, c⟩ := OkL_rev (u := hU H t) hB h.2.2.2.2
  obtain ⟨σ', w1, w2, w3⟩ := c_fade F (hQ H) hF (revU (hU H t) l) σ a h.2.2.2.1
  rw [rev_fade] at w3
  exact ⟨σ', w1, w2, CS_of h w2 w3 (OkL_fade h.2.2.2.2)⟩
theorem CS_lose (F t : Nat) (H : Hs) (D : Dy) (hF : 100 ≤ F) (hB : HB H) (ht : t < hT H) (l : Ly) (σ : xSt) (h : CS σ H D t l) :
    ∃ σ', mX3_loseOver F σ = some σ' ∧ xFr [1] [2, 3, 4] σ σ' ∧ CS σ' H D t l.tail := by
  obtain ⟨σ', w1, w2, w3⟩ := c_lose F (hU H t) (hQ H) hF (hB.2.2.1 t ht).2.2 (revU (hU H t) l) σ h.2.2.1 h.2.2.2.1
  rw [rev_air] at w3
  exact ⟨σ', w1, w2, CS_of h w2 w3 (OkL_tail h.2.2.2.2)⟩
/-- where the rows of an hour stand -/
theorem bk_at {h : Nat → Nat} {n hh j q : Nat} (hh1 : hh < 24) (e : (bk h n hh)[j]? = some q) : (bks h n 0 24)[(bks h n 0 hh).length + j]? = some q := by
  have hs : bks h n 0 24 = bks h n 0 hh ++ (bk h n hh ++ bks h n (hh + 1) (23 - hh)) := by
    rw [show 24 = hh + ((23 - hh) + 1) by omega, bks_add, Nat.zero_add]; rfl
  rw [hs, List.getElem?_append_right (by omega), Nat.add_sub_cancel_left, List.getElem?_append_left (lt_of_get e)]
  exact e
theorem bk_end {h : Nat → Nat} {n hh q : Nat} (hh1 : hh < 24) (e : (bks h n 0 24)[(bks h n 0 (hh + 1)).length]? = some q) : hh < h q := by
  rw [bks_split h n hh1, List.getElem?_append_right (Nat.le_refl _), Nat.sub_self] at e
  exact (bks_mem (List.mem_of_getElem? e)).2.1
theorem bks_s (h : Nat → Nat) (n hh : Nat) : (bks h n 0 (hh + 1)).length = (bks h n 0 hh).length + (bk h n hh).length := by
  rw [bks_add h n hh 0 1, List.length_append, Nat.zero_add]
  show _ + (bk h n hh ++ []).length = _
  rw [List.append_nil]
theorem c_sat (F t hh hr : Nat) (A op : Int32) (H : Hs) (D : Dy) (c44 : Int32 → Int32 → Int32 → Int32 → Int32 → Int32 → xSt → Option (Int32 × xSt)) (hF : 100 ≤ F) (hB : HB H) (ht : t < hT H) (hh1 : hh < 24) :
    ∀ (rest pre : List Nat) (fu : Nat) (l : Ly) (σ : xSt), bk (D 1) (D 0 0) hh = pre ++ rest → rest.length < fu → CS σ H D t l →
    ∃ σ', mX2_tellsBehind_L57 F c44 fu (nI t) (nI hr) A (nI ((bks (D 1) (D 0 0) 0 hh).length + pre.length)) op (nI hh) σ = mX2_tellsBehind_L195 F c44 F (nI t) (nI hr) A (nI (bks (D 1) (D 0 0) 0 (hh + 1)).length) op (nI hh) σ' ∧ xFr [1] [2, 3, 4] σ σ' ∧ CS σ' H D t (rest.foldl (stS H D t hh) l) := by
  have hb1 := hB.1
  have hb2 := hB.2.1
  intro rest
  induction rest with
  | nil =>
    intro pre fu l σ e a h
    obtain ⟨fu, rfl⟩ : ∃ f, fu = f + 1 := ⟨fu - 1, by omega⟩
    refine ⟨σ, ?_, xFr_rf, h⟩
    rw [List.append_nil] at e
    obtain ⟨d0, ⟨c1, c2, c3⟩, d2, _⟩ := h.2.1
    have hlen := bks_len (D 1) (D 0 0) (fun i hi => (c2 i hi).1)
    have hs := bks_s (D 1) (D 0 0) hh
    rw [← e, ← hs]
    show mX2_tellsBehind_S57 F c44 (mX2_tellsBehind_L57 F c44 fu) (nI t) (nI hr) A _ op (nI hh) σ = _
    unfold mX2_tellsBehind_S57
    have hle : (bks (D 1) (D 0 0) 0 (hh + 1)).length ≤ D 0 0 := by
      have h2 : (bks (D 1) (D 0 0) 0 24).length = (bks (D 1) (D 0 0) 0 (hh + 1)).length + (bks (D 1) (D 0 0) (hh + 1) (23 - hh)).length := by
        rw [bks_split (D 1) (D 0 0) hh1, List.length_append]
      omega
    rw [show xI σ (14 + 0) = nI (D 0 0) from c1]
    by_cases q : D 0 0 ≤ (bks (D 1) (D 0 0) 0 (hh + 1)).length
    · rw [if_pos (nI_le q (by omega))]
    · rw [if_neg (nI_ge (by omega) (by omega))]
      have hi : (bks (D 1) (D 0 0) 0 (hh + 1)).length < (bks (D 1) (D 0 0) 0 24).length := by omega
      have hg := List.getElem?_eq_getElem hi
      have hord : xA σ (24 + 0) (bks (D 1) (D 0 0) 0 (hh + 1)).length = nI _ := c3 _ _ hg
      have hgt := bk_end hh1 hg
      have hmem := bks_mem (List.getElem_mem hi)
      have hc2 := c2 _ hmem.1
      rw [xck_in (show _ < lnT 0 by show _ < 44; omega) (by decide), nI_clamp (by omega), hord, xck_in (show _ < lnT 0 by show _ < 44; omega) (by decide), nI_clamp (by omega), show xA σ (15 + 0) _ = nI _ from hc2.2.1, if_neg (by rw [nI_eq (by omega) (by omega)]; omega)]
  | cons k rest ih =>
    intro pre fu l σ e a h
    have a' : rest.length + 1 < fu := a
    obtain ⟨fu, rfl⟩ : ∃ f, fu = f + 1 := ⟨fu - 1, by omega⟩
    obtain ⟨d0, ⟨c1, c2, c3⟩, d2, _⟩ := h.2.1
    have hlen := bks_len (D 1) (D 0 0) (fun i hi => (c2 i hi).1)
    have hgk : (bk (D 1) (D 0 0) hh)[pre.length]? = some k := by rw [e, List.getElem?_append_right (Nat.le_refl _), Nat.sub_self]; rfl
    have hg := bk_at hh1 hgk
    have hil := lt_of_get hg
    obtain ⟨kn, kh⟩ := bk_mem.mp (List.mem_of_getElem? hgk)
    have hord : xA σ (24 + 0) ((bks (D 1) (D 0 0) 0 hh).length + pre.length) = nI k := c3 _ _ hg
    obtain ⟨_, k1, k2, k3⟩ := c2 k kn
    obtain ⟨b2, b3⟩ := d2 k kn
    have cont : ∀ σ1 l1, xFr [1] [2, 3, 4] σ σ1 → CS σ1 H D t l1 → l1 = stS H D t hh l k → ∃ σ', mX2_tellsBehind_L189 F c44 (mX2_tellsBehind_L57 F c44 fu) (nI t) (nI hr) A (nI ((bks (D 1) (D 0 0) 0 hh).length + pre.length)) op (nI hh) σ1 = mX2_tellsBehind_L195 F c44 F (nI t) (nI hr) A (nI (bks (D 1) (D 0 0) 0 (hh + 1)).length) op (nI hh) σ' ∧ xFr [1] [2, 3, 4] σ σ' ∧ CS σ' H D t ((k :: rest).foldl (stS H D t hh) l) := by
      intro σ1 l1 hf hC1 he
      obtain ⟨σ', z1, z2, z3⟩ := ih (pre ++ [k]) fu l1 σ1 (by rw [e, List.append_assoc]; rfl) (by omega) hC1
      refine ⟨σ', ?_, xFr_tr hf z2, ?_⟩
      · unfold mX2_tellsBehind_L189
        rw [List.length_append] at z1
        rw [nI_1]; exact z1
      · rw [List.foldl_cons, ← he]; exact z3
    show ∃ σ', mX2_tellsBehind_S57 F c44 (mX2_tellsBehind_L57 F c44 fu) (nI t) (nI hr) A (nI ((bks (D 1) (D 0 0) 0 hh).length + pre.length)) op (nI hh) σ = _ ∧ _
    unfold mX2_tellsBehind_S57
    simp only [show xI σ (14 + 0) = nI (D 0 0) from c1, eq_false (nI_ge (show (bks (D 1) (D 0 0) 0 hh).length + pre.length < D 0 0 by omega) (show D 0 0 < 2 ^ 31 by omega)), xin_nI (show (bks (D 1) (D 0 0) 0 hh).length + pre.length < lnT 0 by show _ < 44; omega) (show lnT 0 < 2 ^ 31 by decide), nI_clamp (show (bks (D 1) (D 0 0) 0 hh).length + pre.length < 2 ^ 31 by omega), hord, xin_nI (show k < lnT 0 by show _ < 44; omega) (show lnT 0 < 2 ^ 31 by decide), nI_clamp (show k < 2 ^ 31 by omega), show xA σ (15 + 0) k = nI (D 1 k) from k1, show xA σ (18 + 0) k = nI (D 2 k) from k2, show xA σ (21 + 0) k = nI (D 3 k) from k3, kh, nI_eqL t (show D 2 k < 2 ^ 31 by omega) (show t < 2 ^ 31 by omega), c_lacksP F (D 3 k) b3 σ H hB h.1, xb1_s, xb2_s, xck_1, i10, i00, i11, ↓reduceIte]
    by_cases q1 : D 2 k = t
    · by_cases q2 : D 3 k < hP H
      · obtain ⟨p1, p2, p3⟩ := h.1.2.2.2 (D 3 k) q2
        obtain ⟨s1, _, m1⟩ := hB.2.2.2 (D 3 k) q2
        have w5 := (h.1.2.2.2 (hM H (D 3 k)) m1).2.1
        have w8 := (h.1.2.1 t ht).1
        obtain ⟨σ1, y1, y2, y3⟩ := CS_come F (D 3 k) t H D hF hB ht q2 l σ h
        simp only [q1, bI_nf q2, xin_nI (show D 3 k < lnE 1 by show _ < 8; omega) (show lnE 1 < 2 ^ 31 by decide), nI_clamp (show D 3 k < 2 ^ 31 by omega), show xA σ (12 + 1) (D 3 k) = nI (hM H (D 3 k)) from p3, show xA σ (8 + 1) (D 3 k) = nI (hS H (D 3 k)) from p1, xin_nI (show hM H (D 3 k) < lnE 1 by show _ < 8; omega) (show lnE 1 < 2 ^ 31 by decide), nI_clamp (show hM H (D 3 k) < 2 ^ 31 by omega), show xA σ (10 + 1) (hM H (D 3 k)) = nI (hQ H (hM H (D 3 k))) from w5, xin_nI (show t < lnE 0 by show _ < 6; omega) (show lnE 0 < 2 ^ 31 by decide), nI_clamp (show t < 2 ^ 31 by omega), show xA σ (8 + 0) t = nI (hK H t) from w8, y1, xb1_s, xb2_s, xck_1, i10, i00, i11, ↓reduceIte]
        refine cont σ1 _ y2 y3 ?_
        unfold stS
        rw [if_pos ⟨kh, q1, q2⟩]
      · simp only [q1, bI_nt q2, xb1_s, xb2_s, xck_1, i10, i00, i11, ↓reduceIte]
        refine cont σ l xFr_rf h ?_
        unfold stS
        rw [if_neg (fun w => q2 w.2.2)]
    · simp only [q1, xb1_s, xb2_s, xck_1, i10, i00, i11, ↓reduceIte]
      refine cont σ l xFr_rf h ?_
      unfold stS
      rw [if_neg (fun w => q1 w.2.1)]
