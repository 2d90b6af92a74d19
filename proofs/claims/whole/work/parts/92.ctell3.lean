theorem c_opn (F t hh hr : Nat) (A sa : Int32) (H : Hs) (D : Dy) (c44 : Int32 → Int32 → Int32 → Int32 → Int32 → Int32 → xSt → Option (Int32 × xSt)) (hF : 100 ≤ F) (hB : HB H) (ht : t < hT H) (hh1 : hh < 24) :
    ∀ (rest pre : List Nat) (fu : Nat) (l : Ly) (σ : xSt), bk (D 5) (D 4 0) hh = pre ++ rest → rest.length < fu → CS σ H D t l →
    ∃ σ', mX2_tellsBehind_L195 F c44 fu (nI t) (nI hr) A sa (nI ((bks (D 5) (D 4 0) 0 hh).length + pre.length)) (nI hh) σ = mX2_tellsBehind_L265 F c44 (nI t) (nI hr) A sa (nI (bks (D 5) (D 4 0) 0 (hh + 1)).length) (nI hh) σ' ∧ xFr [1] [2, 3, 4] σ σ' ∧ CS σ' H D t (rest.foldl (stW D t hh) l) := by
  have hb1 := hB.1
  intro rest
  induction rest with
  | nil =>
    intro pre fu l σ e a h
    obtain ⟨fu, rfl⟩ : ∃ f, fu = f + 1 := ⟨fu - 1, by omega⟩
    refine ⟨σ, ?_, xFr_rf, h⟩
    rw [List.append_nil] at e
    obtain ⟨_, _, _, d0, ⟨o, c1, c2, c3⟩, d2⟩ := h.2.1
    have hlen := bks_len (D 5) (D 4 0) (fun i hi => (c2 i hi).1)
    have hs := bks_s (D 5) (D 4 0) hh
    rw [← e, ← hs]
    show mX2_tellsBehind_S195 F c44 (mX2_tellsBehind_L195 F c44 fu) (nI t) (nI hr) A sa _ (nI hh) σ = _
    unfold mX2_tellsBehind_S195
    have hle : (bks (D 5) (D 4 0) 0 (hh + 1)).length ≤ D 4 0 := by
      have h2 : (bks (D 5) (D 4 0) 0 24).length = (bks (D 5) (D 4 0) 0 (hh + 1)).length + (bks (D 5) (D 4 0) (hh + 1) (23 - hh)).length := by
        rw [bks_split (D 5) (D 4 0) hh1, List.length_append]
      omega
    rw [show xI σ (14 + 1) = nI (D 4 0) from c1]
    by_cases q : D 4 0 ≤ (bks (D 5) (D 4 0) 0 (hh + 1)).length
    · rw [if_pos (nI_le q (by omega))]
    · rw [if_neg (nI_ge (by omega) (by omega))]
      have hi : (bks (D 5) (D 4 0) 0 (hh + 1)).length < (bks (D 5) (D 4 0) 0 24).length := by omega
      have hg := List.getElem?_eq_getElem hi
      have hord : xA σ (24 + 1) (bks (D 5) (D 4 0) 0 (hh + 1)).length = nI _ := c3 _ _ hg
      have hgt := bk_end hh1 hg
      have hmem := bks_mem (List.getElem_mem hi)
      have hc2 := c2 _ hmem.1
      rw [xck_in (show _ < lnT 1 by show _ < 11; omega) (by decide), nI_clamp (by omega), hord, xck_in (show _ < lnT 1 by show _ < 11; omega) (by decide), nI_clamp (by omega), show xA σ (15 + 1) _ = nI _ from hc2.2.1, if_neg (by rw [nI_eq (by omega) (by omega)]; omega)]
  | cons k rest ih =>
    intro pre fu l σ e a h
    have a' : rest.length + 1 < fu := a
    obtain ⟨fu, rfl⟩ : ∃ f, fu = f + 1 := ⟨fu - 1, by omega⟩
    obtain ⟨_, _, _, d0, ⟨o, c1, c2, c3⟩, d2⟩ := h.2.1
    have hlen := bks_len (D 5) (D 4 0) (fun i hi => (c2 i hi).1)
    have hgk : (bk (D 5) (D 4 0) hh)[pre.length]? = some k := by rw [e, List.getElem?_append_right (Nat.le_refl _), Nat.sub_self]; rfl
    have hg := bk_at hh1 hgk
    have hil := lt_of_get hg
    obtain ⟨kn, kh⟩ := bk_mem.mp (List.mem_of_getElem? hgk)
    have hord : xA σ (24 + 1) ((bks (D 5) (D 4 0) 0 hh).length + pre.length) = nI k := c3 _ _ hg
    obtain ⟨_, k1, k2, k3⟩ := c2 k kn
    have b2 := d2 k kn
    have cont : ∀ σ1 l1, xFr [1] [2, 3, 4] σ σ1 → CS σ1 H D t l1 → l1 = stW D t hh l k → ∃ σ', mX2_tellsBehind_L259 F c44 (mX2_tellsBehind_L195 F c44 fu) (nI t) (nI hr) A sa (nI ((bks (D 5) (D 4 0) 0 hh).length + pre.length)) (nI hh) σ1 = mX2_tellsBehind_L265 F c44 (nI t) (nI hr) A sa (nI (bks (D 5) (D 4 0) 0 (hh + 1)).length) (nI hh) σ' ∧ xFr [1] [2, 3, 4] σ σ' ∧ CS σ' H D t ((k :: rest).foldl (stW D t hh) l) := by
      intro σ1 l1 hf hC1 he
      obtain ⟨σ', z1, z2, z3⟩ := ih (pre ++ [k]) fu l1 σ1 (by rw [e, List.append_assoc]; rfl) (by omega) hC1
      refine ⟨σ', ?_, xFr_tr hf z2, ?_⟩
      · unfold mX2_tellsBehind_L259
        rw [List.length_append] at z1
        rw [nI_1]; exact z1
      · rw [List.foldl_cons, ← he]; exact z3
    show ∃ σ', mX2_tellsBehind_S195 F c44 (mX2_tellsBehind_L195 F c44 fu) (nI t) (nI hr) A sa (nI ((bks (D 5) (D 4 0) 0 hh).length + pre.length)) (nI hh) σ = _ ∧ _
    unfold mX2_tellsBehind_S195
    simp only [show xI σ (14 + 1) = nI (D 4 0) from c1, eq_false (nI_ge (show (bks (D 5) (D 4 0) 0 hh).length + pre.length < D 4 0 by omega) (show D 4 0 < 2 ^ 31 by omega)), xin_nI (show (bks (D 5) (D 4 0) 0 hh).length + pre.length < lnT 1 by show _ < 11; omega) (show lnT 1 < 2 ^ 31 by decide), nI_clamp (show (bks (D 5) (D 4 0) 0 hh).length + pre.length < 2 ^ 31 by omega), hord, xin_nI (show k < lnT 1 by show _ < 11; omega) (show lnT 1 < 2 ^ 31 by decide), nI_clamp (show k < 2 ^ 31 by omega), show xA σ (15 + 1) k = nI (D 5 k) from k1, show xA σ (18 + 1) k = nI (D 6 k) from k2, kh, nI_eqL t (show D 6 k < 2 ^ 31 by omega) (show t < 2 ^ 31 by omega), xb1_s, xb2_s, xck_1, i10, i00, i11, ↓reduceIte]
    by_cases q1 : D 6 k = t
    · obtain ⟨σ1, y1, y2, y3⟩ := CS_lose F t H D hF hB ht l σ h
      simp only [q1, y1, xb1_s, xb2_s, xck_1, i10, i00, i11, ↓reduceIte]
      refine cont σ1 _ y2 y3 ?_
      unfold stW
      rw [if_pos ⟨kh, q1⟩]
    · simp only [q1, xb1_s, xb2_s, xck_1, i10, i00, i11, ↓reduceIte]
      refine cont σ l xFr_rf h ?_
      unfold stW
      rw [if_neg (fun w => q1 w.2)]
theorem fold_S {H : Hs} {D : Dy} {t hh : Nat} {l : Ly} : (bk (D 1) (D 0 0) hh).foldl (stS H D t hh) l = (List.range (D 0 0)).foldl (stS H D t hh) l := by
  unfold bk
  refine foldl_filt (fun l k hk => ?_) _ _
  unfold stS
  rw [if_neg (fun w => by simp [w.1] at hk)]
theorem fold_W {D : Dy} {t hh : Nat} {l : Ly} : (bk (D 5) (D 4 0) hh).foldl (stW D t hh) l = (List.range (D 4 0)).foldl (stW D t hh) l := by
  unfold bk
  refine foldl_filt (fun l k hk => ?_) _ _
  unfold stW
  rw [if_neg (fun w => by simp [w.1] at hk)]
theorem c_tellsL (F t hr : Nat) (A : Int32) (H : Hs) (D : Dy) (hF : 100 ≤ F) (hB : HB H) (ht : t < hT H) (hr1 : hr < 24) (hA : ∀ h, h < 24 → ((A >>> (nI h &&& 31)) &&& 1 = 1) = (D 7 h = 1)) (h8 : ∀ h, D 7 h = 1 → D 8 0 = t) :
    ∀ (fu hh : Nat) (σ : xSt), hh ≤ hr + 1 → hr + 1 < hh + fu → CS σ H D t (dayL H D t hh) →
    ∃ σ', mX2_tellsBehind_L44 F fu (nI t) (nI hr) A (nI (bks (D 1) (D 0 0) 0 hh).length) (nI (bks (D 5) (D 4 0) 0 hh).length) (nI hh) σ = some (toldL (hN H t) (dayL H D t (hr + 1)), σ') ∧ xFr [1] [2, 3, 4] σ σ' ∧ CS σ' H D t (dayL H D t (hr + 1)) := by
  have hb1 := hB.1
  intro fu
  induction fu with
  | zero => intro hh σ a b; omega
  | succ fu ih =>
    intro hh σ a b h
    show ∃ σ', mX2_tellsBehind_S44 F (mX2_tellsBehind_L44 F fu) (nI t) (nI hr) A (nI (bks (D 1) (D 0 0) 0 hh).length) (nI (bks (D 5) (D 4 0) 0 hh).length) (nI hh) σ = _ ∧ _
    unfold mX2_tellsBehind_S44 mX2_tellsBehind_L287
    by_cases q : hh = hr + 1
    · subst q
      rw [if_pos (nI_lt (by omega) (by omega)), xck_in (show t < lnE 0 by show _ < 6; omega) (by decide), nI_clamp (by omega), show xA σ (10 + 0) t = nI (hN H t) from (h.1.2.1 t ht).2.1]
      obtain ⟨_, ⟨n1, n2⟩, u1⟩ := hB.2.2.1 t ht
      rw [c_toldBy F (hU H t) (hN H t) (hQ H) hF u1 n2 _ σ h.2.2.1 h.2.2.2.1, xb2_s]
      exact ⟨σ, rfl, xFr_rf, h⟩
    · rw [if_neg (nI_nlt (by omega) (by omega))]
      obtain ⟨σ1, a1, a2, a3⟩ := CS_fade F t H D hF hB _ σ h
      rw [a1, xb1_s]
      have hd := a3.2.1
      have l1 : (bk (D 1) (D 0 0) hh).length ≤ 44 := Nat.le_trans (List.length_filter_le _ _) (by rw [List.length_range]; exact hd.1)
      have l2 : (bk (D 5) (D 4 0) hh).length ≤ 11 := Nat.le_trans (List.length_filter_le _ _) (by rw [List.length_range]; exact hd.2.2.2.1)
      obtain ⟨σ2, b1, b2, b3⟩ := c_sat F t hh hr A (nI (bks (D 5) (D 4 0) 0 hh).length) H D (mX2_tellsBehind_L44 F fu) hF hB ht (by omega) (bk (D 1) (D 0 0) hh) [] F _ σ1 rfl (by omega) a3
      rw [show (bks (D 1) (D 0 0) 0 hh).length + ([] : List Nat).length = (bks (D 1) (D 0 0) 0 hh).length from rfl] at b1
      rw [b1]
      obtain ⟨σ3, c1, c2, c3⟩ := c_opn F t hh hr A (nI (bks (D 1) (D 0 0) 0 (hh + 1)).length) H D (mX2_tellsBehind_L44 F fu) hF hB ht (by omega) (bk (D 5) (D 4 0) hh) [] F _ σ2 rfl (by omega) b3
      rw [show (bks (D 5) (D 4 0) 0 hh).length + ([] : List Nat).length = (bks (D 5) (D 4 0) 0 hh).length from rfl] at c1
      rw [c1]
      rw [fold_S, fold_W] at c3
      unfold mX2_tellsBehind_L265 mX2_tellsBehind_L281
      rw [c_holds, xb2_s]
      simp only [hA hh (by omega), nI_1]
      by_cases q7 : D 7 hh = 1
      · rw [bI_t q7, if_neg (by decide)]
        obtain ⟨σ4, y1, y2, y3⟩ := CS_lose F t H D hF hB ht _ σ3 c3
        rw [y1, xb1_s]
        have ed : dayL H D t (hh + 1) = ((List.range (D 4 0)).foldl (stW D t hh) ((List.range (D 0 0)).foldl (stS H D t hh) (fadeL (hQ H) (dayL H D t hh)))).tail := by
          show hourL H D t hh (dayL H D t hh) = _
          unfold hourL
          rw [if_pos ⟨q7, h8 hh q7⟩]
        rw [← ed] at y3
        obtain ⟨σ', z1, z2, z3⟩ := ih (hh + 1) σ4 (by omega) (by omega) y3
        exact ⟨σ', z1, xFr_tr (xFr_tr (xFr_tr (xFr_tr a2 b2) c2) y2) z2, z3⟩
      · rw [bI_f q7, if_pos rfl]
        have ed : dayL H D t (hh + 1) = (List.range (D 4 0)).foldl (stW D t hh) ((List.range (D 0 0)).foldl (stS H D t hh) (fadeL (hQ H) (dayL H D t hh))) := by
          show hourL H D t hh (dayL H D t hh) = _
          unfold hourL
          rw [if_neg (fun w => q7 w.1)]
        rw [← ed] at c3
        obtain ⟨σ', z1, z2, z3⟩ := ih (hh + 1) σ3 (by omega) (by omega) c3
        exact ⟨σ', z1, xFr_tr (xFr_tr (xFr_tr a2 b2) c2) z2, z3⟩
theorem c_tellsBehind (F t hr : Nat) (A : Int32) (H : Hs) (D : Dy) (hF : 100 ≤ F) (hB : HB H) (ht : t < hT H) (hr1 : hr < 24) (hA : ∀ h, h < 24 → ((A >>> (nI h &&& 31)) &&& 1 = 1) = (D 7 h = 1)) (h8 : ∀ h, D 7 h = 1 → D 8 0 = t) (σ : xSt) (hC : CH σ H) (hD : CD σ D) :
    ∃ σ', mX2_tellsBehind F (nI t) (nI hr) A σ = some (toldL (hN H t) (dayL H D t (hr + 1)), σ') ∧ xFr [1, 2] [2, 3, 4] σ σ' ∧ CS σ' H D t (dayL H D t (hr + 1)) := by
  have hb1 := hB.1
  obtain ⟨_, _, u1⟩ := hB.2.2.1 t ht
  unfold mX2_tellsBehind mX2_tellsBehind_L32 mX3_begin
  rw [c_lacksThing F (nI t) σ H hC, bI_nf ⟨nI_pos (by omega), nI_lt ht (by omega)⟩, xb2_s, if_pos rfl, xck_in (show t < lnE 0 by show _ < 6; omega) (by decide), nI_clamp (by omega), show xA σ (12 + 0) t = nI (hU H t) from (hC.2.1 t ht).2.2]
  have f0 : xFr [1, 2] [2, 3, 4] σ (xsI (xsI σ 2 (nI (hU H t))) 1 0) := xFr_tr (xFr_sI (by decide)) (xFr_sI (by decide))
  have h0 : CS (xsI (xsI σ 2 (nI (hU H t))) 1 0) H D t (dayL H D t 0) := by
    refine ⟨CH_l hC f0, CD_l hD f0, by rw [xI_sI, if_neg (by decide), xI_sI, if_pos rfl], ?_, OkL_nil⟩
    have : revU (hU H t) (dayL H D t 0) = [] := by
      unfold revU dayL
      by_cases e : hU H t = 1
      · rw [if_pos e]; rfl
      · rw [if_neg e]
    rw [this]
    exact ⟨by show 0 ≤ 5; omega, by rw [xI_sI, if_pos rfl]; rfl, fun i x q => by simp at q⟩
  obtain ⟨σ', z1, z2, z3⟩ := c_tellsL F t hr A H D hF hB ht hr1 hA h8 F 0 _ (by omega) (by omega) h0
  refine ⟨σ', ?_, xFr_tr f0 (fr12 z2), z3⟩
  rw [← z1]
  rcases (show hU H t = 0 ∨ hU H t = 1 by omega) with e | e
  · rw [e, if_neg (by decide)]; rfl
  · rw [e, if_pos (show nI 1 = 1 from rfl)]; rfl
