/-! ===== the hours of a day ===== -/
/-! rows: 0 how many sittings, 1 hours, 2 things, 3 people; 4 how many windows, 5 hours, 6 things; 7 whether the hour is aired once more, 8 the thing -/
abbrev Dy : Type := Nat → Nat → Nat
def OkL (H : Hs) (t : Nat) (l : Ly) : Prop := l.length ≤ hK H t ∧ (∀ x, x ∈ l → x.1 < hP H ∧ x.2 ≤ 9) ∧ (l.map Prod.fst).Nodup
def stS (H : Hs) (D : Dy) (t hh : Nat) (l : Ly) (k : Nat) : Ly := if D 1 k = hh ∧ D 2 k = t ∧ D 3 k < hP H then comeL (hU H t) (hK H t) (hM H (D 3 k)) (hS H (D 3 k)) l else l
def stW (D : Dy) (t hh : Nat) (l : Ly) (k : Nat) : Ly := if D 5 k = hh ∧ D 6 k = t then l.tail else l
def hourL (H : Hs) (D : Dy) (t hh : Nat) (l : Ly) : Ly :=
  let l1 := (List.range (D 4 0)).foldl (stW D t hh) ((List.range (D 0 0)).foldl (stS H D t hh) (fadeL (hQ H) l))
  if D 7 hh = 1 ∧ D 8 0 = t then l1.tail else l1
def dayL (H : Hs) (D : Dy) (t : Nat) : Nat → Ly
  | 0 => []
  | h + 1 => hourL H D t h (dayL H D t h)
theorem fade_fst {Q : Nat → Nat} : ∀ l : Ly, ((fadeL Q l).map Prod.fst).Sublist (l.map Prod.fst)
  | [] => List.Sublist.refl _
  | x :: l => by
    unfold fadeL
    rw [List.filterMap_cons]
    by_cases q : Q x.1 < x.2
    · rw [if_pos q]
      exact List.Sublist.cons_cons _ (fade_fst l)
    · rw [if_neg q]
      exact List.Sublist.cons _ (fade_fst l)
theorem OkL_fade {H : Hs} {t : Nat} {l : Ly} (h : OkL H t l) : OkL H t (fadeL (hQ H) l) := by
  refine ⟨Nat.le_trans (List.length_filterMap_le _ _) h.1, fun x hx => ?_, (fade_fst l).nodup h.2.2⟩
  obtain ⟨y, hy, e⟩ := List.mem_filterMap.mp hx
  obtain ⟨y1, y2⟩ := h.2.1 y hy
  by_cases q : hQ H y.1 < y.2
  · rw [if_pos q] at e; cases e; exact ⟨y1, by show y.2 - hQ H y.1 ≤ 9; omega⟩
  · rw [if_neg q] at e; cases e
theorem OkL_tail {H : Hs} {t : Nat} {l : Ly} (h : OkL H t l) : OkL H t l.tail := by
  refine ⟨by rw [List.length_tail]; have := h.1; omega, fun x hx => h.2.1 x (List.mem_of_mem_tail hx), ?_⟩
  exact ((List.tail_sublist l).map Prod.fst).nodup h.2.2
theorem OkL_out {H : Hs} {t : Nat} {l : Ly} (m : Nat) (h : OkL H t l) : OkL H t (outL m l) :=
  ⟨Nat.le_trans outL_le h.1, fun x hx => h.2.1 x (List.mem_filter.mp hx).1, ((List.filter_sublist (l := l)).map Prod.fst).nodup h.2.2⟩
theorem out_no {m : Nat} {l : Ly} : m ∉ (outL m l).map Prod.fst := by
  intro q
  obtain ⟨x, hx, e⟩ := List.mem_map.mp q
  have := (List.mem_filter.mp hx).2
  simp [e] at this
theorem OkL_come {H : Hs} {t p : Nat} {l : Ly} (hB : HB H) (ht : t < hT H) (hp : p < hP H) (h : OkL H t l) : OkL H t (comeL (hU H t) (hK H t) (hM H p) (hS H p) l) := by
  obtain ⟨⟨k1, k2⟩, _, u1⟩ := hB.2.2.1 t ht
  obtain ⟨s1, _, m1⟩ := hB.2.2.2 p hp
  have ho := OkL_out (hM H p) h
  have no := @out_no (hM H p) l
  unfold comeL
  by_cases q : hU H t = 1
  · rw [if_pos q]
    have a2 : ∀ x, x ∈ outL (hM H p) l ++ [(hM H p, hS H p)] → x.1 < hP H ∧ x.2 ≤ 9 := by
      intro x hx
      rcases List.mem_append.mp hx with hx | hx
      · exact ho.2.1 x hx
      · rw [List.mem_singleton.mp hx]; exact ⟨m1, s1.2⟩
    have a3 : ((outL (hM H p) l ++ [(hM H p, hS H p)]).map Prod.fst).Nodup := by
      rw [List.map_append]
      refine List.nodup_append.mpr ⟨ho.2.2, by simp, ?_⟩
      intro a ha b hb e
      have hb' : b = hM H p := by simpa using hb
      rw [e, hb'] at ha; exact no ha
    by_cases q2 : (outL (hM H p) l ++ [(hM H p, hS H p)]).length ≤ hK H t
    · rw [if_pos q2]; exact ⟨q2, a2, a3⟩
    · rw [if_neg q2]
      refine ⟨?_, fun x hx => a2 x (List.mem_of_mem_tail hx), ((List.tail_sublist _).map Prod.fst).nodup a3⟩
      rw [List.length_tail, List.length_append]; have := ho.1; show _ + 1 - 1 ≤ _; omega
  · rw [if_neg q]
    have a2 : ∀ x, x ∈ (hM H p, hS H p) :: outL (hM H p) l → x.1 < hP H ∧ x.2 ≤ 9 := by
      intro x hx
      rcases List.mem_cons.mp hx with hx | hx
      · rw [hx]; exact ⟨m1, s1.2⟩
      · exact ho.2.1 x hx
    have a3 : (((hM H p, hS H p) :: outL (hM H p) l).map Prod.fst).Nodup := List.nodup_cons.mpr ⟨no, ho.2.2⟩
    by_cases q2 : ((hM H p, hS H p) :: outL (hM H p) l).length ≤ hK H t
    · rw [if_pos q2]; exact ⟨q2, a2, a3⟩
    · rw [if_neg q2]
      refine ⟨?_, fun x hx => a2 x ((List.dropLast_sublist _).subset hx), ((List.dropLast_sublist _).map Prod.fst).nodup a3⟩
      rw [List.length_dropLast]; have := ho.1; show _ + 1 - 1 ≤ _; omega
theorem OkL_stS {H : Hs} {D : Dy} {t hh k : Nat} {l : Ly} (hB : HB H) (ht : t < hT H) (h : OkL H t l) : OkL H t (stS H D t hh l k) := by
  unfold stS
  by_cases q : D 1 k = hh ∧ D 2 k = t ∧ D 3 k < hP H
  · rw [if_pos q]; exact OkL_come hB ht q.2.2 h
  · rw [if_neg q]; exact h
theorem OkL_stW {H : Hs} {D : Dy} {t hh k : Nat} {l : Ly} (h : OkL H t l) : OkL H t (stW D t hh l k) := by
  unfold stW
  by_cases q : D 5 k = hh ∧ D 6 k = t
  · rw [if_pos q]; exact OkL_tail h
  · rw [if_neg q]; exact h
theorem OkL_fold {H : Hs} {t : Nat} {f : Ly → Nat → Ly} (hf : ∀ l k, OkL H t l → OkL H t (f l k)) : ∀ (ks : List Nat) (l : Ly), OkL H t l → OkL H t (ks.foldl f l)
  | [], _, h => h
  | k :: ks, l, h => OkL_fold hf ks (f l k) (hf l k h)
theorem OkL_hour {H : Hs} {D : Dy} {t hh : Nat} {l : Ly} (hB : HB H) (ht : t < hT H) (h : OkL H t l) : OkL H t (hourL H D t hh l) := by
  unfold hourL
  have a := OkL_fold (f := stW D t hh) (fun l k h => OkL_stW h) (List.range (D 4 0)) _ (OkL_fold (f := stS H D t hh) (fun l k h => OkL_stS hB ht h) (List.range (D 0 0)) _ (OkL_fade h))
  by_cases q : D 7 hh = 1 ∧ D 8 0 = t
  · rw [if_pos q]; exact OkL_tail a
  · rw [if_neg q]; exact a
theorem OkL_nil {H : Hs} {t : Nat} : OkL H t [] := ⟨Nat.zero_le _, fun x hx => by simp at hx, by simp⟩
theorem OkL_day {H : Hs} {D : Dy} {t : Nat} (hB : HB H) (ht : t < hT H) : ∀ h, OkL H t (dayL H D t h)
  | 0 => OkL_nil
  | h + 1 => OkL_hour hB ht (OkL_day hB ht h)
/-- the model's rows -/
def MD (σ : xSt) (D : Dy) : Prop := D 0 0 ≤ 44 ∧ xI σ 20 = nI (D 0 0) ∧ (∀ i, i < D 0 0 → xA σ 11 i = nI (D 1 i) ∧ xA σ 13 i = nI (D 2 i) ∧ xA σ 12 i = nI (D 3 i) ∧ D 1 i < 1000 ∧ D 2 i < 1000 ∧ D 3 i < 1000) ∧ D 4 0 ≤ 11 ∧ xI σ 21 = nI (D 4 0) ∧ (∀ i, i < D 4 0 → xA σ 15 i = nI (D 5 i) ∧ xA σ 16 i = nI (D 6 i) ∧ D 5 i < 1000 ∧ D 6 i < 1000) ∧ (∀ h, h < 24 → (((xI σ 22) >>> (nI h &&& 31)) &&& 1 = 1) = (D 7 h = 1)) ∧ xI σ 23 = nI (D 8 0) ∧ D 8 0 < 6
def xFl (σ σ' : xSt) : Prop := xFr [] [17, 18, 19] σ σ'
theorem MD_l {σ σ' : xSt} {D : Dy} (h : MD σ D) (f : xFr [] [17, 18, 19] σ σ') : MD σ' D := by
  unfold MD
  rw [f.1 20 (by simp), f.1 21 (by simp), f.1 22 (by simp), f.1 23 (by simp), f.2 11 (by decide), f.2 12 (by decide), f.2 13 (by decide), f.2 15 (by decide), f.2 16 (by decide)]
  exact h
theorem MH_l {σ σ' : xSt} {H : Hs} (h : MH σ H) (f : xFr [] [17, 18, 19] σ σ') : MH σ' H := MH_fr h f (by simp) (by simp)
def MLs (σ : xSt) (H : Hs) (L : Nat → Ly) : Prop := ∀ t, t < hT H → rep σ t (L t) ∧ OkL H t (L t)
theorem MLs_t {σ σ' : xSt} {H : Hs} {L L' : Nat → Ly} {t : Nat} (h : MLs σ H L) (f : xFt t σ σ') (r : t < hT H → rep σ' t (L' t)) (o : t < hT H → OkL H t (L' t)) (e : ∀ t', t' ≠ t → L' t' = L t') : MLs σ' H L' := by
  intro t' ht'
  by_cases q : t' = t
  · subst q; exact ⟨r ht', o ht'⟩
  · rw [e t' q]; exact ⟨rep_o f q (h t' ht').1, (h t' ht').2⟩
