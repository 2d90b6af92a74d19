/-! ===== rows more: sittings and windows of a plan ===== -/
def airL (D : Dy) (t hh : Nat) (l : Ly) : Ly := if D 7 hh = 1 ∧ D 8 0 = t then l.tail else l
def winL (D : Dy) (t hh : Nat) (l : Ly) : Ly := (List.range (D 4 0)).foldl (stW D t hh) l
def sitL (H : Hs) (D : Dy) (t hh : Nat) (l : Ly) : Ly := (List.range (D 0 0)).foldl (stS H D t hh) l
theorem hourL_e (H : Hs) (D : Dy) (t hh : Nat) (l : Ly) : hourL H D t hh l = airL D t hh (winL D t hh (sitL H D t hh (fadeL (hQ H) l))) := rfl
theorem fold_cg {α : Type} {f g : α → Nat → α} : ∀ (ks : List Nat) (l : α), (∀ k, k ∈ ks → ∀ l, f l k = g l k) → ks.foldl f l = ks.foldl g l
  | [], _, _ => rfl
  | k :: ks, l, h => by
    rw [List.foldl_cons, List.foldl_cons, h k (List.mem_cons_self ..) l]
    exact fold_cg ks _ (fun k' hk' => h k' (List.mem_cons_of_mem _ hk'))
def cmL (H : Hs) (t : Nat) (l : Ly) (p : Nat) : Ly := if p < hP H then comeL (hU H t) (hK H t) (hM H p) (hS H p) l else l
theorem sit_add (H : Hs) (D : Dy) (x t p t' hh : Nat) (l : Ly) : sitL H (Dadd D x t p) t' hh l = if x = hh ∧ t = t' then cmL H t' (sitL H D t' hh l) p else sitL H D t' hh l := by
  unfold sitL
  show (List.range (D 0 0 + 1)).foldl _ l = _
  rw [List.range_succ, List.foldl_append]
  have e : (List.range (D 0 0)).foldl (stS H (Dadd D x t p) t' hh) l = (List.range (D 0 0)).foldl (stS H D t' hh) l := by
    refine fold_cg _ _ (fun k hk l => ?_)
    have hk' := List.mem_range.mp hk
    unfold stS
    show (if ins (D 1) (D 0 0) x k = hh ∧ ins (D 2) (D 0 0) t k = t' ∧ ins (D 3) (D 0 0) p k < hP H then comeL (hU H t') (hK H t') (hM H (ins (D 3) (D 0 0) p k)) (hS H (ins (D 3) (D 0 0) p k)) l else l) = _
    rw [ins_o (by omega), ins_o (by omega), ins_o (by omega)]
  rw [e]
  generalize (List.range (D 0 0)).foldl (stS H D t' hh) l = l1
  show stS H (Dadd D x t p) t' hh l1 (D 0 0) = _
  unfold stS cmL
  show (if ins (D 1) (D 0 0) x (D 0 0) = hh ∧ ins (D 2) (D 0 0) t (D 0 0) = t' ∧ ins (D 3) (D 0 0) p (D 0 0) < hP H then comeL (hU H t') (hK H t') (hM H (ins (D 3) (D 0 0) p (D 0 0))) (hS H (ins (D 3) (D 0 0) p (D 0 0))) l1 else l1) = _
  rw [ins_n, ins_n, ins_n]
  by_cases q : x = hh ∧ t = t'
  · rw [if_pos q]
    by_cases q2 : p < hP H
    · rw [if_pos q2, if_pos ⟨q.1, q.2, q2⟩]
    · rw [if_neg q2, if_neg (fun w => q2 w.2.2)]
  · rw [if_neg q, if_neg (fun w => q ⟨w.1, w.2.1⟩)]
theorem fl_p {t c : Nat} {L : List Nat} (h : c / 8 = t) : (c :: L).filter (fun c => decide (c / 8 = t)) = c :: L.filter (fun c => decide (c / 8 = t)) := List.filter_cons_of_pos (p := fun c => decide (c / 8 = t)) (decide_eq_true h)
theorem fl_n {t c : Nat} {L : List Nat} (h : ¬ c / 8 = t) : (c :: L).filter (fun c => decide (c / 8 = t)) = L.filter (fun c => decide (c / 8 = t)) := List.filter_cons_of_neg (p := fun c => decide (c / 8 = t)) (by simpa using h)
/-- the day with a row of codes 8 t + p more -/
def SL (D : Dy) (x : Nat) (L : List Nat) : Dy := L.foldl (fun D c => Dadd D x (c / 8) (c % 8)) D
theorem SL_hi (x : Nat) : ∀ (L : List Nat) (D : Dy) (j : Nat), SL D x L (j + 4) = D (j + 4)
  | [], _, _ => rfl
  | c :: L, D, j => SL_hi x L (Dadd D x (c / 8) (c % 8)) j
theorem sit_SL (H : Hs) (x t hh : Nat) (l : Ly) : ∀ (L : List Nat) (D : Dy), sitL H (SL D x L) t hh l = if x = hh then (L.filter (fun c => decide (c / 8 = t))).foldl (fun l c => cmL H t l (c % 8)) (sitL H D t hh l) else sitL H D t hh l
  | [], D => by
    by_cases q : x = hh
    · rw [if_pos q]; rfl
    · rw [if_neg q]; rfl
  | c :: L, D => by
    show sitL H (SL (Dadd D x (c / 8) (c % 8)) x L) t hh l = _
    rw [sit_SL H x t hh l L, sit_add]
    by_cases q : x = hh
    · rw [if_pos q, if_pos q]
      by_cases q2 : c / 8 = t
      · rw [if_pos ⟨q, q2⟩, fl_p q2, List.foldl_cons]
      · rw [if_neg (fun w => q2 w.2), fl_n q2]
    · rw [if_neg q, if_neg q, if_neg (fun w => q w.1)]
theorem win_SL (D : Dy) (x t hh : Nat) (l : Ly) (L : List Nat) : winL (SL D x L) t hh l = winL D t hh l := by
  have h4 : SL D x L 4 = D 4 := SL_hi x L D 0
  have h5 : SL D x L 5 = D 5 := SL_hi x L D 1
  have h6 : SL D x L 6 = D 6 := SL_hi x L D 2
  unfold winL
  rw [h4]
  refine fold_cg _ _ (fun k _ l => ?_)
  unfold stW
  rw [h5, h6]
theorem air_SL (D : Dy) (x t hh : Nat) (l : Ly) (L : List Nat) : airL (SL D x L) t hh l = airL D t hh l := by
  have h7 : SL D x L 7 = D 7 := SL_hi x L D 3
  have h8 : SL D x L 8 = D 8 := SL_hi x L D 4
  unfold airL
  rw [h7, h8]
theorem dayL_SL {H : Hs} {D : Dy} {x t : Nat} {L L' : List Nat} (hB : HB H) (ht : t < hT H) (he : ∀ l, OkL H t l → (L.filter (fun c => decide (c / 8 = t))).foldl (fun l c => cmL H t l (c % 8)) l = (L'.filter (fun c => decide (c / 8 = t))).foldl (fun l c => cmL H t l (c % 8)) l) : ∀ h, dayL H (SL D x L) t h = dayL H (SL D x L') t h
  | 0 => rfl
  | h + 1 => by
    show hourL H (SL D x L) t h (dayL H (SL D x L) t h) = hourL H (SL D x L') t h (dayL H (SL D x L') t h)
    have o : OkL H t (sitL H D t h (fadeL (hQ H) (dayL H (SL D x L') t h))) := OkL_fold (f := stS H D t h) (fun l k h => OkL_stS hB ht h) _ _ (OkL_fade (OkL_day hB ht h))
    rw [dayL_SL hB ht he h, hourL_e, hourL_e, sit_SL, sit_SL, he _ o, win_SL, win_SL, air_SL, air_SL]
theorem out_out (m : Nat) (l : Ly) : outL m (outL m l) = outL m l := by
  unfold outL; rw [List.filter_filter]; simp
theorem out_sub {m : Nat} {l l' : Ly} (h : ∀ x, x ∈ l' → x ∈ outL m l) : outL m l' = l' := by
  unfold outL
  rw [List.filter_eq_self]
  intro x hx
  exact (List.mem_filter.mp (h x hx)).2
theorem come_2 {u K m g : Nat} {l : Ly} (hK1 : 1 ≤ K) (hl : l.length ≤ K) : comeL u K m g (comeL u K m g l) = comeL u K m g l := by
  have ho : (outL m l).length ≤ K := Nat.le_trans (List.length_filter_le _ _) hl
  by_cases q : u = 1
  · have key : ∀ l' : Ly, (∀ x, x ∈ l' → x ∈ outL m l) → l'.length + 1 ≤ K → comeL u K m g (l' ++ [(m, g)]) = l' ++ [(m, g)] := by
      intro l' h1 h2
      have e : outL m (l' ++ [(m, g)]) = l' := by
        have := out_sub h1
        unfold outL at this ⊢
        rw [List.filter_append, this]; simp
      unfold comeL
      rw [if_pos q, e, if_pos (by rw [List.length_append]; exact h2)]
    by_cases q2 : (outL m l ++ [(m, g)]).length ≤ K
    · have e : comeL u K m g l = outL m l ++ [(m, g)] := by unfold comeL; rw [if_pos q, if_pos q2]
      rw [List.length_append] at q2
      rw [e, key _ (fun x hx => hx) q2]
    · have e : comeL u K m g l = (outL m l ++ [(m, g)]).tail := by unfold comeL; rw [if_pos q, if_neg q2]
      rw [List.length_append] at q2
      cases hc : outL m l with
      | nil => rw [hc] at q2; simp at q2; omega
      | cons a r =>
        rw [e, hc]
        show comeL u K m g (r ++ [(m, g)]) = r ++ [(m, g)]
        rw [hc] at ho
        exact key r (fun x hx => by rw [hc]; exact List.mem_cons_of_mem _ hx) ho
  · have key : ∀ l' : Ly, (∀ x, x ∈ l' → x ∈ outL m l) → l'.length + 1 ≤ K → comeL u K m g ((m, g) :: l') = (m, g) :: l' := by
      intro l' h1 h2
      have e : outL m ((m, g) :: l') = l' := by
        have := out_sub h1
        unfold outL at this ⊢
        rw [List.filter_cons_of_neg (by simp), this]
      unfold comeL
      rw [if_neg q, e, if_pos (show ((m, g) :: l').length ≤ K from h2)]
    by_cases q2 : ((m, g) :: outL m l).length ≤ K
    · have e : comeL u K m g l = (m, g) :: outL m l := by unfold comeL; rw [if_neg q, if_pos q2]
      rw [e, key _ (fun x hx => hx) q2]
    · have e : comeL u K m g l = ((m, g) :: outL m l).dropLast := by unfold comeL; rw [if_neg q, if_neg q2]
      rw [List.length_cons] at q2
      cases hc : outL m l with
      | nil => rw [hc] at q2; simp at q2; omega
      | cons a r =>
        rw [e, hc, List.dropLast_cons_of_ne_nil (by simp)]
        rw [hc] at ho
        refine key _ (fun x hx => by rw [hc]; exact List.dropLast_subset _ hx) ?_
        rw [List.length_dropLast]
        show r.length + 1 - 1 + 1 ≤ K
        have : r.length + 1 ≤ K := ho
        omega
theorem cm_2 {H : Hs} {t p : Nat} {l : Ly} (hB : HB H) (ht : t < hT H) (h : OkL H t l) : cmL H t (cmL H t l p) p = cmL H t l p := by
  unfold cmL
  by_cases q : p < hP H
  · rw [if_pos q, if_pos q]
    exact come_2 (hB.2.2.1 t ht).1.1 h.1
  · rw [if_neg q, if_neg q]
def gS (H : Hs) (D : Dy) (x hr : Nat) (lk wt : Int32) (t : Nat) (L : List Nat) : Bool := decide ((toldL (hN H t) (dayL H (SL D x L) t (hr + 1)) &&& lk) = wt)
theorem gS_cg {H : Hs} {D : Dy} {x hr t : Nat} {lk wt : Int32} {L L' : List Nat} (hB : HB H) (ht : t < hT H) (he : L.filter (fun c => decide (c / 8 = t)) = L'.filter (fun c => decide (c / 8 = t))) : gS H D x hr lk wt t L = gS H D x hr lk wt t L' := by
  unfold gS
  rw [dayL_SL hB ht (L := L) (L' := L') (fun l _ => by rw [he])]
theorem gS_1 {H : Hs} {D : Dy} {x hr t c : Nat} {lk wt : Int32} (hB : HB H) (ht : t < hT H) (h : c / 8 ≠ t) : gS H D x hr lk wt t [c] = gS H D x hr lk wt t [] := gS_cg hB ht (by
  rw [fl_n h])
theorem gS_2a {H : Hs} {D : Dy} {x hr t c d : Nat} {lk wt : Int32} (hB : HB H) (ht : t < hT H) (h : d / 8 ≠ t) : gS H D x hr lk wt t [c, d] = gS H D x hr lk wt t [c] := gS_cg hB ht (by
  by_cases q : c / 8 = t
  · rw [fl_p q, fl_p q, fl_n h]
  · rw [fl_n q, fl_n q, fl_n h])
theorem gS_2b {H : Hs} {D : Dy} {x hr t c d : Nat} {lk wt : Int32} (hB : HB H) (ht : t < hT H) (h : c / 8 ≠ t) : gS H D x hr lk wt t [c, d] = gS H D x hr lk wt t [d] := gS_cg hB ht (by
  rw [fl_n h])
theorem gS_cc {H : Hs} {D : Dy} {x hr t c : Nat} {lk wt : Int32} (hB : HB H) (ht : t < hT H) (h : c / 8 = t) : gS H D x hr lk wt t [c, c] = gS H D x hr lk wt t [c] := by
  unfold gS
  rw [dayL_SL hB ht (L := [c, c]) (L' := [c]) (fun l o => by
    rw [fl_p h, fl_p h]
    show cmL H t (cmL H t l (c % 8)) (c % 8) = cmL H t l (c % 8)
    exact cm_2 hB ht o)]
