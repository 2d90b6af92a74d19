theorem z_in {n L : Nat} (hn : n ≤ 400) (hL : L ≤ 384) (h : ¬ nI L - 6 < nI n) : n + 6 ≤ L := by
  have h1 : (nI L - nI 6).toInt = (L : Int) - (6 : Nat) := pk_sub_toInt (by omega) (by omega)
  have h2 : (nI n).toInt = (n : Int) := nI_toInt (by omega)
  rcases Nat.lt_or_ge L (n + 6) with q | q
  · exact absurd (show nI L - nI 6 < nI n from by rw [Int32.lt_iff_toInt_lt, h1, h2]; omega) h
  · exact q
set_option maxRecDepth 100000 in
set_option maxHeartbeats 4000000 in
theorem law_loop {p : Program} {l : Launch} {e : Env} {s : State} {m : MethodId} {below : List Frame} {meth : Method} {c : Code} {D : va_G} {adC adM : Nat → Nat} {cI cZ cS : ClassId} {b L td cs sl : Nat} {xs : Nat → Int32} (Z : zX p s m meth c D adC adM cI cZ cS b L td cs sl xs) (F : Nat) (Rel : xSt → xSt → Prop) (hO : zOK F Rel) (hL : L ≤ 384) : ∀ (fu n : Nat), n ≤ 390 → L + 7 ≤ n + fu → ∀ σc σm : xSt, Rel σc σm → zG p l e s m below meth c D adC adM cI cZ cS b cs sl σc σm 18 [(0, .ref b), (1, .ref (adC 0)), (2, .ref (adM 0)), (3, .int (nI n))] [] := by
  intro fu
  induction fu with
  | zero =>
    intro n hn h1 σc σm hR
    refine z_iload_n (pc := 18) Z dL_law_18 rfl 3 rfl ?_
    refine z_aload_n (pc := 19) Z dL_law_19 rfl 0 rfl ?_
    refine z_slen (pc := 20) Z dL_law_20 ?_
    refine z_bipush (pc := 21) (v := 6) Z dL_law_21 (by decide) ?_
    refine z_isub (pc := 23) Z dL_law_23 ?_
    refine z_icmp_gt (pc := 24) Z 1479 dL_law_24 (by decide) (fun hc => ?_) (fun hc => ?_)
    · refine z_iconst (pc := 1479) (v := 1) Z dL_law_1479 (by decide) ?_
      exact z_ret (pc := 1480) Z dL_law_1480
    · have := z_in (by omega) hL hc
      omega
  | succ fu ih =>
    intro n hn h1 σc σm hR
    refine z_iload_n (pc := 18) Z dL_law_18 rfl 3 rfl ?_
    refine z_aload_n (pc := 19) Z dL_law_19 rfl 0 rfl ?_
    refine z_slen (pc := 20) Z dL_law_20 ?_
    refine z_bipush (pc := 21) (v := 6) Z dL_law_21 (by decide) ?_
    refine z_isub (pc := 23) Z dL_law_23 ?_
    refine z_icmp_gt (pc := 24) Z 1479 dL_law_24 (by decide) (fun hc => ?_) (fun hc => ?_)
    · refine z_iconst (pc := 1479) (v := 1) Z dL_law_1479 (by decide) ?_
      exact z_ret (pc := 1480) Z dL_law_1480
    · have hn6 := z_in (by omega) hL hc
      have kk : ∀ σc' σm', Rel σc' σm' → zG p l e s m below meth c D adC adM cI cZ cS b cs sl σc' σm' 1473 [(0, .ref b), (1, .ref (adC 0)), (2, .ref (adM 0)), (3, .int (nI n))] [] := by
        intro σc' σm' hR'
        refine z_iinc (pc := 1473) (v := nI (n + 6)) (lv' := [(3, .int (nI (n + 6))), (0, .ref b), (1, .ref (adC 0)), (2, .ref (adM 0))]) Z dL_law_1473 3 rfl (nI_add n 6) (by decide) rfl ?_
        refine z_goto (pc := 1476) Z 18 dL_law_1476 (by decide) ?_
        refine z_sub [1, 2, 3, 0] rfl ?_
        exact ih (n + 6) (by omega) (by omega) σc' σm' hR'
      refine z_aload_n (pc := 27) Z dL_law_27 rfl 0 rfl ?_
      refine z_iload_n (pc := 28) Z dL_law_28 rfl 3 rfl ?_
      refine z_sld (pc := 29) Z n rfl (by omega) (by omega) dL_law_29 ?_
      refine z_bipush (pc := 30) (v := 63) Z dL_law_30 (by decide) ?_
      refine z_iand (pc := 32) Z dL_law_32 ?_
      obtain ⟨j, hj, hv⟩ := pk_andE (xs n) (m := 63) 6 (by decide)
      rw [hv]
      clear hv
      by_cases hj0 : j = 0
      · subst hj0
        exact z_tableIn (pc := 33) Z 192 dL_law_33 (by decide) (by decide) (by rfl) (by decide) (z_case_type Z F n Rel hO.1 hn6 hL hR kk)
      by_cases hj1 : j = 1
      · subst hj1
        exact z_tableIn (pc := 33) Z 225 dL_law_33 (by decide) (by decide) (by rfl) (by decide) (z_case_wipe Z F n Rel hO.2.1 hn6 hL hR kk)
      by_cases hj2 : j = 2
      · subst hj2
        exact z_tableIn (pc := 33) Z 248 dL_law_33 (by decide) (by decide) (by rfl) (by decide) (z_case_undo Z F n Rel hO.2.2.1 hn6 hL hR kk)
      by_cases hj3 : j = 3
      · subst hj3
        exact z_tableIn (pc := 33) Z 271 dL_law_33 (by decide) (by decide) (by rfl) (by decide) (z_case_fault Z F n Rel hO.2.2.2.1 hn6 hL hR kk)
      by_cases hj4 : j = 4
      · subst hj4
        exact z_tableIn (pc := 33) Z 294 dL_law_33 (by decide) (by decide) (by rfl) (by decide) (z_case_thing Z F n Rel hO.2.2.2.2.1 hn6 hL hR kk)
      by_cases hj5 : j = 5
      · subst hj5
        exact z_tableIn (pc := 33) Z 327 dL_law_33 (by decide) (by decide) (by rfl) (by decide) (z_case_person Z F n Rel hO.2.2.2.2.2.1 hn6 hL hR kk)
      by_cases hj6 : j = 6
      · subst hj6
        exact z_tableIn (pc := 33) Z 360 dL_law_33 (by decide) (by decide) (by rfl) (by decide) (z_case_sit Z F n Rel hO.2.2.2.2.2.2.1 hn6 hL hR kk)
      by_cases hj7 : j = 7
      · subst hj7
        exact z_tableIn (pc := 33) Z 403 dL_law_33 (by decide) (by decide) (by rfl) (by decide) (z_case_window Z F n Rel hO.2.2.2.2.2.2.2.1 hn6 hL hR kk)
      by_cases hj8 : j = 8
      · subst hj8
        exact z_tableIn (pc := 33) Z 436 dL_law_33 (by decide) (by decide) (by rfl) (by decide) (z_case_back Z F n Rel hO.2.2.2.2.2.2.2.2.1 hn6 hL hR kk)
      by_cases hj9 : j = 9
      · subst hj9
        exact z_tableIn (pc := 33) Z 459 dL_law_33 (by decide) (by decide) (by rfl) (by decide) (z_case_read Z F n Rel hO.2.2.2.2.2.2.2.2.2.1 hn6 hL hR kk)
      by_cases hj10 : j = 10
      · subst hj10
        exact z_tableIn (pc := 33) Z 482 dL_law_33 (by decide) (by decide) (by rfl) (by decide) (z_case_layers Z F n Rel hO.2.2.2.2.2.2.2.2.2.2.1 hn6 hL hR kk)
      by_cases hj11 : j = 11
      · subst hj11
        exact z_tableIn (pc := 33) Z 525 dL_law_33 (by decide) (by decide) (by rfl) (by decide) (z_case_strong Z F n Rel hO.2.2.2.2.2.2.2.2.2.2.2.1 hn6 hL hR kk)
      by_cases hj12 : j = 12
      · subst hj12
        exact z_tableIn (pc := 33) Z 568 dL_law_33 (by decide) (by decide) (by rfl) (by decide) (z_case_tells Z F n Rel hO.2.2.2.2.2.2.2.2.2.2.2.2.1 hn6 hL hR kk)
      by_cases hj13 : j = 13
      · subst hj13
        exact z_tableIn (pc := 33) Z 601 dL_law_33 (by decide) (by decide) (by rfl) (by decide) (z_case_nowhere Z F n Rel hO.2.2.2.2.2.2.2.2.2.2.2.2.2.1 hn6 hL hR kk)
      by_cases hj14 : j = 14
      · subst hj14
        exact z_tableIn (pc := 33) Z 624 dL_law_33 (by decide) (by decide) (by rfl) (by decide) (z_case_last Z F n Rel hO.2.2.2.2.2.2.2.2.2.2.2.2.2.2.1 hn6 hL hR kk)
      by_cases hj15 : j = 15
      · subst hj15
        exact z_tableIn (pc := 33) Z 657 dL_law_33 (by decide) (by decide) (by rfl) (by decide) (z_case_together Z F n Rel hO.2.2.2.2.2.2.2.2.2.2.2.2.2.2.2.1 hn6 hL hR kk)
      by_cases hj16 : j = 16
      · subst hj16
        exact z_tableIn (pc := 33) Z 680 dL_law_33 (by decide) (by decide) (by rfl) (by decide) (z_case_hide Z F n Rel hO.2.2.2.2.2.2.2.2.2.2.2.2.2.2.2.2.1 hn6 hL hR kk)
      by_cases hj17 : j = 17
      · subst hj17
        exact z_tableIn (pc := 33) Z 733 dL_law_33 (by decide) (by decide) (by rfl) (by decide) (z_case_frame Z F n Rel hO.2.2.2.2.2.2.2.2.2.2.2.2.2.2.2.2.2.1 hn6 hL hR kk)
      by_cases hj18 : j = 18
      · subst hj18
        exact z_tableIn (pc := 33) Z 796 dL_law_33 (by decide) (by decide) (by rfl) (by decide) (z_case_air Z F n Rel hO.2.2.2.2.2.2.2.2.2.2.2.2.2.2.2.2.2.2.1 hn6 hL hR kk)
      by_cases hj19 : j = 19
      · subst hj19
        exact z_tableIn (pc := 33) Z 849 dL_law_33 (by decide) (by decide) (by rfl) (by decide) (z_case_known Z F n Rel hO.2.2.2.2.2.2.2.2.2.2.2.2.2.2.2.2.2.2.2.1 hn6 hL hR kk)
      by_cases hj20 : j = 20
      · subst hj20
        exact z_tableIn (pc := 33) Z 872 dL_law_33 (by decide) (by decide) (by rfl) (by decide) (z_case_smelt Z F n Rel hO.2.2.2.2.2.2.2.2.2.2.2.2.2.2.2.2.2.2.2.2.1 hn6 hL hR kk)
      by_cases hj21 : j = 21
      · subst hj21
        exact z_tableIn (pc := 33) Z 915 dL_law_33 (by decide) (by decide) (by rfl) (by decide) (z_case_forget Z F n Rel hO.2.2.2.2.2.2.2.2.2.2.2.2.2.2.2.2.2.2.2.2.2.1 hn6 hL hR kk)
      by_cases hj22 : j = 22
      · subst hj22
        exact z_tableIn (pc := 33) Z 928 dL_law_33 (by decide) (by decide) (by rfl) (by decide) (z_case_when Z F n Rel hO.2.2.2.2.2.2.2.2.2.2.2.2.2.2.2.2.2.2.2.2.2.2.1 hn6 hL hR kk)
      by_cases hj23 : j = 23
      · subst hj23
        exact z_tableIn (pc := 33) Z 961 dL_law_33 (by decide) (by decide) (by rfl) (by decide) (z_case_who Z F n Rel hO.2.2.2.2.2.2.2.2.2.2.2.2.2.2.2.2.2.2.2.2.2.2.2.1 hn6 hL hR kk)
      by_cases hj24 : j = 24
      · subst hj24
        exact z_tableIn (pc := 33) Z 984 dL_law_33 (by decide) (by decide) (by rfl) (by decide) (z_case_stand Z F n Rel hO.2.2.2.2.2.2.2.2.2.2.2.2.2.2.2.2.2.2.2.2.2.2.2.2.1 hn6 hL hR kk)
      by_cases hj25 : j = 25
      · subst hj25
        exact z_tableIn (pc := 33) Z 1017 dL_law_33 (by decide) (by decide) (by rfl) (by decide) (z_case_draughts Z F n Rel hO.2.2.2.2.2.2.2.2.2.2.2.2.2.2.2.2.2.2.2.2.2.2.2.2.2.1 hn6 hL hR kk)
      by_cases hj26 : j = 26
      · subst hj26
        exact z_tableIn (pc := 33) Z 1081 dL_law_33 (by decide) (by decide) (by rfl) (by decide) (z_case_found Z F n Rel hO.2.2.2.2.2.2.2.2.2.2.2.2.2.2.2.2.2.2.2.2.2.2.2.2.2.2.1 hn6 hL hR kk)
      by_cases hj27 : j = 27
      · subst hj27
        exact z_tableIn (pc := 33) Z 1135 dL_law_33 (by decide) (by decide) (by rfl) (by decide) (z_case_day Z F n Rel hO.2.2.2.2.2.2.2.2.2.2.2.2.2.2.2.2.2.2.2.2.2.2.2.2.2.2.2.1 hn6 hL hR kk)
      by_cases hj28 : j = 28
      · subst hj28
        exact z_tableIn (pc := 33) Z 1178 dL_law_33 (by decide) (by decide) (by rfl) (by decide) (z_case_sheet Z F n Rel hO.2.2.2.2.2.2.2.2.2.2.2.2.2.2.2.2.2.2.2.2.2.2.2.2.2.2.2.2.1 hn6 hL hR kk)
      by_cases hj29 : j = 29
      · subst hj29
        exact z_tableIn (pc := 33) Z 1221 dL_law_33 (by decide) (by decide) (by rfl) (by decide) (z_case_lose Z F n Rel hO.2.2.2.2.2.2.2.2.2.2.2.2.2.2.2.2.2.2.2.2.2.2.2.2.2.2.2.2.2.1 hn6 hL hR kk)
      by_cases hj30 : j = 30
      · subst hj30
        exact z_tableIn (pc := 33) Z 1244 dL_law_33 (by decide) (by decide) (by rfl) (by decide) (z_case_put Z F n Rel hO.2.2.2.2.2.2.2.2.2.2.2.2.2.2.2.2.2.2.2.2.2.2.2.2.2.2.2.2.2.2.1 hn6 hL hR kk)
      by_cases hj31 : j = 31
      · subst hj31
        exact z_tableIn (pc := 33) Z 1297 dL_law_33 (by decide) (by decide) (by rfl) (by decide) (z_case_get Z F n Rel hO.2.2.2.2.2.2.2.2.2.2.2.2.2.2.2.2.2.2.2.2.2.2.2.2.2.2.2.2.2.2.2.1 hn6 hL hR kk)
      by_cases hj32 : j = 32
      · subst hj32
        exact z_tableIn (pc := 33) Z 1340 dL_law_33 (by decide) (by decide) (by rfl) (by decide) (z_case_copy Z F n Rel hO.2.2.2.2.2.2.2.2.2.2.2.2.2.2.2.2.2.2.2.2.2.2.2.2.2.2.2.2.2.2.2.2.1 hn6 hL hR kk)
      by_cases hj33 : j = 33
      · subst hj33
        exact z_tableIn (pc := 33) Z 1403 dL_law_33 (by decide) (by decide) (by rfl) (by decide) (z_case_write Z F n Rel hO.2.2.2.2.2.2.2.2.2.2.2.2.2.2.2.2.2.2.2.2.2.2.2.2.2.2.2.2.2.2.2.2.2.1 hn6 hL hR kk)
      by_cases hj34 : j = 34
      · subst hj34
        exact z_tableIn (pc := 33) Z 1436 dL_law_33 (by decide) (by decide) (by rfl) (by decide) (z_case_count Z F n Rel hO.2.2.2.2.2.2.2.2.2.2.2.2.2.2.2.2.2.2.2.2.2.2.2.2.2.2.2.2.2.2.2.2.2.2.1 hn6 hL hR kk)
      by_cases hj35 : j = 35
      · subst hj35
        exact z_tableIn (pc := 33) Z 1459 dL_law_33 (by decide) (by decide) (by rfl) (by decide) (z_case_digest Z F n Rel hO.2.2.2.2.2.2.2.2.2.2.2.2.2.2.2.2.2.2.2.2.2.2.2.2.2.2.2.2.2.2.2.2.2.2.2 hn6 hL hR kk)
      refine z_tableOut (pc := 33) Z 1473 dL_law_33 (Or.inr (by rw [nI_toInt (by omega)]; omega)) (by decide) ?_
      exact kk σc σm hR
