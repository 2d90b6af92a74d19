theorem kyL_9 : yI RL 9 yX8_init cX8_init 1 0 := ⟨lw_gT 18 (by decide +kernel) rfl, lw_gT 19 (by decide +kernel) rfl, lw_gT 1 (by decide +kernel) rfl, lw_gT 20 (by decide +kernel) rfl, rfl, by decide +kernel, by decide +kernel, by decide +kernel⟩
theorem kyL_12 : yI RL 12 yX9_init cX9_init 1 0 := ⟨lw_gT 734 (by decide +kernel) rfl, lw_gT 735 (by decide +kernel) rfl, lw_gT 11 (by decide +kernel) rfl, lw_gT 736 (by decide +kernel) rfl, rfl, by decide +kernel, by decide +kernel, by decide +kernel⟩
theorem kyL_7 : Cond.classLink RL 7 RX8 ∈ lw_g := lw_gT 16 (by decide +kernel) rfl
theorem kyL_10 : Cond.classLink RL 10 RX9 ∈ lw_g := lw_gT 732 (by decide +kernel) rfl
theorem kyL_AO : Cond.arrayOver (.object "ChairSmells$Sheet") ∈ lw_tbl := List.mem_append_right _ (List.mem_of_getElem? (i := 223) (by decide +kernel))
theorem kyL_LS : Cond.laysStatic "ChairSmells" "DIGEST_HOURS" "[I" ∈ lw_tbl := List.mem_append_right _ (List.mem_of_getElem? (i := 723) (by decide +kernel))
theorem zW_at {ad : Nat → Nat} {n : Nat} {ws : va_W} (h : ws.map (fun q => q.1) = (List.range n).map ad) {i : Nat} (hi : i < n) : ∃ q, ws[i]? = some q ∧ q.1 = ad i := by
  have hl : ws.length = n := by
    have := congrArg List.length h
    simpa using this
  have h1 : ws[i]? = some ws[i] := List.getElem?_eq_getElem (by omega)
  refine ⟨ws[i], h1, ?_⟩
  have h2 : (ws.map (fun q => q.1))[i]? = some (ws[i]).1 := by rw [List.getElem?_map, h1]; rfl
  rw [h, List.getElem?_map, List.getElem?_range hi] at h2
  exact (Option.some.inj h2).symm
theorem zI_of {s : State} {adC adM : Nat → Nat} {cI cZ cS : ClassId} {σ σ' : xSt} (hD : va_D (fun q : Nat => s.heap.size ≤ q) (wC adC cI cS σ ++ wM adM cI cZ σ')) : zI s adC adM := by
  have hlen : (wC adC cI cS σ).length = 45 := rfl
  have hC : ∀ i, i < 45 → ∃ q, (wC adC cI cS σ ++ wM adM cI cZ σ')[i]? = some q ∧ q.1 = adC i := fun i hi => by
    obtain ⟨q, h1, h2⟩ := zW_at (ws := wC adC cI cS σ) (ad := adC) (n := 45) rfl hi
    exact ⟨q, by rw [List.getElem?_append_left (by rw [hlen]; exact hi)]; exact h1, h2⟩
  have hM : ∀ i, i < 29 → ∃ q, (wC adC cI cS σ ++ wM adM cI cZ σ')[45 + i]? = some q ∧ q.1 = adM i := fun i hi => by
    obtain ⟨q, h1, h2⟩ := zW_at (ws := wM adM cI cZ σ') (ad := adM) (n := 29) rfl hi
    refine ⟨q, ?_, h2⟩
    rw [List.getElem?_append_right (by rw [hlen]; omega), hlen, show 45 + i - 45 = i by omega]
    exact h1
  refine ⟨fun i j hi hj h => ?_, fun i j hi hj h => ?_, fun i hi => ?_, fun i hi => ?_, fun i j hi hj h => ?_⟩
  · obtain ⟨q, h1, h2⟩ := hC i hi
    obtain ⟨r, h3, h4⟩ := hC j hj
    exact hD.1 i j q r h1 h3 (by rw [h2, h4]; exact h)
  · obtain ⟨q, h1, h2⟩ := hM i hi
    obtain ⟨r, h3, h4⟩ := hM j hj
    have := hD.1 _ _ q r h1 h3 (by rw [h2, h4]; exact h)
    omega
  · obtain ⟨q, h1, h2⟩ := hC i hi
    rw [← h2]
    exact hD.2 _ q h1
  · obtain ⟨q, h1, h2⟩ := hM i hi
    rw [← h2]
    exact hD.2 _ q h1
  · obtain ⟨q, h1, h2⟩ := hC i hi
    obtain ⟨r, h3, h4⟩ := hM j hj
    have := hD.1 _ _ q r h1 h3 (by rw [h2, h4]; exact h)
    omega
theorem xT_of {s : State} {b : Nat} (hts : ∀ w ∈ lw_tbl, w.before #[Value.ref b] s = true) (hgv : (Jvm.Cond.and given_1 narrow_1).before #[Value.ref b] s = true) : ∃ td, xT td (zA s) s := by
  have hs := flat_of_before _ hgv
  have harr : (Cond.arrayOf (.static "ChairSmells" "DIGEST_HOURS" "[I") .int).before #[Value.ref b] s = true := hs _ (by decide +kernel)
  have hlen : (Cond.eq (.length (.static "ChairSmells" "DIGEST_HOURS" "[I")) (.int 5)).before #[Value.ref b] s = true := hs _ (by decide +kernel)
  have h0 : (Cond.eq (.elem (.static "ChairSmells" "DIGEST_HOURS" "[I") (.int 0)) (.int 0)).before #[Value.ref b] s = true := hs _ (by decide +kernel)
  have h1 : (Cond.eq (.elem (.static "ChairSmells" "DIGEST_HOURS" "[I") (.int 1)) (.int 1)).before #[Value.ref b] s = true := hs _ (by decide +kernel)
  have h2 : (Cond.eq (.elem (.static "ChairSmells" "DIGEST_HOURS" "[I") (.int 2)) (.int 5)).before #[Value.ref b] s = true := hs _ (by decide +kernel)
  have h3 : (Cond.eq (.elem (.static "ChairSmells" "DIGEST_HOURS" "[I") (.int 3)) (.int 10)).before #[Value.ref b] s = true := hs _ (by decide +kernel)
  have h4 : (Cond.eq (.elem (.static "ChairSmells" "DIGEST_HOURS" "[I") (.int 4)) (.int 23)).before #[Value.ref b] s = true := hs _ (by decide +kernel)
  have hA : ∀ a : Nat, a < s.heap.size → ¬ zA s a := fun a h1 h2 => by unfold zA at h2; omega
  obtain ⟨td, hv, hT⟩ := va_Tof (N := 5) (f := fun j => .int (xDH j)) (A := zA s) (by decide) harr (va_eqt hlen) (fun j hj => by
    rcases (show j = 0 ∨ j = 1 ∨ j = 2 ∨ j = 3 ∨ j = 4 by omega) with rfl | rfl | rfl | rfl | rfl
    · exact va_eqt h0
    · exact va_eqt h1
    · exact va_eqt h2
    · exact va_eqt h3
    · exact va_eqt h4) hA
  exact ⟨td, va_Zof (hts _ kyL_LS) (hts _ (lw_g_in ky_inX8)) hv hA, hT⟩
theorem y8_blind {D : va_G} {cI cZ : ClassId} {sz h0 : Nat} {e0 : va_E} {av : List Value} : FrameBlind (va_Pc av (fun U => U.heap.size = sz ∧ va_P D vwCl [(h0, e0)] U.heap ∧ va_K D vwCl (tyM cI cZ) U ∧ (∀ k ∈ lw_n, va_Nw k U) ∧ va_AO "ChairSmells$Sheet" U)) := fun a U g mk q => by
  obtain ⟨q0, qs, qP, qK, qN, qO⟩ := q
  exact ⟨q0, qs, qP, va_K.moved (u := U) (U := U.calling g mk a) (Vm.Alike.refl U.vm) qK, fun k hk => va_Nw.same (u := U) (U := U.calling g mk a) (lw_n_on hk) rfl (qN k hk), va_AO.moved (u := U) (U := U.calling g mk a) (Vm.Alike.refl U.vm) qO⟩
theorem zAone {A : Nat → Prop} {b : Nat} {e0 : va_E} {wr : va_W} {H0 H : Heap} {locs : List Loc} (hA : ∀ q, H0.size ≤ q → A q) (hD : va_D A (wr ++ [(b, e0)])) (hS : va_S A H0 H locs) : ∀ q, va_A [(b, e0)] H.size q → A q := by
  intro q h
  rcases h with ⟨j, e1, hj⟩ | h
  · have hj0 : j < 1 := (List.getElem?_eq_some_iff.mp hj).1
    have hj1 : j = 0 := by omega
    subst hj1
    cases hj
    exact hD.2 wr.length (b, e0) (by simp)
  · exact hA q (Nat.le_trans hS.1 h)
set_option maxHeartbeats 4000000 in
set_option maxRecDepth 100000 in
theorem whole_start_of (F : Nat) (Rel : xSt → xSt → Prop) (hO : zOK F Rel) (h0 : Rel xC0 xM0) {p : Program} {e : Env} {s : State} {m : MethodId} {below : List Frame} {meth : Method} {c : Code} (l : Launch) {b L : Nat} {xs : Nat → Int32} (hL : L ≤ 384) (C0 : lw_At p s m meth c b L xs) : W p l e room_1 s m #[Value.ref b] below meth c s.heap [] 0 0 (lw_Z below #[Value.ref b] s) (entryFrame m ([Value.ref b] : List Value).toArray 4) := by
  obtain ⟨hx, hb, hr, hml, hown, hts, hX, hbl, hlocks, hgv⟩ := id C0
  obtain ⟨td, hT⟩ := xT_of hts hgv
  have htg : ∀ k ∈ lw_g, k.before #[Value.ref b] s = true := fun k hk => hts k (lw_g_in hk)
  have hN : ∀ k ∈ lw_n, va_Nw k s := fun k hk => va_Nw.of (lw_n_on hk) (hts k (lw_n_in hk))
  have hAO : va_AO "ChairSmells$Sheet" s := va_AO.of (hts _ kyL_AO)
  have hA : ∀ q : Nat, s.heap.size ≤ q → zA s q := fun _ h => h
  obtain ⟨c0, iS0, hKn0⟩ := u_known (C := RX0) (T := TX0) (N := 2) (n := 2) htg iX0 (htg _ ky_itX0)
  obtain ⟨c1, iS1, hKn1⟩ := u_known (C := RX1) (T := TX1) (N := 3) (n := 3) htg iX1 (htg _ ky_itX1)
  obtain ⟨c2, iS2, hKn2⟩ := u_known (C := RX2) (T := TX2) (N := 5) (n := 5) htg iX2 (htg _ ky_itX2)
  obtain ⟨c3, iS3, hKn3⟩ := u_known (C := RX3) (T := TX3) (N := 5) (n := 5) htg iX3 (htg _ ky_itX3)
  obtain ⟨c4, iS4, hKn4⟩ := u_known (C := RX4) (T := TX4) (N := 7) (n := 7) htg iX4 (htg _ ky_itX4)
  obtain ⟨c5, iS5, hKn5⟩ := u_known (C := RX5) (T := TX5) (N := 3) (n := 3) htg iX5 (htg _ ky_itX5)
  obtain ⟨c6, iS6, hKn6⟩ := u_known (C := RX6) (T := TX6) (N := 7) (n := 7) htg iX6 (htg _ ky_itX6)
  obtain ⟨c7, iS7, hKn7⟩ := u_known (C := RX7) (T := TX7) (N := 6) (n := 6) htg iX7 (htg _ ky_itX7)
  obtain ⟨c8, iS8, hKn8⟩ := u_known (C := RX8) (T := TX8) (N := 7) (n := 7) htg iX8 (htg _ ky_itX8)
  obtain ⟨c9, iS9, hKn9⟩ := u_known (C := RX9) (T := TX9) (N := 38) (n := 38) htg iX9 (htg _ ky_itX9)
  obtain ⟨dC, dI, hKc⟩ : ∃ (dC : Nat → ClassId) (dI : Nat → Nat → Nat), ∀ (k : Nat) (q : vw_C), vwCl[k]? = some q → u_Kn s q.1 q.2.1 q.2.2 (dC k) (dI k) := by
    refine ⟨fun k => if k = 0 then c0 else if k = 1 then c1 else if k = 2 then c2 else if k = 3 then c3 else if k = 4 then c4 else if k = 5 then c5 else if k = 6 then c6 else if k = 7 then c7 else if k = 8 then c8 else c9, fun k => if k = 0 then iS0 else if k = 1 then iS1 else if k = 2 then iS2 else if k = 3 then iS3 else if k = 4 then iS4 else if k = 5 then iS5 else if k = 6 then iS6 else if k = 7 then iS7 else if k = 8 then iS8 else iS9, ?_⟩
    intro k q hq
    match k, hq with
    | 0, hq => cases hq; exact hKn0
    | 1, hq => cases hq; exact hKn1
    | 2, hq => cases hq; exact hKn2
    | 3, hq => cases hq; exact hKn3
    | 4, hq => cases hq; exact hKn4
    | 5, hq => cases hq; exact hKn5
    | 6, hq => cases hq; exact hKn6
    | 7, hq => cases hq; exact hKn7
    | 8, hq => cases hq; exact hKn8
    | 9, hq => cases hq; exact hKn9
    | k + 10, hq => simp [vwCl] at hq
  obtain ⟨cI, kI, cmI, fI1, fI2, fI3⟩ := Cond.arrayClass_spec (htg _ ky_a_int)
  obtain ⟨cZ, kZ, cmZ, fZ1, fZ2, fZ3⟩ := Cond.arrayClass_spec (htg _ ky_a_boolean)
  have hK : va_K (dC, dI) vwCl (tyM cI cZ) s := by
    refine ⟨hKc, fun k q h => ?_⟩
    match k, h with
    | 0, h => cases h; exact ⟨fun n z => ⟨fun k h => (by cases h), kI, fI2, cmI, fI3⟩, fI1⟩
    | 1, h => cases h; exact ⟨fun n z => ⟨fun k h => (by cases h), kZ, fZ2, cmZ, fZ3⟩, fZ1⟩
    | k + 2, h => simp at h
  have hS : va_S (zA s) s.heap s.heap [] := va_S.rf
  have hP : va_P (dC, dI) vwCl [] s.heap := fun k q h => by simp at h
  have hD : va_D (zA s) [] := ⟨fun i j p q h => by simp at h, fun k q h => by simp at h⟩
  have hl := lv_entry ([.ref b]) (n := 4) (Nat.le_of_ble_eq_true rfl)
  rw [lg_entry_eq]
  generalize (lg_sl ([.ref b]) ++ List.replicate (4 - (lg_sl ([.ref b])).length) Slot.unset).toArray = ls at hl ⊢
  have hl : lv_has ls 4 [(0, .ref b)] := hl
  refine va_new (ci := 8) (fs := [.null, .null, .null, .null, .null, .null, .int 0]) (C := RX8) (T := TX8) (N := 7) hx hb htg iX8 tyX8 tyX8_ok hown (htg _ kyL_7) (htg _ ky_itX8) (htg _ ky_inX8) hK hP hD hS hA rfl (fun j hj => by rcases (show j = 0 ∨ j = 1 ∨ j = 2 ∨ j = 3 ∨ j = 4 ∨ j = 5 ∨ j = 6 by omega) with rfl | rfl | rfl | rfl | rfl | rfl | rfl <;> rfl) (Nat.le_of_ble_eq_true rfl) (Nat.le_of_ble_eq_true rfl) dL_law_0 (fun q0 H hP hD hS => ?_)
  refine lv_dup hx hb dL_law_3 rfl ?_
  have hF := zAone (wr := []) (b := q0) (e0 := .inr (8, [.null, .null, .null, .null, .null, .null, .int 0])) hA hD hS
  obtain ⟨w1, w2, w3, w4, w5, w6, w7, w8⟩ := kyL_9
  have hPc : va_P (dC, dI) vwCl [(q0, .inr (8, [.null, .null, .null, .null, .null, .null, .int 0]))] H := hP
  refine va_callv (va_runI (As := []) (rest := [.ref q0]) (Ts := lw_g) (own := RL) ⟨hx, hb, hml, hown, htg⟩ (kyX8_init l q0 H.size) ⟨callB_of 0 htg (lw_good_code w4) rfl rfl rfl (htg _ w3) (htg _ w1) ⟨w6, w7, w8⟩ ⟨Nat.le_of_ble_eq_true rfl, Nat.le_of_ble_eq_true rfl⟩, w5, htg _ w2⟩ ⟨y8_blind, fun U hU hW => ⟨rfl, by rw [hU], by rw [hU]; exact hPc, va_K.moved hW.alike hK, fun k hk => lw_n_warm hk hW (hN k hk), va_AO.moved hW.alike hAO⟩⟩ rfl rfl hl.1 rfl (lv_room (Nat.le_of_ble_eq_true rfl)) dL_law_4 ⟨Nat.le_of_ble_eq_true rfl, Nat.le_of_ble_eq_true rfl⟩) hS (fun q _ h => hF q h) hF (fun u t H1 locs1 ht hvm hw hB hz1 hk1 hS => ?_)
  obtain ⟨cS, adC⟩ := u
  obtain ⟨hP1, hKS, hD1⟩ := hB
  rw [ht] at hP1
  have hKS := va_K.moved hvm.symm hKS
  have hPz : va_P (dC, dI) vwCl (wC adC cI cS xC0) H1 := hP1
  have hDz : va_D (zA s) (wC adC cI cS xC0) := hD1.weaken (fun k q _ h => hF q.1 h)

  have hq0 : adC 0 = q0 := hw
  subst hq0
  refine lv_astore_n (lv' := [(1, .ref (adC 0)), (0, .ref b)]) hx hb dL_law_7 rfl hl (by decide) rfl (fun ls hl => ?_)
  refine va_new (ci := 9) (fs := [.null, .null, .int 0, .null, .null, .null, .int 0, .null, .null, .null, .int 0, .null, .null, .null, .int 0, .null, .null, .null, .null, .null, .int 0, .int 0, .int 0, .int 0, .null, .null, .null, .int 0, .null, .null, .null, .null, .null, .null, .null, .null, .null, .int 0]) (C := RX9) (T := TX9) (N := 38) hx hb htg iX9 tyX9 tyX9_ok hown (htg _ kyL_10) (htg _ ky_itX9) (htg _ ky_inX9) hK hPz hDz hS hA rfl (fun j hj => by rcases (show j = 0 ∨ j = 1 ∨ j = 2 ∨ j = 3 ∨ j = 4 ∨ j = 5 ∨ j = 6 ∨ j = 7 ∨ j = 8 ∨ j = 9 ∨ j = 10 ∨ j = 11 ∨ j = 12 ∨ j = 13 ∨ j = 14 ∨ j = 15 ∨ j = 16 ∨ j = 17 ∨ j = 18 ∨ j = 19 ∨ j = 20 ∨ j = 21 ∨ j = 22 ∨ j = 23 ∨ j = 24 ∨ j = 25 ∨ j = 26 ∨ j = 27 ∨ j = 28 ∨ j = 29 ∨ j = 30 ∨ j = 31 ∨ j = 32 ∨ j = 33 ∨ j = 34 ∨ j = 35 ∨ j = 36 ∨ j = 37 by omega) with rfl | rfl | rfl | rfl | rfl | rfl | rfl | rfl | rfl | rfl | rfl | rfl | rfl | rfl | rfl | rfl | rfl | rfl | rfl | rfl | rfl | rfl | rfl | rfl | rfl | rfl | rfl | rfl | rfl | rfl | rfl | rfl | rfl | rfl | rfl | rfl | rfl | rfl <;> rfl) (Nat.le_of_ble_eq_true rfl) (Nat.le_of_ble_eq_true rfl) dL_law_8 (fun q1 H2 hP2 hD2 hS => ?_)
  refine lv_dup hx hb dL_law_11 rfl ?_
  have hF2 := zAone (wr := wC adC cI cS xC0) (b := q1) (e0 := .inr (9, [.null, .null, .int 0, .null, .null, .null, .int 0, .null, .null, .null, .int 0, .null, .null, .null, .int 0, .null, .null, .null, .null, .null, .int 0, .int 0, .int 0, .int 0, .null, .null, .null, .int 0, .null, .null, .null, .null, .null, .null, .null, .null, .null, .int 0])) hA hD2 hS
  obtain ⟨x1, x2, x3, x4, x5, x6, x7, x8⟩ := kyL_12
  have hPc : va_P (dC, dI) vwCl [(q1, .inr (9, [.null, .null, .int 0, .null, .null, .null, .int 0, .null, .null, .null, .int 0, .null, .null, .null, .int 0, .null, .null, .null, .null, .null, .int 0, .int 0, .int 0, .int 0, .null, .null, .null, .int 0, .null, .null, .null, .null, .null, .null, .null, .null, .null, .int 0]))] H2 := hP2.sub [45] rfl
  refine va_callv (va_runI (As := []) (rest := [.ref q1]) (Ts := lw_g) (own := RL) ⟨hx, hb, hml, hown, htg⟩ (kyX9_init l q1 H2.size) ⟨callB_of 0 htg (lw_good_code x4) rfl rfl rfl (htg _ x3) (htg _ x1) ⟨x6, x7, x8⟩ ⟨Nat.le_of_ble_eq_true rfl, Nat.le_of_ble_eq_true rfl⟩, x5, htg _ x2⟩ ⟨yB_blind, fun U hU hW => ⟨rfl, by rw [hU], by rw [hU]; exact hPc, va_K.moved hW.alike hK, fun k hk => lw_n_warm hk hW (hN k hk)⟩⟩ rfl rfl hl.1 rfl (lv_room (Nat.le_of_ble_eq_true rfl)) dL_law_12 ⟨Nat.le_of_ble_eq_true rfl, Nat.le_of_ble_eq_true rfl⟩) hS (fun q _ h => hF2 q h) hF2 (fun u t H3 locs3 ht3 hvm3 hw3 hB3 hz3 hk3 hS => ?_)
  obtain ⟨hP3, hD3⟩ := hB3
  rw [ht3] at hP3
  obtain ⟨hP4, hD4⟩ := y_join hP2 hD2 hF2 hk3 hP3 hD3
  obtain ⟨adM, hadM⟩ : ∃ adM : Nat → Nat, adM = fun i => if i = 0 then q1 else u (i - 1) := ⟨_, rfl⟩
  have hw : yoX9 cI cZ q1 u = wM adM cI cZ xM0 := by rw [hadM]; rfl
  rw [hw] at hP4 hD4 hP3
  have h10 : adM 0 = q1 := by rw [hadM]; rfl
  have hI : zI s adC adM := zI_of hD4
  have hPC : va_P (dC, dI) vwCl (wC adC cI cS xC0) H3 := fun k q hq => hP4 k q (by rw [List.getElem?_append_left (List.getElem?_eq_some_iff.mp hq).1]; exact hq)
  refine lv_astore_n (lv' := [(2, .ref q1), (1, .ref (adC 0)), (0, .ref b)]) hx hb dL_law_15 rfl hl (by decide) rfl (fun ls hl => ?_)
  refine lv_iconst (v := 0) hx hb dL_law_16 (by decide) ?_
  refine lv_istore_n (lv' := [(3, .int 0), (2, .ref q1), (1, .ref (adC 0)), (0, .ref b)]) hx hb dL_law_17 rfl hl (by decide) rfl (fun ls hl => ?_)
  have hKC : va_K (dC, dI) vwCl (tyC cI cS) s := (hK.sub (tys' := [(cI, .int)]) [0] rfl).app hKS
  have Z : zX p s m meth c (dC, dI) adC adM cI cZ cS b L td (0 + 1 + 44 + 1 + 28) (0 + 7 + 684 + 38 + 819) xs := ⟨⟨hx, hb, hml, hown, htg, hN⟩, hK, hKC, ⟨hX, hbl⟩, ⟨hr, hlocks⟩, hI, hT, by decide, by decide⟩
  subst h10
  exact law_loop Z F Rel hO hL (L + 7) 0 (by omega) (by omega) xC0 xM0 h0 H3 _ ls (lv_sub hl [3, 2, 1, 0] rfl) hPC hP3 hS
