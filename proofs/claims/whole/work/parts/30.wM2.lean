set_option maxRecDepth 100000 in
set_option maxHeartbeats 4000000 in
theorem wX9_nowhere_L17 {p : Program} {l : Launch} {e : Env} {s : State} {m : MethodId} {args : Array Value} {below : List Frame} {meth : Method} {c : Code} {D : va_G} {A : Nat → Prop} {ad : Nat → Nat} {cI cX : ClassId} {r : Int32} {σ' : xSt} (X : xX p s m args c cX9_nowhere 2 RX9 D (tyM cI cX) A (wM ad cI cX)) (hr : meth.sig.returnType = (some .int)) (hl : meth.locks = false) (F : Nat) (t0 : Int32) (σ : xSt) (h : mX9_nowhere_L17 F t0 σ = some (r, σ')) : xG p l e ({ frames := 7, cells := 0, slots := 0, locals := 164 }) s m args below meth c (MQ below (xQi D A (wM ad cI cX) r σ') args s 0 0 A) 2 D A (wM ad cI cX) σ 17 [] [.int t0] := by
  unfold mX9_nowhere_L17 at h
  exact x_iret (pc := 17) X hr hl h dX9_nowhere_17
set_option maxRecDepth 100000 in
set_option maxHeartbeats 4000000 in
theorem kX9_nowhere (l : Launch) {D : va_G} {A : Nat → Prop} {ad : Nat → Nat} {cI cX : ClassId} (hD : ∀ σ, va_D A ((wM ad cI cX) σ)) (F : Nat) (v1 : Int32) (σ : xSt) (r : Int32) (σ' : xSt) (h : mX9_nowhere F v1 σ = some (r, σ')) : xM l yX9_nowhere cX9_nowhere 2 (some .int) ({ frames := 7, cells := 0, slots := 0, locals := 164 }) D (tyM cI cX) A (wM ad cI cX) [.ref (ad 0), .int v1] σ (xQi D A (wM ad cI cX) r σ') := by
  refine xM_of (lv := [(0, .ref (ad 0)), (1, .int v1)]) [.ref (ad 0), .int v1] (by decide) hD rfl (Nat.le_of_ble_eq_true rfl) ?_
  intro p e s m args below meth c X hr hl
  unfold mX9_nowhere at h
  refine x_iload_n (pc := 0) X dX9_nowhere_0 rfl 1 rfl ?_
  obtain ⟨r1, σ1, hq1, h⟩ := xb2_some h
  refine x_calliS (pc := 1) (As := [.int v1]) (rest := []) X (kX9_isHour l X.2.2.2.2.2.2.2 F _ _ _ _ hq1) kvX9_142 ⟨rfl, rfl, Nat.le_of_ble_eq_true rfl, Nat.le_of_ble_eq_true rfl⟩ rfl rfl (Nat.le_of_ble_eq_true rfl) dX9_nowhere_1 ?_
  refine x_if_eq (pc := 4) X 15 dX9_nowhere_4 (by decide) (fun hc => ?_) (fun hc => ?_)
  · have h := xit hc h
    refine x_bipush (pc := 15) (v := (-2)) X dX9_nowhere_15 (by decide) ?_
    refine x_sub [] rfl ?_
    exact wX9_nowhere_L17 X hr hl F _ _ h
  · have h := xif hc h
    refine x_aload_n (pc := 7) X dX9_nowhere_7 rfl 0 rfl ?_
    refine x_iload_n (pc := 8) X dX9_nowhere_8 rfl 1 rfl ?_
    obtain ⟨r9, σ9, hq9, h⟩ := xb2_some h
    refine x_calliV (pc := 9) (As := [.int v1]) (rest := []) X (kX9_nowhereOf l X.2.2.2.2.2.2.2 F _ _ _ _ hq9) kvX9_234 rfl (qX9) ⟨rfl, rfl, Nat.le_of_ble_eq_true rfl, Nat.le_of_ble_eq_true rfl⟩ rfl rfl (Nat.le_of_ble_eq_true rfl) dX9_nowhere_9 ?_
    refine x_goto (pc := 12) X 17 dX9_nowhere_12 (by decide) ?_
    refine x_sub [] rfl ?_
    exact wX9_nowhere_L17 X hr hl F _ _ h
set_option maxRecDepth 100000 in
set_option maxHeartbeats 4000000 in
theorem wX9_lastOf_L55 {p : Program} {l : Launch} {e : Env} {s : State} {m : MethodId} {args : Array Value} {below : List Frame} {meth : Method} {c : Code} {D : va_G} {A : Nat → Prop} {ad : Nat → Nat} {cI cX : ClassId} {r : Int32} {σ' : xSt} (X : xX p s m args c cX9_lastOf 5 RX9 D (tyM cI cX) A (wM ad cI cX)) (hr : meth.sig.returnType = (some .int)) (hl : meth.locks = false) (F : Nat) (v3 : Int32) (σ : xSt) (h : mX9_lastOf_L55 F v3 σ = some (r, σ')) : xG p l e ({ frames := 5, cells := 0, slots := 0, locals := 117 }) s m args below meth c (MQ below (xQi D A (wM ad cI cX) r σ') args s 0 0 A) 5 D A (wM ad cI cX) σ 55 [(3, .int v3)] [] := by
  unfold mX9_lastOf_L55 at h
  refine x_iload_n (pc := 55) X dX9_lastOf_55 rfl 0 rfl ?_
  exact x_iret (pc := 56) X hr hl h dX9_lastOf_56
set_option maxRecDepth 100000 in
set_option maxHeartbeats 4000000 in
theorem wX9_lastOf_L48 {p : Program} {l : Launch} {e : Env} {s : State} {m : MethodId} {args : Array Value} {below : List Frame} {meth : Method} {c : Code} {D : va_G} {A : Nat → Prop} {ad : Nat → Nat} {cI cX : ClassId} {r : Int32} {σ' : xSt} {c17 : Int32 → Int32 → Int32 → Int32 → xSt → Option (Int32 × xSt)} (X : xX p s m args c cX9_lastOf 5 RX9 D (tyM cI cX) A (wM ad cI cX)) (hr : meth.sig.returnType = (some .int)) (hl : meth.locks = false) (F : Nat) (hc17 : ∀ (v1 : Int32) (v2 : Int32) (v3 : Int32) (v4 : Int32) (σ : xSt), c17 v1 v2 v3 v4 σ = some (r, σ') → xG p l e ({ frames := 5, cells := 0, slots := 0, locals := 117 }) s m args below meth c (MQ below (xQi D A (wM ad cI cX) r σ') args s 0 0 A) 5 D A (wM ad cI cX) σ 17 [(0, .ref (ad 0)), (1, .int v1), (2, .int v2), (3, .int v3), (4, .int v4)] []) (v1 : Int32) (v2 : Int32) (v4 : Int32) (t0 : Int32) (σ : xSt) (h : mX9_lastOf_L48 F c17 v1 v2 v4 t0 σ = some (r, σ')) : xG p l e ({ frames := 5, cells := 0, slots := 0, locals := 117 }) s m args below meth c (MQ below (xQi D A (wM ad cI cX) r σ') args s 0 0 A) 5 D A (wM ad cI cX) σ 48 [(0, .ref (ad 0)), (1, .int v1), (2, .int v2), (4, .int v4)] [.int t0] := by
  unfold mX9_lastOf_L48 at h
  refine x_istore_n (pc := 48) (lv' := [(3, .int t0), (0, .ref (ad 0)), (1, .int v1), (2, .int v2), (4, .int v4)]) X dX9_lastOf_48 rfl (by decide) rfl ?_
  refine x_iinc (pc := 49) (v := (v4 + 1)) (lv' := [(4, .int (v4 + 1)), (3, .int t0), (0, .ref (ad 0)), (1, .int v1), (2, .int v2)]) X dX9_lastOf_49 4 rfl rfl (by decide) rfl ?_
  refine x_goto (pc := 52) X 17 dX9_lastOf_52 (by decide) ?_
  refine x_sub [2, 3, 4, 1, 0] rfl ?_
  exact hc17 _ _ _ _ _ h
set_option maxRecDepth 100000 in
set_option maxHeartbeats 4000000 in
theorem wX9_lastOf_S17 {p : Program} {l : Launch} {e : Env} {s : State} {m : MethodId} {args : Array Value} {below : List Frame} {meth : Method} {c : Code} {D : va_G} {A : Nat → Prop} {ad : Nat → Nat} {cI cX : ClassId} {r : Int32} {σ' : xSt} {c17 : Int32 → Int32 → Int32 → Int32 → xSt → Option (Int32 × xSt)} (X : xX p s m args c cX9_lastOf 5 RX9 D (tyM cI cX) A (wM ad cI cX)) (hr : meth.sig.returnType = (some .int)) (hl : meth.locks = false) (F : Nat) (hc17 : ∀ (v1 : Int32) (v2 : Int32) (v3 : Int32) (v4 : Int32) (σ : xSt), c17 v1 v2 v3 v4 σ = some (r, σ') → xG p l e ({ frames := 5, cells := 0, slots := 0, locals := 117 }) s m args below meth c (MQ below (xQi D A (wM ad cI cX) r σ') args s 0 0 A) 5 D A (wM ad cI cX) σ 17 [(0, .ref (ad 0)), (1, .int v1), (2, .int v2), (3, .int v3), (4, .int v4)] []) (v1 : Int32) (v2 : Int32) (v3 : Int32) (v4 : Int32) (σ : xSt) (h : mX9_lastOf_S17 F c17 v1 v2 v3 v4 σ = some (r, σ')) : xG p l e ({ frames := 5, cells := 0, slots := 0, locals := 117 }) s m args below meth c (MQ below (xQi D A (wM ad cI cX) r σ') args s 0 0 A) 5 D A (wM ad cI cX) σ 17 [(0, .ref (ad 0)), (1, .int v1), (2, .int v2), (3, .int v3), (4, .int v4)] [] := by
  unfold mX9_lastOf_S17 at h
  refine x_iload (pc := 17) X dX9_lastOf_17 4 rfl ?_
  refine x_bipush (pc := 19) (v := 24) X dX9_lastOf_19 (by decide) ?_
  refine x_icmp_ge (pc := 21) X 55 dX9_lastOf_21 (by decide) (fun hc => ?_) (fun hc => ?_)
  · have h := xit hc h
    refine x_sub [3] rfl ?_
    exact wX9_lastOf_L55 X hr hl F _ _ h
  · have h := xif hc h
    refine x_aload_n (pc := 24) X dX9_lastOf_24 rfl 0 rfl ?_
    refine x_iload (pc := 25) X dX9_lastOf_25 4 rfl ?_
    obtain ⟨σ27, hq27, h⟩ := xb1_some h
    refine x_callvV (pc := 27) (As := [.int v4]) (rest := []) X (kX9_goesBy l X.2.2.2.2.2.2.2 F _ _ _ hq27) kvX9_206 rfl (qX9) ⟨rfl, rfl, Nat.le_of_ble_eq_true rfl, Nat.le_of_ble_eq_true rfl⟩ rfl rfl (Nat.le_of_ble_eq_true rfl) dX9_lastOf_27 ?_
    refine x_aload_n (pc := 30) X dX9_lastOf_30 rfl 0 rfl ?_
    refine x_iload_n (pc := 31) X dX9_lastOf_31 rfl 1 rfl ?_
    obtain ⟨r32, σ32, hq32, h⟩ := xb2_some h
    refine x_calliV (pc := 32) (As := [.int v1]) (rest := []) X (kX9_tellsNow l X.2.2.2.2.2.2.2 F _ _ _ _ hq32) kvX9_215 rfl (qX9) ⟨rfl, rfl, Nat.le_of_ble_eq_true rfl, Nat.le_of_ble_eq_true rfl⟩ rfl rfl (Nat.le_of_ble_eq_true rfl) dX9_lastOf_32 ?_
    refine x_iload_n (pc := 35) X dX9_lastOf_35 rfl 2 rfl ?_
    obtain ⟨r36, σ36, hq36, h⟩ := xb2_some h
    refine x_calliS (pc := 36) (As := [.int r32, .int v2]) (rest := []) X (kX9_isIn l X.2.2.2.2.2.2.2 F _ _ _ _ _ hq36) kvX9_199 ⟨rfl, rfl, Nat.le_of_ble_eq_true rfl, Nat.le_of_ble_eq_true rfl⟩ rfl rfl (Nat.le_of_ble_eq_true rfl) dX9_lastOf_36 ?_
    refine x_if_eq (pc := 39) X 47 dX9_lastOf_39 (by decide) (fun hc => ?_) (fun hc => ?_)
    · have h := xit hc h
      refine x_iload_n (pc := 47) X dX9_lastOf_47 rfl 3 rfl ?_
      refine x_sub [0, 1, 2, 4] rfl ?_
      exact wX9_lastOf_L48 X hr hl F hc17 _ _ _ _ _ h
    · have h := xif hc h
      refine x_iload (pc := 42) X dX9_lastOf_42 4 rfl ?_
      refine x_goto (pc := 44) X 48 dX9_lastOf_44 (by decide) ?_
      refine x_sub [0, 1, 2, 4] rfl ?_
      exact wX9_lastOf_L48 X hr hl F hc17 _ _ _ _ _ h
theorem wX9_lastOf_L17 {p : Program} {l : Launch} {e : Env} {s : State} {m : MethodId} {args : Array Value} {below : List Frame} {meth : Method} {c : Code} {D : va_G} {A : Nat → Prop} {ad : Nat → Nat} {cI cX : ClassId} {r : Int32} {σ' : xSt} (X : xX p s m args c cX9_lastOf 5 RX9 D (tyM cI cX) A (wM ad cI cX)) (hr : meth.sig.returnType = (some .int)) (hl : meth.locks = false) (F : Nat) : ∀ (n : Nat) (v1 : Int32) (v2 : Int32) (v3 : Int32) (v4 : Int32) (σ : xSt), mX9_lastOf_L17 F n v1 v2 v3 v4 σ = some (r, σ') → xG p l e ({ frames := 5, cells := 0, slots := 0, locals := 117 }) s m args below meth c (MQ below (xQi D A (wM ad cI cX) r σ') args s 0 0 A) 5 D A (wM ad cI cX) σ 17 [(0, .ref (ad 0)), (1, .int v1), (2, .int v2), (3, .int v3), (4, .int v4)] [] := by
  intro n
  induction n with
  | zero => intro v1 v2 v3 v4 σ h; cases h
  | succ n ih => intro v1 v2 v3 v4 σ h; exact wX9_lastOf_S17 X hr hl F ih v1 v2 v3 v4 σ h
set_option maxRecDepth 100000 in
set_option maxHeartbeats 4000000 in
theorem kX9_lastOf (l : Launch) {D : va_G} {A : Nat → Prop} {ad : Nat → Nat} {cI cX : ClassId} (hD : ∀ σ, va_D A ((wM ad cI cX) σ)) (F : Nat) (v1 : Int32) (v2 : Int32) (σ : xSt) (r : Int32) (σ' : xSt) (h : mX9_lastOf F v1 v2 σ = some (r, σ')) : xM l yX9_lastOf cX9_lastOf 5 (some .int) ({ frames := 5, cells := 0, slots := 0, locals := 117 }) D (tyM cI cX) A (wM ad cI cX) [.ref (ad 0), .int v1, .int v2] σ (xQi D A (wM ad cI cX) r σ') := by
  refine xM_of (lv := [(0, .ref (ad 0)), (1, .int v1), (2, .int v2)]) [.ref (ad 0), .int v1, .int v2] (by decide) hD rfl (Nat.le_of_ble_eq_true rfl) ?_
  intro p e s m args below meth c X hr hl
  unfold mX9_lastOf at h
  refine x_aload_n (pc := 0) X dX9_lastOf_0 rfl 0 rfl ?_
  obtain ⟨σ1, hq1, h⟩ := xb1_some h
  refine x_callvV (pc := 1) (As := []) (rest := []) X (kX9_reads l X.2.2.2.2.2.2.2 F _ _ hq1) kvX9_127 rfl (qX9) ⟨rfl, rfl, Nat.le_of_ble_eq_true rfl, Nat.le_of_ble_eq_true rfl⟩ rfl rfl (Nat.le_of_ble_eq_true rfl) dX9_lastOf_1 ?_
  refine x_aload_n (pc := 4) X dX9_lastOf_4 rfl 0 rfl ?_
  obtain ⟨σ5, hq5, h⟩ := xb1_some h
  refine x_callvV (pc := 5) (As := []) (rest := []) X (kX9_asTold l X.2.2.2.2.2.2.2 F _ _ hq5) kvX9_209 rfl (qX9) ⟨rfl, rfl, Nat.le_of_ble_eq_true rfl, Nat.le_of_ble_eq_true rfl⟩ rfl rfl (Nat.le_of_ble_eq_true rfl) dX9_lastOf_5 ?_
  refine x_aload_n (pc := 8) X dX9_lastOf_8 rfl 0 rfl ?_
  obtain ⟨σ9, hq9, h⟩ := xb1_some h
  refine x_callvV (pc := 9) (As := []) (rest := []) X (kX9_begins l X.2.2.2.2.2.2.2 F _ _ hq9) kvX9_203 rfl (qX9) ⟨rfl, rfl, Nat.le_of_ble_eq_true rfl, Nat.le_of_ble_eq_true rfl⟩ rfl rfl (Nat.le_of_ble_eq_true rfl) dX9_lastOf_9 ?_
  refine x_iconst (pc := 12) (v := (-1)) X dX9_lastOf_12 (by decide) ?_
  refine x_istore_n (pc := 13) (lv' := [(3, .int (-1)), (0, .ref (ad 0)), (1, .int v1), (2, .int v2)]) X dX9_lastOf_13 rfl (by decide) rfl ?_
  refine x_iconst (pc := 14) (v := 0) X dX9_lastOf_14 (by decide) ?_
  refine x_istore (pc := 15) (lv' := [(4, .int 0), (3, .int (-1)), (0, .ref (ad 0)), (1, .int v1), (2, .int v2)]) X dX9_lastOf_15 (by decide) rfl ?_
  refine x_sub [2, 3, 4, 1, 0] rfl ?_
  exact wX9_lastOf_L17 X hr hl F F _ _ _ _ _ h
set_option maxRecDepth 100000 in
set_option maxHeartbeats 4000000 in
theorem wX9_last_L27 {p : Program} {l : Launch} {e : Env} {s : State} {m : MethodId} {args : Array Value} {below : List Frame} {meth : Method} {c : Code} {D : va_G} {A : Nat → Prop} {ad : Nat → Nat} {cI cX : ClassId} {r : Int32} {σ' : xSt} (X : xX p s m args c cX9_last 3 RX9 D (tyM cI cX) A (wM ad cI cX)) (hr : meth.sig.returnType = (some .int)) (hl : meth.locks = false) (F : Nat) (t0 : Int32) (σ : xSt) (h : mX9_last_L27 F t0 σ = some (r, σ')) : xG p l e ({ frames := 6, cells := 0, slots := 0, locals := 141 }) s m args below meth c (MQ below (xQi D A (wM ad cI cX) r σ') args s 0 0 A) 3 D A (wM ad cI cX) σ 27 [] [.int t0] := by
  unfold mX9_last_L27 at h
  exact x_iret (pc := 27) X hr hl h dX9_last_27
set_option maxRecDepth 100000 in
set_option maxHeartbeats 4000000 in
theorem wX9_last_L25 {p : Program} {l : Launch} {e : Env} {s : State} {m : MethodId} {args : Array Value} {below : List Frame} {meth : Method} {c : Code} {D : va_G} {A : Nat → Prop} {ad : Nat → Nat} {cI cX : ClassId} {r : Int32} {σ' : xSt} (X : xX p s m args c cX9_last 3 RX9 D (tyM cI cX) A (wM ad cI cX)) (hr : meth.sig.returnType = (some .int)) (hl : meth.locks = false) (F : Nat) (σ : xSt) (h : mX9_last_L25 F σ = some (r, σ')) : xG p l e ({ frames := 6, cells := 0, slots := 0, locals := 141 }) s m args below meth c (MQ below (xQi D A (wM ad cI cX) r σ') args s 0 0 A) 3 D A (wM ad cI cX) σ 25 [] [] := by
  unfold mX9_last_L25 at h
  refine x_bipush (pc := 25) (v := (-2)) X dX9_last_25 (by decide) ?_
  refine x_sub [] rfl ?_
  exact wX9_last_L27 X hr hl F _ _ h
set_option maxRecDepth 100000 in
set_option maxHeartbeats 4000000 in
theorem kX9_last (l : Launch) {D : va_G} {A : Nat → Prop} {ad : Nat → Nat} {cI cX : ClassId} (hD : ∀ σ, va_D A ((wM ad cI cX) σ)) (F : Nat) (v1 : Int32) (v2 : Int32) (σ : xSt) (r : Int32) (σ' : xSt) (h : mX9_last F v1 v2 σ = some (r, σ')) : xM l yX9_last cX9_last 3 (some .int) ({ frames := 6, cells := 0, slots := 0, locals := 141 }) D (tyM cI cX) A (wM ad cI cX) [.ref (ad 0), .int v1, .int v2] σ (xQi D A (wM ad cI cX) r σ') := by
  refine xM_of (lv := [(0, .ref (ad 0)), (1, .int v1), (2, .int v2)]) [.ref (ad 0), .int v1, .int v2] (by decide) hD rfl (Nat.le_of_ble_eq_true rfl) ?_
  intro p e s m args below meth c X hr hl
  unfold mX9_last at h
  refine x_aload_n (pc := 0) X dX9_last_0 rfl 0 rfl ?_
  refine x_iload_n (pc := 1) X dX9_last_1 rfl 1 rfl ?_
  obtain ⟨r2, σ2, hq2, h⟩ := xb2_some h
  refine x_calliV (pc := 2) (As := [.int v1]) (rest := []) X (kX9_isThing l X.2.2.2.2.2.2.2 F _ _ _ _ hq2) kvX9_130 rfl (qX9) ⟨rfl, rfl, Nat.le_of_ble_eq_true rfl, Nat.le_of_ble_eq_true rfl⟩ rfl rfl (Nat.le_of_ble_eq_true rfl) dX9_last_2 ?_
  refine x_if_eq (pc := 5) X 25 dX9_last_5 (by decide) (fun hc => ?_) (fun hc => ?_)
  · have h := xit hc h
    refine x_sub [] rfl ?_
    exact wX9_last_L25 X hr hl F _ h
  · have h := xif hc h
    refine x_aload_n (pc := 8) X dX9_last_8 rfl 0 rfl ?_
    refine x_iload_n (pc := 9) X dX9_last_9 rfl 2 rfl ?_
    obtain ⟨r10, σ10, hq10, h⟩ := xb2_some h
    refine x_calliV (pc := 10) (As := [.int v2]) (rest := []) X (kX9_isPerson l X.2.2.2.2.2.2.2 F _ _ _ _ hq10) kvX9_136 rfl (qX9) ⟨rfl, rfl, Nat.le_of_ble_eq_true rfl, Nat.le_of_ble_eq_true rfl⟩ rfl rfl (Nat.le_of_ble_eq_true rfl) dX9_last_10 ?_
    refine x_if_eq (pc := 13) X 25 dX9_last_13 (by decide) (fun hc => ?_) (fun hc => ?_)
    · have h := xit hc h
      refine x_sub [] rfl ?_
      exact wX9_last_L25 X hr hl F _ h
    · have h := xif hc h
      refine x_aload_n (pc := 16) X dX9_last_16 rfl 0 rfl ?_
      refine x_iload_n (pc := 17) X dX9_last_17 rfl 1 rfl ?_
      refine x_iload_n (pc := 18) X dX9_last_18 rfl 2 rfl ?_
      obtain ⟨r19, σ19, hq19, h⟩ := xb2_some h
      refine x_calliV (pc := 19) (As := [.int v1, .int v2]) (rest := []) X (kX9_lastOf l X.2.2.2.2.2.2.2 F _ _ _ _ _ hq19) kvX9_237 rfl (qX9) ⟨rfl, rfl, Nat.le_of_ble_eq_true rfl, Nat.le_of_ble_eq_true rfl⟩ rfl rfl (Nat.le_of_ble_eq_true rfl) dX9_last_19 ?_
      refine x_goto (pc := 22) X 27 dX9_last_22 (by decide) ?_
      refine x_sub [] rfl ?_
      exact wX9_last_L27 X hr hl F _ _ h
set_option maxRecDepth 100000 in
set_option maxHeartbeats 4000000 in
theorem wX9_togetherOf_L283 {p : Program} {l : Launch} {e : Env} {s : State} {m : MethodId} {args : Array Value} {below : List Frame} {meth : Method} {c : Code} {D : va_G} {A : Nat → Prop} {ad : Nat → Nat} {cI cX : ClassId} {r : Int32} {σ' : xSt} (X : xX p s m args c cX9_togetherOf 8 RX9 D (tyM cI cX) A (wM ad cI cX)) (hr : meth.sig.returnType = (some .int)) (hl : meth.locks = false) (F : Nat) (t0 : Int32) (σ : xSt) (h : mX9_togetherOf_L283 F t0 σ = some (r, σ')) : xG p l e ({ frames := 5, cells := 0, slots := 0, locals := 117 }) s m args below meth c (MQ below (xQi D A (wM ad cI cX) r σ') args s 0 0 A) 8 D A (wM ad cI cX) σ 283 [] [.int t0] := by
  unfold mX9_togetherOf_L283 at h
  exact x_iret (pc := 283) X hr hl h dX9_togetherOf_283
set_option maxRecDepth 100000 in
set_option maxHeartbeats 4000000 in
theorem wX9_togetherOf_L273 {p : Program} {l : Launch} {e : Env} {s : State} {m : MethodId} {args : Array Value} {below : List Frame} {meth : Method} {c : Code} {D : va_G} {A : Nat → Prop} {ad : Nat → Nat} {cI cX : ClassId} {r : Int32} {σ' : xSt} (X : xX p s m args c cX9_togetherOf 8 RX9 D (tyM cI cX) A (wM ad cI cX)) (hr : meth.sig.returnType = (some .int)) (hl : meth.locks = false) (F : Nat) (v1 : Int32) (v2 : Int32) (v3 : Int32) (σ : xSt) (h : mX9_togetherOf_L273 F v1 v2 v3 σ = some (r, σ')) : xG p l e ({ frames := 5, cells := 0, slots := 0, locals := 117 }) s m args below meth c (MQ below (xQi D A (wM ad cI cX) r σ') args s 0 0 A) 8 D A (wM ad cI cX) σ 273 [(1, .int v1), (2, .int v2), (3, .int v3)] [] := by
  unfold mX9_togetherOf_L273 at h
  refine x_iload_n (pc := 273) X dX9_togetherOf_273 rfl 0 rfl ?_
  refine x_iconst (pc := 274) (v := (-1)) X dX9_togetherOf_274 (by decide) ?_
  refine x_icmp_ne (pc := 275) X 282 dX9_togetherOf_275 (by decide) (fun hc => ?_) (fun hc => ?_)
  · have h := xif hc h
    refine x_iload_n (pc := 282) X dX9_togetherOf_282 rfl 2 rfl ?_
    refine x_sub [] rfl ?_
    exact wX9_togetherOf_L283 X hr hl F _ _ h
  · have h := xit hc h
    refine x_iload_n (pc := 278) X dX9_togetherOf_278 rfl 1 rfl ?_
    refine x_goto (pc := 279) X 283 dX9_togetherOf_279 (by decide) ?_
    refine x_sub [] rfl ?_
    exact wX9_togetherOf_L283 X hr hl F _ _ h
set_option maxRecDepth 100000 in
set_option maxHeartbeats 4000000 in
theorem wX9_togetherOf_L265 {p : Program} {l : Launch} {e : Env} {s : State} {m : MethodId} {args : Array Value} {below : List Frame} {meth : Method} {c : Code} {D : va_G} {A : Nat → Prop} {ad : Nat → Nat} {cI cX : ClassId} {r : Int32} {σ' : xSt} {c190 : Int32 → Int32 → Int32 → Int32 → xSt → Option (Int32 × xSt)} (X : xX p s m args c cX9_togetherOf 8 RX9 D (tyM cI cX) A (wM ad cI cX)) (hr : meth.sig.returnType = (some .int)) (hl : meth.locks = false) (F : Nat) (hc190 : ∀ (v1 : Int32) (v2 : Int32) (v3 : Int32) (v4 : Int32) (σ : xSt), c190 v1 v2 v3 v4 σ = some (r, σ') → xG p l e ({ frames := 5, cells := 0, slots := 0, locals := 117 }) s m args below meth c (MQ below (xQi D A (wM ad cI cX) r σ') args s 0 0 A) 8 D A (wM ad cI cX) σ 190 [(0, .ref (ad 0)), (1, .int v1), (2, .int v2), (3, .int v3), (4, .int v4)] []) (v1 : Int32) (v3 : Int32) (v4 : Int32) (t0 : Int32) (t1 : Int32) (σ : xSt) (h : mX9_togetherOf_L265 F c190 v1 v3 v4 t0 t1 σ = some (r, σ')) : xG p l e ({ frames := 5, cells := 0, slots := 0, locals := 117 }) s m args below meth c (MQ below (xQi D A (wM ad cI cX) r σ') args s 0 0 A) 8 D A (wM ad cI cX) σ 265 [(0, .ref (ad 0)), (1, .int v1), (3, .int v3), (4, .int v4)] [.int t1, .int t0] := by
  unfold mX9_togetherOf_L265 at h
  refine x_iadd (pc := 265) X dX9_togetherOf_265 ?_
  refine x_istore_n (pc := 266) (lv' := [(2, .int (t0 + t1)), (0, .ref (ad 0)), (1, .int v1), (3, .int v3), (4, .int v4)]) X dX9_togetherOf_266 rfl (by decide) rfl ?_
  refine x_iinc (pc := 267) (v := (v4 + 1)) (lv' := [(4, .int (v4 + 1)), (2, .int (t0 + t1)), (0, .ref (ad 0)), (1, .int v1), (3, .int v3)]) X dX9_togetherOf_267 4 rfl rfl (by decide) rfl ?_
  refine x_goto (pc := 270) X 190 dX9_togetherOf_270 (by decide) ?_
  refine x_sub [2, 3, 1, 4, 0] rfl ?_
  exact hc190 _ _ _ _ _ h
set_option maxRecDepth 100000 in
set_option maxHeartbeats 4000000 in
theorem wX9_togetherOf_L253 {p : Program} {l : Launch} {e : Env} {s : State} {m : MethodId} {args : Array Value} {below : List Frame} {meth : Method} {c : Code} {D : va_G} {A : Nat → Prop} {ad : Nat → Nat} {cI cX : ClassId} {r : Int32} {σ' : xSt} {c190 : Int32 → Int32 → Int32 → Int32 → xSt → Option (Int32 × xSt)} (X : xX p s m args c cX9_togetherOf 8 RX9 D (tyM cI cX) A (wM ad cI cX)) (hr : meth.sig.returnType = (some .int)) (hl : meth.locks = false) (F : Nat) (hc190 : ∀ (v1 : Int32) (v2 : Int32) (v3 : Int32) (v4 : Int32) (σ : xSt), c190 v1 v2 v3 v4 σ = some (r, σ') → xG p l e ({ frames := 5, cells := 0, slots := 0, locals := 117 }) s m args below meth c (MQ below (xQi D A (wM ad cI cX) r σ') args s 0 0 A) 8 D A (wM ad cI cX) σ 190 [(0, .ref (ad 0)), (1, .int v1), (2, .int v2), (3, .int v3), (4, .int v4)] []) (v1 : Int32) (v2 : Int32) (v4 : Int32) (v5 : Int32) (t0 : Int32) (σ : xSt) (h : mX9_togetherOf_L253 F c190 v1 v2 v4 v5 t0 σ = some (r, σ')) : xG p l e ({ frames := 5, cells := 0, slots := 0, locals := 117 }) s m args below meth c (MQ below (xQi D A (wM ad cI cX) r σ') args s 0 0 A) 8 D A (wM ad cI cX) σ 253 [(0, .ref (ad 0)), (1, .int v1), (2, .int v2), (4, .int v4), (5, .int v5)] [.int t0] := by
  unfold mX9_togetherOf_L253 at h
  refine x_istore_n (pc := 253) (lv' := [(3, .int t0), (0, .ref (ad 0)), (1, .int v1), (2, .int v2), (4, .int v4), (5, .int v5)]) X dX9_togetherOf_253 rfl (by decide) rfl ?_
  refine x_iload_n (pc := 254) X dX9_togetherOf_254 rfl 3 rfl ?_
  refine x_iload (pc := 255) X dX9_togetherOf_255 5 rfl ?_
  refine x_if_eq (pc := 257) X 264 dX9_togetherOf_257 (by decide) (fun hc => ?_) (fun hc => ?_)
  · have h := xit hc h
    refine x_iconst (pc := 264) (v := 0) X dX9_togetherOf_264 (by decide) ?_
    refine x_sub [1, 2, 0, 4] rfl ?_
    exact wX9_togetherOf_L265 X hr hl F hc190 _ _ _ _ _ _ h
  · have h := xif hc h
    refine x_iconst (pc := 260) (v := 1) X dX9_togetherOf_260 (by decide) ?_
    refine x_goto (pc := 261) X 265 dX9_togetherOf_261 (by decide) ?_
    refine x_sub [1, 2, 0, 4] rfl ?_
    exact wX9_togetherOf_L265 X hr hl F hc190 _ _ _ _ _ _ h
set_option maxRecDepth 100000 in
set_option maxHeartbeats 4000000 in
theorem wX9_togetherOf_L252 {p : Program} {l : Launch} {e : Env} {s : State} {m : MethodId} {args : Array Value} {below : List Frame} {meth : Method} {c : Code} {D : va_G} {A : Nat → Prop} {ad : Nat → Nat} {cI cX : ClassId} {r : Int32} {σ' : xSt} {c190 : Int32 → Int32 → Int32 → Int32 → xSt → Option (Int32 × xSt)} (X : xX p s m args c cX9_togetherOf 8 RX9 D (tyM cI cX) A (wM ad cI cX)) (hr : meth.sig.returnType = (some .int)) (hl : meth.locks = false) (F : Nat) (hc190 : ∀ (v1 : Int32) (v2 : Int32) (v3 : Int32) (v4 : Int32) (σ : xSt), c190 v1 v2 v3 v4 σ = some (r, σ') → xG p l e ({ frames := 5, cells := 0, slots := 0, locals := 117 }) s m args below meth c (MQ below (xQi D A (wM ad cI cX) r σ') args s 0 0 A) 8 D A (wM ad cI cX) σ 190 [(0, .ref (ad 0)), (1, .int v1), (2, .int v2), (3, .int v3), (4, .int v4)] []) (v1 : Int32) (v2 : Int32) (v3 : Int32) (v4 : Int32) (v5 : Int32) (σ : xSt) (h : mX9_togetherOf_L252 F c190 v1 v2 v3 v4 v5 σ = some (r, σ')) : xG p l e ({ frames := 5, cells := 0, slots := 0, locals := 117 }) s m args below meth c (MQ below (xQi D A (wM ad cI cX) r σ') args s 0 0 A) 8 D A (wM ad cI cX) σ 252 [(0, .ref (ad 0)), (1, .int v1), (2, .int v2), (3, .int v3), (4, .int v4), (5, .int v5)] [] := by
  unfold mX9_togetherOf_L252 at h
  refine x_iload_n (pc := 252) X dX9_togetherOf_252 rfl 3 rfl ?_
  refine x_sub [0, 1, 2, 4, 5] rfl ?_
  exact wX9_togetherOf_L253 X hr hl F hc190 _ _ _ _ _ _ h
set_option maxRecDepth 100000 in
set_option maxHeartbeats 4000000 in
theorem wX9_togetherOf_L235 {p : Program} {l : Launch} {e : Env} {s : State} {m : MethodId} {args : Array Value} {below : List Frame} {meth : Method} {c : Code} {D : va_G} {A : Nat → Prop} {ad : Nat → Nat} {cI cX : ClassId} {r : Int32} {σ' : xSt} {c190 : Int32 → Int32 → Int32 → Int32 → xSt → Option (Int32 × xSt)} (X : xX p s m args c cX9_togetherOf 8 RX9 D (tyM cI cX) A (wM ad cI cX)) (hr : meth.sig.returnType = (some .int)) (hl : meth.locks = false) (F : Nat) (hc190 : ∀ (v1 : Int32) (v2 : Int32) (v3 : Int32) (v4 : Int32) (σ : xSt), c190 v1 v2 v3 v4 σ = some (r, σ') → xG p l e ({ frames := 5, cells := 0, slots := 0, locals := 117 }) s m args below meth c (MQ below (xQi D A (wM ad cI cX) r σ') args s 0 0 A) 8 D A (wM ad cI cX) σ 190 [(0, .ref (ad 0)), (1, .int v1), (2, .int v2), (3, .int v3), (4, .int v4)] []) (v1 : Int32) (v2 : Int32) (v3 : Int32) (v4 : Int32) (t0 : Int32) (σ : xSt) (h : mX9_togetherOf_L235 F c190 v1 v2 v3 v4 t0 σ = some (r, σ')) : xG p l e ({ frames := 5, cells := 0, slots := 0, locals := 117 }) s m args below meth c (MQ below (xQi D A (wM ad cI cX) r σ') args s 0 0 A) 8 D A (wM ad cI cX) σ 235 [(0, .ref (ad 0)), (1, .int v1), (2, .int v2), (3, .int v3), (4, .int v4)] [.int t0] := by
  unfold mX9_togetherOf_L235 at h
  refine x_istore (pc := 235) (lv' := [(5, .int t0), (0, .ref (ad 0)), (1, .int v1), (2, .int v2), (3, .int v3), (4, .int v4)]) X dX9_togetherOf_235 (by decide) rfl ?_
  refine x_iload (pc := 237) X dX9_togetherOf_237 0 rfl ?_
  refine x_if_eq (pc := 239) X 252 dX9_togetherOf_239 (by decide) (fun hc => ?_) (fun hc => ?_)
  · have h := xit hc h
    refine x_sub [1, 2, 3, 4, 5, 0] rfl ?_
    exact wX9_togetherOf_L252 X hr hl F hc190 _ _ _ _ _ _ h
  · have h := xif hc h
    refine x_iload_n (pc := 242) X dX9_togetherOf_242 rfl 3 rfl ?_
    refine x_iload_n (pc := 243) X dX9_togetherOf_243 rfl 2 rfl ?_
    refine x_icmp_ne (pc := 244) X 252 dX9_togetherOf_244 (by decide) (fun hc => ?_) (fun hc => ?_)
    · have h := xif hc h
      refine x_sub [1, 2, 3, 4, 5, 0] rfl ?_
      exact wX9_togetherOf_L252 X hr hl F hc190 _ _ _ _ _ _ h
    · have h := xit hc h
      refine x_iload (pc := 247) X dX9_togetherOf_247 5 rfl ?_
      refine x_goto (pc := 249) X 253 dX9_togetherOf_249 (by decide) ?_
      refine x_sub [1, 2, 3, 5, 0] rfl ?_
      exact wX9_togetherOf_L253 X hr hl F hc190 _ _ _ _ _ _ h
set_option maxRecDepth 100000 in
set_option maxHeartbeats 4000000 in
theorem wX9_togetherOf_L234 {p : Program} {l : Launch} {e : Env} {s : State} {m : MethodId} {args : Array Value} {below : List Frame} {meth : Method} {c : Code} {D : va_G} {A : Nat → Prop} {ad : Nat → Nat} {cI cX : ClassId} {r : Int32} {σ' : xSt} {c190 : Int32 → Int32 → Int32 → Int32 → xSt → Option (Int32 × xSt)} (X : xX p s m args c cX9_togetherOf 8 RX9 D (tyM cI cX) A (wM ad cI cX)) (hr : meth.sig.returnType = (some .int)) (hl : meth.locks = false) (F : Nat) (hc190 : ∀ (v1 : Int32) (v2 : Int32) (v3 : Int32) (v4 : Int32) (σ : xSt), c190 v1 v2 v3 v4 σ = some (r, σ') → xG p l e ({ frames := 5, cells := 0, slots := 0, locals := 117 }) s m args below meth c (MQ below (xQi D A (wM ad cI cX) r σ') args s 0 0 A) 8 D A (wM ad cI cX) σ 190 [(0, .ref (ad 0)), (1, .int v1), (2, .int v2), (3, .int v3), (4, .int v4)] []) (v1 : Int32) (v2 : Int32) (v3 : Int32) (v4 : Int32) (σ : xSt) (h : mX9_togetherOf_L234 F c190 v1 v2 v3 v4 σ = some (r, σ')) : xG p l e ({ frames := 5, cells := 0, slots := 0, locals := 117 }) s m args below meth c (MQ below (xQi D A (wM ad cI cX) r σ') args s 0 0 A) 8 D A (wM ad cI cX) σ 234 [(0, .ref (ad 0)), (1, .int v1), (2, .int v2), (3, .int v3), (4, .int v4)] [] := by
  unfold mX9_togetherOf_L234 at h
  refine x_iconst (pc := 234) (v := 0) X dX9_togetherOf_234 (by decide) ?_
  refine x_sub [0, 1, 2, 3, 4] rfl ?_
  exact wX9_togetherOf_L235 X hr hl F hc190 _ _ _ _ _ _ h
set_option maxRecDepth 100000 in
set_option maxHeartbeats 4000000 in
theorem wX9_togetherOf_S190 {p : Program} {l : Launch} {e : Env} {s : State} {m : MethodId} {args : Array Value} {below : List Frame} {meth : Method} {c : Code} {D : va_G} {A : Nat → Prop} {ad : Nat → Nat} {cI cX : ClassId} {r : Int32} {σ' : xSt} {c190 : Int32 → Int32 → Int32 → Int32 → xSt → Option (Int32 × xSt)} (X : xX p s m args c cX9_togetherOf 8 RX9 D (tyM cI cX) A (wM ad cI cX)) (hr : meth.sig.returnType = (some .int)) (hl : meth.locks = false) (F : Nat) (hc190 : ∀ (v1 : Int32) (v2 : Int32) (v3 : Int32) (v4 : Int32) (σ : xSt), c190 v1 v2 v3 v4 σ = some (r, σ') → xG p l e ({ frames := 5, cells := 0, slots := 0, locals := 117 }) s m args below meth c (MQ below (xQi D A (wM ad cI cX) r σ') args s 0 0 A) 8 D A (wM ad cI cX) σ 190 [(0, .ref (ad 0)), (1, .int v1), (2, .int v2), (3, .int v3), (4, .int v4)] []) (v1 : Int32) (v2 : Int32) (v3 : Int32) (v4 : Int32) (σ : xSt) (h : mX9_togetherOf_S190 F c190 v1 v2 v3 v4 σ = some (r, σ')) : xG p l e ({ frames := 5, cells := 0, slots := 0, locals := 117 }) s m args below meth c (MQ below (xQi D A (wM ad cI cX) r σ') args s 0 0 A) 8 D A (wM ad cI cX) σ 190 [(0, .ref (ad 0)), (1, .int v1), (2, .int v2), (3, .int v3), (4, .int v4)] [] := by
  unfold mX9_togetherOf_S190 at h
  refine x_iload (pc := 190) X dX9_togetherOf_190 4 rfl ?_
  refine x_bipush (pc := 192) (v := 64) X dX9_togetherOf_192 (by decide) ?_
  refine x_icmp_ge (pc := 194) X 273 dX9_togetherOf_194 (by decide) (fun hc => ?_) (fun hc => ?_)
  · have h := xit hc h
    refine x_sub [1, 2, 3] rfl ?_
    exact wX9_togetherOf_L273 X hr hl F _ _ _ _ h
  · have h := xif hc h
    refine x_iload (pc := 197) X dX9_togetherOf_197 4 rfl ?_
    refine x_bipush (pc := 199) (v := 8) X dX9_togetherOf_199 (by decide) ?_
    obtain ⟨hb201, h⟩ := xck_some h
    refine x_idiv (pc := 201) X dX9_togetherOf_201 (xnzI_n hb201) ?_
    refine x_iload (pc := 202) X dX9_togetherOf_202 4 rfl ?_
    refine x_bipush (pc := 204) (v := 8) X dX9_togetherOf_204 (by decide) ?_
    obtain ⟨hb206, h⟩ := xck_some h
    refine x_irem (pc := 206) X dX9_togetherOf_206 (xnzI_n hb206) ?_
    refine x_icmp_ge (pc := 207) X 234 dX9_togetherOf_207 (by decide) (fun hc => ?_) (fun hc => ?_)
    · have h := xit hc h
      refine x_sub [0, 1, 2, 3, 4] rfl ?_
      exact wX9_togetherOf_L234 X hr hl F hc190 _ _ _ _ _ h
    · have h := xif hc h
      refine x_aload_n (pc := 210) X dX9_togetherOf_210 rfl 0 rfl ?_
      refine gX9_58 (pc := 211) X dX9_togetherOf_211 ?_
      refine x_iload (pc := 214) X dX9_togetherOf_214 4 rfl ?_
      obtain ⟨hb216, h⟩ := xck_some h
      refine x_zald (pc := 216) X 17 1 (qaX9_isBoth) rfl hb216 dX9_togetherOf_216 ?_
      refine x_if_eq (pc := 217) X 234 dX9_togetherOf_217 (by decide) (fun hc => ?_) (fun hc => ?_)
      · have h := xit hc h
        refine x_sub [0, 1, 2, 3, 4] rfl ?_
        exact wX9_togetherOf_L234 X hr hl F hc190 _ _ _ _ _ h
      · have h := xif hc h
        refine x_aload_n (pc := 220) X dX9_togetherOf_220 rfl 0 rfl ?_
        refine gX9_62 (pc := 221) X dX9_togetherOf_221 ?_
        refine x_iload (pc := 224) X dX9_togetherOf_224 4 rfl ?_
        obtain ⟨hb226, h⟩ := xck_some h
        refine x_zald (pc := 226) X 18 1 (qaX9_isOne) rfl hb226 dX9_togetherOf_226 ?_
        refine x_if_ne (pc := 227) X 234 dX9_togetherOf_227 (by decide) (fun hc => ?_) (fun hc => ?_)
        · have h := xif hc h
          refine x_sub [0, 1, 2, 3, 4] rfl ?_
          exact wX9_togetherOf_L234 X hr hl F hc190 _ _ _ _ _ h
        · have h := xit hc h
          refine x_iconst (pc := 230) (v := 1) X dX9_togetherOf_230 (by decide) ?_
          refine x_goto (pc := 231) X 235 dX9_togetherOf_231 (by decide) ?_
          refine x_sub [0, 1, 2, 3, 4] rfl ?_
          exact wX9_togetherOf_L235 X hr hl F hc190 _ _ _ _ _ _ h
theorem wX9_togetherOf_L190 {p : Program} {l : Launch} {e : Env} {s : State} {m : MethodId} {args : Array Value} {below : List Frame} {meth : Method} {c : Code} {D : va_G} {A : Nat → Prop} {ad : Nat → Nat} {cI cX : ClassId} {r : Int32} {σ' : xSt} (X : xX p s m args c cX9_togetherOf 8 RX9 D (tyM cI cX) A (wM ad cI cX)) (hr : meth.sig.returnType = (some .int)) (hl : meth.locks = false) (F : Nat) : ∀ (n : Nat) (v1 : Int32) (v2 : Int32) (v3 : Int32) (v4 : Int32) (σ : xSt), mX9_togetherOf_L190 F n v1 v2 v3 v4 σ = some (r, σ') → xG p l e ({ frames := 5, cells := 0, slots := 0, locals := 117 }) s m args below meth c (MQ below (xQi D A (wM ad cI cX) r σ') args s 0 0 A) 8 D A (wM ad cI cX) σ 190 [(0, .ref (ad 0)), (1, .int v1), (2, .int v2), (3, .int v3), (4, .int v4)] [] := by
  intro n
  induction n with
  | zero => intro v1 v2 v3 v4 σ h; cases h
  | succ n ih => intro v1 v2 v3 v4 σ h; exact wX9_togetherOf_S190 X hr hl F ih v1 v2 v3 v4 σ h
set_option maxRecDepth 100000 in
set_option maxHeartbeats 4000000 in
theorem wX9_togetherOf_L183 {p : Program} {l : Launch} {e : Env} {s : State} {m : MethodId} {args : Array Value} {below : List Frame} {meth : Method} {c : Code} {D : va_G} {A : Nat → Prop} {ad : Nat → Nat} {cI cX : ClassId} {r : Int32} {σ' : xSt} (X : xX p s m args c cX9_togetherOf 8 RX9 D (tyM cI cX) A (wM ad cI cX)) (hr : meth.sig.returnType = (some .int)) (hl : meth.locks = false) (F : Nat) (v1 : Int32) (σ : xSt) (h : mX9_togetherOf_L183 F v1 σ = some (r, σ')) : xG p l e ({ frames := 5, cells := 0, slots := 0, locals := 117 }) s m args below meth c (MQ below (xQi D A (wM ad cI cX) r σ') args s 0 0 A) 8 D A (wM ad cI cX) σ 183 [(0, .ref (ad 0)), (1, .int v1)] [] := by
  unfold mX9_togetherOf_L183 at h
  refine x_iconst (pc := 183) (v := 0) X dX9_togetherOf_183 (by decide) ?_
  refine x_istore_n (pc := 184) (lv' := [(2, .int 0), (0, .ref (ad 0)), (1, .int v1)]) X dX9_togetherOf_184 rfl (by decide) rfl ?_
  refine x_iconst (pc := 185) (v := (-1)) X dX9_togetherOf_185 (by decide) ?_
  refine x_istore_n (pc := 186) (lv' := [(3, .int (-1)), (2, .int 0), (0, .ref (ad 0)), (1, .int v1)]) X dX9_togetherOf_186 rfl (by decide) rfl ?_
  refine x_iconst (pc := 187) (v := 0) X dX9_togetherOf_187 (by decide) ?_
  refine x_istore (pc := 188) (lv' := [(4, .int 0), (3, .int (-1)), (2, .int 0), (0, .ref (ad 0)), (1, .int v1)]) X dX9_togetherOf_188 (by decide) rfl ?_
  refine x_sub [3, 4, 2, 1, 0] rfl ?_
  exact wX9_togetherOf_L190 X hr hl F F _ _ _ _ _ h
set_option maxRecDepth 100000 in
set_option maxHeartbeats 4000000 in
theorem wX9_togetherOf_L177 {p : Program} {l : Launch} {e : Env} {s : State} {m : MethodId} {args : Array Value} {below : List Frame} {meth : Method} {c : Code} {D : va_G} {A : Nat → Prop} {ad : Nat → Nat} {cI cX : ClassId} {r : Int32} {σ' : xSt} {c42 : Int32 → Int32 → xSt → Option (Int32 × xSt)} (X : xX p s m args c cX9_togetherOf 8 RX9 D (tyM cI cX) A (wM ad cI cX)) (hr : meth.sig.returnType = (some .int)) (hl : meth.locks = false) (F : Nat) (hc42 : ∀ (v1 : Int32) (v2 : Int32) (σ : xSt), c42 v1 v2 σ = some (r, σ') → xG p l e ({ frames := 5, cells := 0, slots := 0, locals := 117 }) s m args below meth c (MQ below (xQi D A (wM ad cI cX) r σ') args s 0 0 A) 8 D A (wM ad cI cX) σ 42 [(0, .ref (ad 0)), (1, .int v1), (2, .int v2)] []) (v1 : Int32) (v2 : Int32) (σ : xSt) (h : mX9_togetherOf_L177 F c42 v1 v2 σ = some (r, σ')) : xG p l e ({ frames := 5, cells := 0, slots := 0, locals := 117 }) s m args below meth c (MQ below (xQi D A (wM ad cI cX) r σ') args s 0 0 A) 8 D A (wM ad cI cX) σ 177 [(0, .ref (ad 0)), (1, .int v1), (2, .int v2)] [] := by
  unfold mX9_togetherOf_L177 at h
  refine x_iinc (pc := 177) (v := (v2 + 1)) (lv' := [(2, .int (v2 + 1)), (0, .ref (ad 0)), (1, .int v1)]) X dX9_togetherOf_177 2 rfl rfl (by decide) rfl ?_
  refine x_goto (pc := 180) X 42 dX9_togetherOf_180 (by decide) ?_
  refine x_sub [1, 2, 0] rfl ?_
  exact hc42 _ _ _ h
set_option maxRecDepth 100000 in
set_option maxHeartbeats 4000000 in
theorem wX9_togetherOf_L171 {p : Program} {l : Launch} {e : Env} {s : State} {m : MethodId} {args : Array Value} {below : List Frame} {meth : Method} {c : Code} {D : va_G} {A : Nat → Prop} {ad : Nat → Nat} {cI cX : ClassId} {r : Int32} {σ' : xSt} {c42 : Int32 → Int32 → xSt → Option (Int32 × xSt)} {c55 : Int32 → Int32 → Int32 → xSt → Option (Int32 × xSt)} (X : xX p s m args c cX9_togetherOf 8 RX9 D (tyM cI cX) A (wM ad cI cX)) (hr : meth.sig.returnType = (some .int)) (hl : meth.locks = false) (F : Nat) (hc42 : ∀ (v1 : Int32) (v2 : Int32) (σ : xSt), c42 v1 v2 σ = some (r, σ') → xG p l e ({ frames := 5, cells := 0, slots := 0, locals := 117 }) s m args below meth c (MQ below (xQi D A (wM ad cI cX) r σ') args s 0 0 A) 8 D A (wM ad cI cX) σ 42 [(0, .ref (ad 0)), (1, .int v1), (2, .int v2)] []) (hc55 : ∀ (v1 : Int32) (v2 : Int32) (v3 : Int32) (σ : xSt), c55 v1 v2 v3 σ = some (r, σ') → xG p l e ({ frames := 5, cells := 0, slots := 0, locals := 117 }) s m args below meth c (MQ below (xQi D A (wM ad cI cX) r σ') args s 0 0 A) 8 D A (wM ad cI cX) σ 55 [(0, .ref (ad 0)), (1, .int v1), (2, .int v2), (3, .int v3)] []) (v1 : Int32) (v2 : Int32) (v3 : Int32) (σ : xSt) (h : mX9_togetherOf_L171 F c42 c55 v1 v2 v3 σ = some (r, σ')) : xG p l e ({ frames := 5, cells := 0, slots := 0, locals := 117 }) s m args below meth c (MQ below (xQi D A (wM ad cI cX) r σ') args s 0 0 A) 8 D A (wM ad cI cX) σ 171 [(0, .ref (ad 0)), (1, .int v1), (2, .int v2), (3, .int v3)] [] := by
  unfold mX9_togetherOf_L171 at h
  refine x_iinc (pc := 171) (v := (v3 + 1)) (lv' := [(3, .int (v3 + 1)), (0, .ref (ad 0)), (1, .int v1), (2, .int v2)]) X dX9_togetherOf_171 3 rfl rfl (by decide) rfl ?_
  refine x_goto (pc := 174) X 55 dX9_togetherOf_174 (by decide) ?_
  refine x_sub [1, 2, 3, 0] rfl ?_
  exact hc55 _ _ _ _ h
set_option maxRecDepth 100000 in
set_option maxHeartbeats 4000000 in
theorem wX9_togetherOf_L164 {p : Program} {l : Launch} {e : Env} {s : State} {m : MethodId} {args : Array Value} {below : List Frame} {meth : Method} {c : Code} {D : va_G} {A : Nat → Prop} {ad : Nat → Nat} {cI cX : ClassId} {r : Int32} {σ' : xSt} {c42 : Int32 → Int32 → xSt → Option (Int32 × xSt)} {c55 : Int32 → Int32 → Int32 → xSt → Option (Int32 × xSt)} {c73 : Int32 → Int32 → Int32 → Int32 → Int32 → xSt → Option (Int32 × xSt)} (X : xX p s m args c cX9_togetherOf 8 RX9 D (tyM cI cX) A (wM ad cI cX)) (hr : meth.sig.returnType = (some .int)) (hl : meth.locks = false) (F : Nat) (hc42 : ∀ (v1 : Int32) (v2 : Int32) (σ : xSt), c42 v1 v2 σ = some (r, σ') → xG p l e ({ frames := 5, cells := 0, slots := 0, locals := 117 }) s m args below meth c (MQ below (xQi D A (wM ad cI cX) r σ') args s 0 0 A) 8 D A (wM ad cI cX) σ 42 [(0, .ref (ad 0)), (1, .int v1), (2, .int v2)] []) (hc55 : ∀ (v1 : Int32) (v2 : Int32) (v3 : Int32) (σ : xSt), c55 v1 v2 v3 σ = some (r, σ') → xG p l e ({ frames := 5, cells := 0, slots := 0, locals := 117 }) s m args below meth c (MQ below (xQi D A (wM ad cI cX) r σ') args s 0 0 A) 8 D A (wM ad cI cX) σ 55 [(0, .ref (ad 0)), (1, .int v1), (2, .int v2), (3, .int v3)] []) (hc73 : ∀ (v1 : Int32) (v2 : Int32) (v3 : Int32) (v4 : Int32) (v5 : Int32) (σ : xSt), c73 v1 v2 v3 v4 v5 σ = some (r, σ') → xG p l e ({ frames := 5, cells := 0, slots := 0, locals := 117 }) s m args below meth c (MQ below (xQi D A (wM ad cI cX) r σ') args s 0 0 A) 8 D A (wM ad cI cX) σ 73 [(0, .ref (ad 0)), (1, .int v1), (2, .int v2), (3, .int v3), (4, .int v4), (5, .int v5)] []) (v1 : Int32) (v2 : Int32) (v3 : Int32) (v4 : Int32) (v5 : Int32) (t1 : Int32) (t2 : Int32) (σ : xSt) (h : mX9_togetherOf_L164 F c42 c55 c73 v1 v2 v3 v4 v5 t1 t2 σ = some (r, σ')) : xG p l e ({ frames := 5, cells := 0, slots := 0, locals := 117 }) s m args below meth c (MQ below (xQi D A (wM ad cI cX) r σ') args s 0 0 A) 8 D A (wM ad cI cX) σ 164 [(0, .ref (ad 0)), (1, .int v1), (2, .int v2), (3, .int v3), (4, .int v4), (5, .int v5)] [.int t2, .int t1, .ref (ad 18)] := by
  unfold mX9_togetherOf_L164 at h
  obtain ⟨hb164, h⟩ := xck_some h
  obtain ⟨hz164, h⟩ := xck_some h
  refine x_zast (pc := 164) (σ' := (xsA σ 25 (Int32.toNatClampNeg t1) t2)) X 18 1 (qaX9_isOne) rfl (saX9_isOne _) hb164 hz164 dX9_togetherOf_164 ?_
  refine x_iinc (pc := 165) (v := (v5 + 1)) (lv' := [(5, .int (v5 + 1)), (0, .ref (ad 0)), (1, .int v1), (2, .int v2), (3, .int v3), (4, .int v4)]) X dX9_togetherOf_165 5 rfl rfl (by decide) rfl ?_
  refine x_goto (pc := 168) X 73 dX9_togetherOf_168 (by decide) ?_
  refine x_sub [1, 2, 3, 4, 5, 0] rfl ?_
  exact hc73 _ _ _ _ _ _ h
set_option maxRecDepth 100000 in
set_option maxHeartbeats 4000000 in
theorem wX9_togetherOf_L159 {p : Program} {l : Launch} {e : Env} {s : State} {m : MethodId} {args : Array Value} {below : List Frame} {meth : Method} {c : Code} {D : va_G} {A : Nat → Prop} {ad : Nat → Nat} {cI cX : ClassId} {r : Int32} {σ' : xSt} {c42 : Int32 → Int32 → xSt → Option (Int32 × xSt)} {c55 : Int32 → Int32 → Int32 → xSt → Option (Int32 × xSt)} {c73 : Int32 → Int32 → Int32 → Int32 → Int32 → xSt → Option (Int32 × xSt)} (X : xX p s m args c cX9_togetherOf 8 RX9 D (tyM cI cX) A (wM ad cI cX)) (hr : meth.sig.returnType = (some .int)) (hl : meth.locks = false) (F : Nat) (hc42 : ∀ (v1 : Int32) (v2 : Int32) (σ : xSt), c42 v1 v2 σ = some (r, σ') → xG p l e ({ frames := 5, cells := 0, slots := 0, locals := 117 }) s m args below meth c (MQ below (xQi D A (wM ad cI cX) r σ') args s 0 0 A) 8 D A (wM ad cI cX) σ 42 [(0, .ref (ad 0)), (1, .int v1), (2, .int v2)] []) (hc55 : ∀ (v1 : Int32) (v2 : Int32) (v3 : Int32) (σ : xSt), c55 v1 v2 v3 σ = some (r, σ') → xG p l e ({ frames := 5, cells := 0, slots := 0, locals := 117 }) s m args below meth c (MQ below (xQi D A (wM ad cI cX) r σ') args s 0 0 A) 8 D A (wM ad cI cX) σ 55 [(0, .ref (ad 0)), (1, .int v1), (2, .int v2), (3, .int v3)] []) (hc73 : ∀ (v1 : Int32) (v2 : Int32) (v3 : Int32) (v4 : Int32) (v5 : Int32) (σ : xSt), c73 v1 v2 v3 v4 v5 σ = some (r, σ') → xG p l e ({ frames := 5, cells := 0, slots := 0, locals := 117 }) s m args below meth c (MQ below (xQi D A (wM ad cI cX) r σ') args s 0 0 A) 8 D A (wM ad cI cX) σ 73 [(0, .ref (ad 0)), (1, .int v1), (2, .int v2), (3, .int v3), (4, .int v4), (5, .int v5)] []) (v1 : Int32) (v2 : Int32) (v3 : Int32) (v4 : Int32) (v5 : Int32) (t1 : Int32) (σ : xSt) (h : mX9_togetherOf_L159 F c42 c55 c73 v1 v2 v3 v4 v5 t1 σ = some (r, σ')) : xG p l e ({ frames := 5, cells := 0, slots := 0, locals := 117 }) s m args below meth c (MQ below (xQi D A (wM ad cI cX) r σ') args s 0 0 A) 8 D A (wM ad cI cX) σ 159 [(0, .ref (ad 0)), (1, .int v1), (2, .int v2), (3, .int v3), (4, .int v4), (5, .int v5)] [.int t1, .ref (ad 18)] := by
  unfold mX9_togetherOf_L159 at h
  refine x_iconst (pc := 159) (v := 1) X dX9_togetherOf_159 (by decide) ?_
  refine x_goto (pc := 160) X 164 dX9_togetherOf_160 (by decide) ?_
  refine x_sub [0, 1, 2, 3, 4, 5] rfl ?_
  exact wX9_togetherOf_L164 X hr hl F hc42 hc55 hc73 _ _ _ _ _ _ _ _ h
set_option maxRecDepth 100000 in
set_option maxHeartbeats 4000000 in
theorem wX9_togetherOf_L135 {p : Program} {l : Launch} {e : Env} {s : State} {m : MethodId} {args : Array Value} {below : List Frame} {meth : Method} {c : Code} {D : va_G} {A : Nat → Prop} {ad : Nat → Nat} {cI cX : ClassId} {r : Int32} {σ' : xSt} {c42 : Int32 → Int32 → xSt → Option (Int32 × xSt)} {c55 : Int32 → Int32 → Int32 → xSt → Option (Int32 × xSt)} {c73 : Int32 → Int32 → Int32 → Int32 → Int32 → xSt → Option (Int32 × xSt)} (X : xX p s m args c cX9_togetherOf 8 RX9 D (tyM cI cX) A (wM ad cI cX)) (hr : meth.sig.returnType = (some .int)) (hl : meth.locks = false) (F : Nat) (hc42 : ∀ (v1 : Int32) (v2 : Int32) (σ : xSt), c42 v1 v2 σ = some (r, σ') → xG p l e ({ frames := 5, cells := 0, slots := 0, locals := 117 }) s m args below meth c (MQ below (xQi D A (wM ad cI cX) r σ') args s 0 0 A) 8 D A (wM ad cI cX) σ 42 [(0, .ref (ad 0)), (1, .int v1), (2, .int v2)] []) (hc55 : ∀ (v1 : Int32) (v2 : Int32) (v3 : Int32) (σ : xSt), c55 v1 v2 v3 σ = some (r, σ') → xG p l e ({ frames := 5, cells := 0, slots := 0, locals := 117 }) s m args below meth c (MQ below (xQi D A (wM ad cI cX) r σ') args s 0 0 A) 8 D A (wM ad cI cX) σ 55 [(0, .ref (ad 0)), (1, .int v1), (2, .int v2), (3, .int v3)] []) (hc73 : ∀ (v1 : Int32) (v2 : Int32) (v3 : Int32) (v4 : Int32) (v5 : Int32) (σ : xSt), c73 v1 v2 v3 v4 v5 σ = some (r, σ') → xG p l e ({ frames := 5, cells := 0, slots := 0, locals := 117 }) s m args below meth c (MQ below (xQi D A (wM ad cI cX) r σ') args s 0 0 A) 8 D A (wM ad cI cX) σ 73 [(0, .ref (ad 0)), (1, .int v1), (2, .int v2), (3, .int v3), (4, .int v4), (5, .int v5)] []) (v1 : Int32) (v2 : Int32) (v3 : Int32) (v4 : Int32) (v5 : Int32) (v6 : Int32) (v7 : Int32) (t1 : Int32) (t2 : Int32) (σ : xSt) (h : mX9_togetherOf_L135 F c42 c55 c73 v1 v2 v3 v4 v5 v6 v7 t1 t2 σ = some (r, σ')) : xG p l e ({ frames := 5, cells := 0, slots := 0, locals := 117 }) s m args below meth c (MQ below (xQi D A (wM ad cI cX) r σ') args s 0 0 A) 8 D A (wM ad cI cX) σ 135 [(0, .ref (ad 0)), (1, .int v1), (2, .int v2), (3, .int v3), (4, .int v4), (5, .int v5), (6, .int v6), (7, .int v7)] [.int t2, .int t1, .ref (ad 17)] := by
  unfold mX9_togetherOf_L135 at h
  obtain ⟨hb135, h⟩ := xck_some h
  obtain ⟨hz135, h⟩ := xck_some h
  refine x_zast (pc := 135) (σ' := (xsA σ 24 (Int32.toNatClampNeg t1) t2)) X 17 1 (qaX9_isBoth) rfl (saX9_isBoth _) hb135 hz135 dX9_togetherOf_135 ?_
  refine x_aload_n (pc := 136) X dX9_togetherOf_136 rfl 0 rfl ?_
  refine gX9_62 (pc := 137) X dX9_togetherOf_137 ?_
  refine x_iload (pc := 140) X dX9_togetherOf_140 5 rfl ?_
  refine x_aload_n (pc := 142) X dX9_togetherOf_142 rfl 0 rfl ?_
  refine gX9_62 (pc := 143) X dX9_togetherOf_143 ?_
  refine x_iload (pc := 146) X dX9_togetherOf_146 5 rfl ?_
  obtain ⟨hb148, h⟩ := xck_some h
  refine x_zald (pc := 148) X 18 1 (qaX9_isOne) rfl hb148 dX9_togetherOf_148 ?_
  refine x_if_ne (pc := 149) X 159 dX9_togetherOf_149 (by decide) (fun hc => ?_) (fun hc => ?_)
  · have h := xif hc h
    refine x_sub [0, 1, 2, 3, 4, 5] rfl ?_
    exact wX9_togetherOf_L159 X hr hl F hc42 hc55 hc73 _ _ _ _ _ _ _ h
  · have h := xit hc h
    refine x_iload (pc := 152) X dX9_togetherOf_152 6 rfl ?_
    refine x_iload (pc := 154) X dX9_togetherOf_154 7 rfl ?_
    refine x_icmp_eq (pc := 156) X 163 dX9_togetherOf_156 (by decide) (fun hc => ?_) (fun hc => ?_)
    · have h := xit hc h
      refine x_iconst (pc := 163) (v := 0) X dX9_togetherOf_163 (by decide) ?_
      refine x_sub [0, 1, 2, 3, 4, 5] rfl ?_
      exact wX9_togetherOf_L164 X hr hl F hc42 hc55 hc73 _ _ _ _ _ _ _ _ h
    · have h := xif hc h
      refine x_sub [0, 1, 2, 3, 4, 5] rfl ?_
      exact wX9_togetherOf_L159 X hr hl F hc42 hc55 hc73 _ _ _ _ _ _ _ h
set_option maxRecDepth 100000 in
set_option maxHeartbeats 4000000 in
theorem wX9_togetherOf_L134 {p : Program} {l : Launch} {e : Env} {s : State} {m : MethodId} {args : Array Value} {below : List Frame} {meth : Method} {c : Code} {D : va_G} {A : Nat → Prop} {ad : Nat → Nat} {cI cX : ClassId} {r : Int32} {σ' : xSt} {c42 : Int32 → Int32 → xSt → Option (Int32 × xSt)} {c55 : Int32 → Int32 → Int32 → xSt → Option (Int32 × xSt)} {c73 : Int32 → Int32 → Int32 → Int32 → Int32 → xSt → Option (Int32 × xSt)} (X : xX p s m args c cX9_togetherOf 8 RX9 D (tyM cI cX) A (wM ad cI cX)) (hr : meth.sig.returnType = (some .int)) (hl : meth.locks = false) (F : Nat) (hc42 : ∀ (v1 : Int32) (v2 : Int32) (σ : xSt), c42 v1 v2 σ = some (r, σ') → xG p l e ({ frames := 5, cells := 0, slots := 0, locals := 117 }) s m args below meth c (MQ below (xQi D A (wM ad cI cX) r σ') args s 0 0 A) 8 D A (wM ad cI cX) σ 42 [(0, .ref (ad 0)), (1, .int v1), (2, .int v2)] []) (hc55 : ∀ (v1 : Int32) (v2 : Int32) (v3 : Int32) (σ : xSt), c55 v1 v2 v3 σ = some (r, σ') → xG p l e ({ frames := 5, cells := 0, slots := 0, locals := 117 }) s m args below meth c (MQ below (xQi D A (wM ad cI cX) r σ') args s 0 0 A) 8 D A (wM ad cI cX) σ 55 [(0, .ref (ad 0)), (1, .int v1), (2, .int v2), (3, .int v3)] []) (hc73 : ∀ (v1 : Int32) (v2 : Int32) (v3 : Int32) (v4 : Int32) (v5 : Int32) (σ : xSt), c73 v1 v2 v3 v4 v5 σ = some (r, σ') → xG p l e ({ frames := 5, cells := 0, slots := 0, locals := 117 }) s m args below meth c (MQ below (xQi D A (wM ad cI cX) r σ') args s 0 0 A) 8 D A (wM ad cI cX) σ 73 [(0, .ref (ad 0)), (1, .int v1), (2, .int v2), (3, .int v3), (4, .int v4), (5, .int v5)] []) (v1 : Int32) (v2 : Int32) (v3 : Int32) (v4 : Int32) (v5 : Int32) (v6 : Int32) (v7 : Int32) (t1 : Int32) (σ : xSt) (h : mX9_togetherOf_L134 F c42 c55 c73 v1 v2 v3 v4 v5 v6 v7 t1 σ = some (r, σ')) : xG p l e ({ frames := 5, cells := 0, slots := 0, locals := 117 }) s m args below meth c (MQ below (xQi D A (wM ad cI cX) r σ') args s 0 0 A) 8 D A (wM ad cI cX) σ 134 [(0, .ref (ad 0)), (1, .int v1), (2, .int v2), (3, .int v3), (4, .int v4), (5, .int v5), (6, .int v6), (7, .int v7)] [.int t1, .ref (ad 17)] := by
  unfold mX9_togetherOf_L134 at h
  refine x_iconst (pc := 134) (v := 0) X dX9_togetherOf_134 (by decide) ?_
  refine x_sub [0, 1, 2, 3, 4, 5, 6, 7] rfl ?_
  exact wX9_togetherOf_L135 X hr hl F hc42 hc55 hc73 _ _ _ _ _ _ _ _ _ _ h
set_option maxRecDepth 100000 in
set_option maxHeartbeats 4000000 in
theorem wX9_togetherOf_L130 {p : Program} {l : Launch} {e : Env} {s : State} {m : MethodId} {args : Array Value} {below : List Frame} {meth : Method} {c : Code} {D : va_G} {A : Nat → Prop} {ad : Nat → Nat} {cI cX : ClassId} {r : Int32} {σ' : xSt} {c42 : Int32 → Int32 → xSt → Option (Int32 × xSt)} {c55 : Int32 → Int32 → Int32 → xSt → Option (Int32 × xSt)} {c73 : Int32 → Int32 → Int32 → Int32 → Int32 → xSt → Option (Int32 × xSt)} (X : xX p s m args c cX9_togetherOf 8 RX9 D (tyM cI cX) A (wM ad cI cX)) (hr : meth.sig.returnType = (some .int)) (hl : meth.locks = false) (F : Nat) (hc42 : ∀ (v1 : Int32) (v2 : Int32) (σ : xSt), c42 v1 v2 σ = some (r, σ') → xG p l e ({ frames := 5, cells := 0, slots := 0, locals := 117 }) s m args below meth c (MQ below (xQi D A (wM ad cI cX) r σ') args s 0 0 A) 8 D A (wM ad cI cX) σ 42 [(0, .ref (ad 0)), (1, .int v1), (2, .int v2)] []) (hc55 : ∀ (v1 : Int32) (v2 : Int32) (v3 : Int32) (σ : xSt), c55 v1 v2 v3 σ = some (r, σ') → xG p l e ({ frames := 5, cells := 0, slots := 0, locals := 117 }) s m args below meth c (MQ below (xQi D A (wM ad cI cX) r σ') args s 0 0 A) 8 D A (wM ad cI cX) σ 55 [(0, .ref (ad 0)), (1, .int v1), (2, .int v2), (3, .int v3)] []) (hc73 : ∀ (v1 : Int32) (v2 : Int32) (v3 : Int32) (v4 : Int32) (v5 : Int32) (σ : xSt), c73 v1 v2 v3 v4 v5 σ = some (r, σ') → xG p l e ({ frames := 5, cells := 0, slots := 0, locals := 117 }) s m args below meth c (MQ below (xQi D A (wM ad cI cX) r σ') args s 0 0 A) 8 D A (wM ad cI cX) σ 73 [(0, .ref (ad 0)), (1, .int v1), (2, .int v2), (3, .int v3), (4, .int v4), (5, .int v5)] []) (v1 : Int32) (v2 : Int32) (v3 : Int32) (v4 : Int32) (v5 : Int32) (v6 : Int32) (v7 : Int32) (t1 : Int32) (σ : xSt) (h : mX9_togetherOf_L130 F c42 c55 c73 v1 v2 v3 v4 v5 v6 v7 t1 σ = some (r, σ')) : xG p l e ({ frames := 5, cells := 0, slots := 0, locals := 117 }) s m args below meth c (MQ below (xQi D A (wM ad cI cX) r σ') args s 0 0 A) 8 D A (wM ad cI cX) σ 130 [(0, .ref (ad 0)), (1, .int v1), (2, .int v2), (3, .int v3), (4, .int v4), (5, .int v5), (6, .int v6), (7, .int v7)] [.int t1, .ref (ad 17)] := by
  unfold mX9_togetherOf_L130 at h
  refine x_iconst (pc := 130) (v := 1) X dX9_togetherOf_130 (by decide) ?_
  refine x_goto (pc := 131) X 135 dX9_togetherOf_131 (by decide) ?_
  refine x_sub [0, 1, 2, 3, 4, 5, 6, 7] rfl ?_
  exact wX9_togetherOf_L135 X hr hl F hc42 hc55 hc73 _ _ _ _ _ _ _ _ _ _ h
set_option maxRecDepth 100000 in
set_option maxHeartbeats 4000000 in
theorem wX9_togetherOf_S73 {p : Program} {l : Launch} {e : Env} {s : State} {m : MethodId} {args : Array Value} {below : List Frame} {meth : Method} {c : Code} {D : va_G} {A : Nat → Prop} {ad : Nat → Nat} {cI cX : ClassId} {r : Int32} {σ' : xSt} {c42 : Int32 → Int32 → xSt → Option (Int32 × xSt)} {c55 : Int32 → Int32 → Int32 → xSt → Option (Int32 × xSt)} {c73 : Int32 → Int32 → Int32 → Int32 → Int32 → xSt → Option (Int32 × xSt)} (X : xX p s m args c cX9_togetherOf 8 RX9 D (tyM cI cX) A (wM ad cI cX)) (hr : meth.sig.returnType = (some .int)) (hl : meth.locks = false) (F : Nat) (hc42 : ∀ (v1 : Int32) (v2 : Int32) (σ : xSt), c42 v1 v2 σ = some (r, σ') → xG p l e ({ frames := 5, cells := 0, slots := 0, locals := 117 }) s m args below meth c (MQ below (xQi D A (wM ad cI cX) r σ') args s 0 0 A) 8 D A (wM ad cI cX) σ 42 [(0, .ref (ad 0)), (1, .int v1), (2, .int v2)] []) (hc55 : ∀ (v1 : Int32) (v2 : Int32) (v3 : Int32) (σ : xSt), c55 v1 v2 v3 σ = some (r, σ') → xG p l e ({ frames := 5, cells := 0, slots := 0, locals := 117 }) s m args below meth c (MQ below (xQi D A (wM ad cI cX) r σ') args s 0 0 A) 8 D A (wM ad cI cX) σ 55 [(0, .ref (ad 0)), (1, .int v1), (2, .int v2), (3, .int v3)] []) (hc73 : ∀ (v1 : Int32) (v2 : Int32) (v3 : Int32) (v4 : Int32) (v5 : Int32) (σ : xSt), c73 v1 v2 v3 v4 v5 σ = some (r, σ') → xG p l e ({ frames := 5, cells := 0, slots := 0, locals := 117 }) s m args below meth c (MQ below (xQi D A (wM ad cI cX) r σ') args s 0 0 A) 8 D A (wM ad cI cX) σ 73 [(0, .ref (ad 0)), (1, .int v1), (2, .int v2), (3, .int v3), (4, .int v4), (5, .int v5)] []) (v1 : Int32) (v2 : Int32) (v3 : Int32) (v4 : Int32) (v5 : Int32) (σ : xSt) (h : mX9_togetherOf_S73 F c42 c55 c73 v1 v2 v3 v4 v5 σ = some (r, σ')) : xG p l e ({ frames := 5, cells := 0, slots := 0, locals := 117 }) s m args below meth c (MQ below (xQi D A (wM ad cI cX) r σ') args s 0 0 A) 8 D A (wM ad cI cX) σ 73 [(0, .ref (ad 0)), (1, .int v1), (2, .int v2), (3, .int v3), (4, .int v4), (5, .int v5)] [] := by
  unfold mX9_togetherOf_S73 at h
  refine x_iload (pc := 73) X dX9_togetherOf_73 5 rfl ?_
  refine x_bipush (pc := 75) (v := 64) X dX9_togetherOf_75 (by decide) ?_
  refine x_icmp_ge (pc := 77) X 171 dX9_togetherOf_77 (by decide) (fun hc => ?_) (fun hc => ?_)
  · have h := xit hc h
    refine x_sub [0, 1, 2, 3] rfl ?_
    exact wX9_togetherOf_L171 X hr hl F hc42 hc55 _ _ _ _ h
  · have h := xif hc h
    refine x_iload (pc := 80) X dX9_togetherOf_80 4 rfl ?_
    refine x_iload (pc := 82) X dX9_togetherOf_82 5 rfl ?_
    refine x_bipush (pc := 84) (v := 8) X dX9_togetherOf_84 (by decide) ?_
    obtain ⟨hb86, h⟩ := xck_some h
    refine x_idiv (pc := 86) X dX9_togetherOf_86 (xnzI_n hb86) ?_
    obtain ⟨r87, σ87, hq87, h⟩ := xb2_some h
    refine x_calliS (pc := 87) (As := [.int v4, .int (v5 / 8)]) (rest := []) X (kX9_isIn l X.2.2.2.2.2.2.2 F _ _ _ _ _ hq87) kvX9_199 ⟨rfl, rfl, Nat.le_of_ble_eq_true rfl, Nat.le_of_ble_eq_true rfl⟩ rfl rfl (Nat.le_of_ble_eq_true rfl) dX9_togetherOf_87 ?_
    refine x_istore (pc := 90) (lv' := [(6, .int r87), (0, .ref (ad 0)), (1, .int v1), (2, .int v2), (3, .int v3), (4, .int v4), (5, .int v5)]) X dX9_togetherOf_90 (by decide) rfl ?_
    refine x_iload (pc := 92) X dX9_togetherOf_92 5 rfl ?_
    refine x_iload (pc := 94) X dX9_togetherOf_94 6 rfl ?_
    refine x_bipush (pc := 96) (v := 8) X dX9_togetherOf_96 (by decide) ?_
    obtain ⟨hb98, h⟩ := xck_some h
    refine x_irem (pc := 98) X dX9_togetherOf_98 (xnzI_n hb98) ?_
    obtain ⟨r99, σ99, hq99, h⟩ := xb2_some h
    refine x_calliS (pc := 99) (As := [.int v4, .int (v5 - v5 / 8 * 8)]) (rest := []) X (kX9_isIn l X.2.2.2.2.2.2.2 F _ _ _ _ _ hq99) kvX9_199 ⟨rfl, rfl, Nat.le_of_ble_eq_true rfl, Nat.le_of_ble_eq_true rfl⟩ rfl rfl (Nat.le_of_ble_eq_true rfl) dX9_togetherOf_99 ?_
    refine x_istore (pc := 102) (lv' := [(7, .int r99), (6, .int r87), (0, .ref (ad 0)), (1, .int v1), (2, .int v2), (3, .int v3), (4, .int v4), (5, .int v5)]) X dX9_togetherOf_102 (by decide) rfl ?_
    refine x_aload_n (pc := 104) X dX9_togetherOf_104 rfl 2 rfl ?_
    refine gX9_58 (pc := 105) X dX9_togetherOf_105 ?_
    refine x_iload (pc := 108) X dX9_togetherOf_108 7 rfl ?_
    refine x_aload_n (pc := 110) X dX9_togetherOf_110 rfl 2 rfl ?_
    refine gX9_58 (pc := 111) X dX9_togetherOf_111 ?_
    refine x_iload (pc := 114) X dX9_togetherOf_114 7 rfl ?_
    obtain ⟨hb116, h⟩ := xck_some h
    refine x_zald (pc := 116) X 17 1 (qaX9_isBoth) rfl hb116 dX9_togetherOf_116 ?_
    refine x_if_ne (pc := 117) X 130 dX9_togetherOf_117 (by decide) (fun hc => ?_) (fun hc => ?_)
    · have h := xif hc h
      refine x_sub [2, 3, 4, 5, 6, 7, 1, 0] rfl ?_
      exact wX9_togetherOf_L130 X hr hl F hc42 hc55 hc73 _ _ _ _ _ _ _ _ _ h
    · have h := xit hc h
      refine x_iload (pc := 120) X dX9_togetherOf_120 1 rfl ?_
      refine x_if_eq (pc := 122) X 134 dX9_togetherOf_122 (by decide) (fun hc => ?_) (fun hc => ?_)
      · have h := xit hc h
        refine x_sub [2, 3, 4, 5, 6, 7, 1, 0] rfl ?_
        exact wX9_togetherOf_L134 X hr hl F hc42 hc55 hc73 _ _ _ _ _ _ _ _ _ h
      · have h := xif hc h
        refine x_iload (pc := 125) X dX9_togetherOf_125 0 rfl ?_
        refine x_if_eq (pc := 127) X 134 dX9_togetherOf_127 (by decide) (fun hc => ?_) (fun hc => ?_)
        · have h := xit hc h
          refine x_sub [2, 3, 4, 5, 6, 7, 1, 0] rfl ?_
          exact wX9_togetherOf_L134 X hr hl F hc42 hc55 hc73 _ _ _ _ _ _ _ _ _ h
        · have h := xif hc h
          refine x_sub [2, 3, 4, 5, 6, 7, 1, 0] rfl ?_
          exact wX9_togetherOf_L130 X hr hl F hc42 hc55 hc73 _ _ _ _ _ _ _ _ _ h
theorem wX9_togetherOf_L73 {p : Program} {l : Launch} {e : Env} {s : State} {m : MethodId} {args : Array Value} {below : List Frame} {meth : Method} {c : Code} {D : va_G} {A : Nat → Prop} {ad : Nat → Nat} {cI cX : ClassId} {r : Int32} {σ' : xSt} {c42 : Int32 → Int32 → xSt → Option (Int32 × xSt)} {c55 : Int32 → Int32 → Int32 → xSt → Option (Int32 × xSt)} (X : xX p s m args c cX9_togetherOf 8 RX9 D (tyM cI cX) A (wM ad cI cX)) (hr : meth.sig.returnType = (some .int)) (hl : meth.locks = false) (F : Nat) (hc42 : ∀ (v1 : Int32) (v2 : Int32) (σ : xSt), c42 v1 v2 σ = some (r, σ') → xG p l e ({ frames := 5, cells := 0, slots := 0, locals := 117 }) s m args below meth c (MQ below (xQi D A (wM ad cI cX) r σ') args s 0 0 A) 8 D A (wM ad cI cX) σ 42 [(0, .ref (ad 0)), (1, .int v1), (2, .int v2)] []) (hc55 : ∀ (v1 : Int32) (v2 : Int32) (v3 : Int32) (σ : xSt), c55 v1 v2 v3 σ = some (r, σ') → xG p l e ({ frames := 5, cells := 0, slots := 0, locals := 117 }) s m args below meth c (MQ below (xQi D A (wM ad cI cX) r σ') args s 0 0 A) 8 D A (wM ad cI cX) σ 55 [(0, .ref (ad 0)), (1, .int v1), (2, .int v2), (3, .int v3)] []) : ∀ (n : Nat) (v1 : Int32) (v2 : Int32) (v3 : Int32) (v4 : Int32) (v5 : Int32) (σ : xSt), mX9_togetherOf_L73 F c42 c55 n v1 v2 v3 v4 v5 σ = some (r, σ') → xG p l e ({ frames := 5, cells := 0, slots := 0, locals := 117 }) s m args below meth c (MQ below (xQi D A (wM ad cI cX) r σ') args s 0 0 A) 8 D A (wM ad cI cX) σ 73 [(0, .ref (ad 0)), (1, .int v1), (2, .int v2), (3, .int v3), (4, .int v4), (5, .int v5)] [] := by
  intro n
  induction n with
  | zero => intro v1 v2 v3 v4 v5 σ h; cases h
  | succ n ih => intro v1 v2 v3 v4 v5 σ h; exact wX9_togetherOf_S73 X hr hl F hc42 hc55 ih v1 v2 v3 v4 v5 σ h
set_option maxRecDepth 100000 in
set_option maxHeartbeats 4000000 in
theorem wX9_togetherOf_S55 {p : Program} {l : Launch} {e : Env} {s : State} {m : MethodId} {args : Array Value} {below : List Frame} {meth : Method} {c : Code} {D : va_G} {A : Nat → Prop} {ad : Nat → Nat} {cI cX : ClassId} {r : Int32} {σ' : xSt} {c42 : Int32 → Int32 → xSt → Option (Int32 × xSt)} {c55 : Int32 → Int32 → Int32 → xSt → Option (Int32 × xSt)} (X : xX p s m args c cX9_togetherOf 8 RX9 D (tyM cI cX) A (wM ad cI cX)) (hr : meth.sig.returnType = (some .int)) (hl : meth.locks = false) (F : Nat) (hc42 : ∀ (v1 : Int32) (v2 : Int32) (σ : xSt), c42 v1 v2 σ = some (r, σ') → xG p l e ({ frames := 5, cells := 0, slots := 0, locals := 117 }) s m args below meth c (MQ below (xQi D A (wM ad cI cX) r σ') args s 0 0 A) 8 D A (wM ad cI cX) σ 42 [(0, .ref (ad 0)), (1, .int v1), (2, .int v2)] []) (hc55 : ∀ (v1 : Int32) (v2 : Int32) (v3 : Int32) (σ : xSt), c55 v1 v2 v3 σ = some (r, σ') → xG p l e ({ frames := 5, cells := 0, slots := 0, locals := 117 }) s m args below meth c (MQ below (xQi D A (wM ad cI cX) r σ') args s 0 0 A) 8 D A (wM ad cI cX) σ 55 [(0, .ref (ad 0)), (1, .int v1), (2, .int v2), (3, .int v3)] []) (v1 : Int32) (v2 : Int32) (v3 : Int32) (σ : xSt) (h : mX9_togetherOf_S55 F c42 c55 v1 v2 v3 σ = some (r, σ')) : xG p l e ({ frames := 5, cells := 0, slots := 0, locals := 117 }) s m args below meth c (MQ below (xQi D A (wM ad cI cX) r σ') args s 0 0 A) 8 D A (wM ad cI cX) σ 55 [(0, .ref (ad 0)), (1, .int v1), (2, .int v2), (3, .int v3)] [] := by
  unfold mX9_togetherOf_S55 at h
  refine x_iload_n (pc := 55) X dX9_togetherOf_55 rfl 3 rfl ?_
  refine x_aload_n (pc := 56) X dX9_togetherOf_56 rfl 0 rfl ?_
  refine gX9_109 (pc := 57) X dX9_togetherOf_57 ?_
  refine x_icmp_ge (pc := 60) X 177 dX9_togetherOf_60 (by decide) (fun hc => ?_) (fun hc => ?_)
  · have h := xit hc h
    refine x_sub [0, 1, 2] rfl ?_
    exact wX9_togetherOf_L177 X hr hl F hc42 _ _ _ h
  · have h := xif hc h
    refine x_aload_n (pc := 63) X dX9_togetherOf_63 rfl 0 rfl ?_
    refine x_iload_n (pc := 64) X dX9_togetherOf_64 rfl 3 rfl ?_
    obtain ⟨r65, σ65, hq65, h⟩ := xb2_some h
    refine x_calliV (pc := 65) (As := [.int v3]) (rest := []) X (kX9_tellsNow l X.2.2.2.2.2.2.2 F _ _ _ _ hq65) kvX9_215 rfl (qX9) ⟨rfl, rfl, Nat.le_of_ble_eq_true rfl, Nat.le_of_ble_eq_true rfl⟩ rfl rfl (Nat.le_of_ble_eq_true rfl) dX9_togetherOf_65 ?_
    refine x_istore (pc := 68) (lv' := [(4, .int r65), (0, .ref (ad 0)), (1, .int v1), (2, .int v2), (3, .int v3)]) X dX9_togetherOf_68 (by decide) rfl ?_
    refine x_iconst (pc := 70) (v := 0) X dX9_togetherOf_70 (by decide) ?_
    refine x_istore (pc := 71) (lv' := [(5, .int 0), (4, .int r65), (0, .ref (ad 0)), (1, .int v1), (2, .int v2), (3, .int v3)]) X dX9_togetherOf_71 (by decide) rfl ?_
    refine x_sub [2, 3, 4, 5, 1, 0] rfl ?_
    exact wX9_togetherOf_L73 X hr hl F hc42 hc55 F _ _ _ _ _ _ h
theorem wX9_togetherOf_L55 {p : Program} {l : Launch} {e : Env} {s : State} {m : MethodId} {args : Array Value} {below : List Frame} {meth : Method} {c : Code} {D : va_G} {A : Nat → Prop} {ad : Nat → Nat} {cI cX : ClassId} {r : Int32} {σ' : xSt} {c42 : Int32 → Int32 → xSt → Option (Int32 × xSt)} (X : xX p s m args c cX9_togetherOf 8 RX9 D (tyM cI cX) A (wM ad cI cX)) (hr : meth.sig.returnType = (some .int)) (hl : meth.locks = false) (F : Nat) (hc42 : ∀ (v1 : Int32) (v2 : Int32) (σ : xSt), c42 v1 v2 σ = some (r, σ') → xG p l e ({ frames := 5, cells := 0, slots := 0, locals := 117 }) s m args below meth c (MQ below (xQi D A (wM ad cI cX) r σ') args s 0 0 A) 8 D A (wM ad cI cX) σ 42 [(0, .ref (ad 0)), (1, .int v1), (2, .int v2)] []) : ∀ (n : Nat) (v1 : Int32) (v2 : Int32) (v3 : Int32) (σ : xSt), mX9_togetherOf_L55 F c42 n v1 v2 v3 σ = some (r, σ') → xG p l e ({ frames := 5, cells := 0, slots := 0, locals := 117 }) s m args below meth c (MQ below (xQi D A (wM ad cI cX) r σ') args s 0 0 A) 8 D A (wM ad cI cX) σ 55 [(0, .ref (ad 0)), (1, .int v1), (2, .int v2), (3, .int v3)] [] := by
  intro n
  induction n with
  | zero => intro v1 v2 v3 σ h; cases h
  | succ n ih => intro v1 v2 v3 σ h; exact wX9_togetherOf_S55 X hr hl F hc42 ih v1 v2 v3 σ h
set_option maxRecDepth 100000 in
set_option maxHeartbeats 4000000 in
theorem wX9_togetherOf_S42 {p : Program} {l : Launch} {e : Env} {s : State} {m : MethodId} {args : Array Value} {below : List Frame} {meth : Method} {c : Code} {D : va_G} {A : Nat → Prop} {ad : Nat → Nat} {cI cX : ClassId} {r : Int32} {σ' : xSt} {c42 : Int32 → Int32 → xSt → Option (Int32 × xSt)} (X : xX p s m args c cX9_togetherOf 8 RX9 D (tyM cI cX) A (wM ad cI cX)) (hr : meth.sig.returnType = (some .int)) (hl : meth.locks = false) (F : Nat) (hc42 : ∀ (v1 : Int32) (v2 : Int32) (σ : xSt), c42 v1 v2 σ = some (r, σ') → xG p l e ({ frames := 5, cells := 0, slots := 0, locals := 117 }) s m args below meth c (MQ below (xQi D A (wM ad cI cX) r σ') args s 0 0 A) 8 D A (wM ad cI cX) σ 42 [(0, .ref (ad 0)), (1, .int v1), (2, .int v2)] []) (v1 : Int32) (v2 : Int32) (σ : xSt) (h : mX9_togetherOf_S42 F c42 v1 v2 σ = some (r, σ')) : xG p l e ({ frames := 5, cells := 0, slots := 0, locals := 117 }) s m args below meth c (MQ below (xQi D A (wM ad cI cX) r σ') args s 0 0 A) 8 D A (wM ad cI cX) σ 42 [(0, .ref (ad 0)), (1, .int v1), (2, .int v2)] [] := by
  unfold mX9_togetherOf_S42 at h
  refine x_iload_n (pc := 42) X dX9_togetherOf_42 rfl 2 rfl ?_
  refine x_bipush (pc := 43) (v := 24) X dX9_togetherOf_43 (by decide) ?_
  refine x_icmp_ge (pc := 45) X 183 dX9_togetherOf_45 (by decide) (fun hc => ?_) (fun hc => ?_)
  · have h := xit hc h
    refine x_sub [0, 1] rfl ?_
    exact wX9_togetherOf_L183 X hr hl F _ _ h
  · have h := xif hc h
    refine x_aload_n (pc := 48) X dX9_togetherOf_48 rfl 0 rfl ?_
    refine x_iload_n (pc := 49) X dX9_togetherOf_49 rfl 2 rfl ?_
    obtain ⟨σ50, hq50, h⟩ := xb1_some h
    refine x_callvV (pc := 50) (As := [.int v2]) (rest := []) X (kX9_goesBy l X.2.2.2.2.2.2.2 F _ _ _ hq50) kvX9_206 rfl (qX9) ⟨rfl, rfl, Nat.le_of_ble_eq_true rfl, Nat.le_of_ble_eq_true rfl⟩ rfl rfl (Nat.le_of_ble_eq_true rfl) dX9_togetherOf_50 ?_
    refine x_iconst (pc := 53) (v := 0) X dX9_togetherOf_53 (by decide) ?_
    refine x_istore_n (pc := 54) (lv' := [(3, .int 0), (0, .ref (ad 0)), (1, .int v1), (2, .int v2)]) X dX9_togetherOf_54 rfl (by decide) rfl ?_
    refine x_sub [1, 2, 3, 0] rfl ?_
    exact wX9_togetherOf_L55 X hr hl F hc42 F _ _ _ _ h
theorem wX9_togetherOf_L42 {p : Program} {l : Launch} {e : Env} {s : State} {m : MethodId} {args : Array Value} {below : List Frame} {meth : Method} {c : Code} {D : va_G} {A : Nat → Prop} {ad : Nat → Nat} {cI cX : ClassId} {r : Int32} {σ' : xSt} (X : xX p s m args c cX9_togetherOf 8 RX9 D (tyM cI cX) A (wM ad cI cX)) (hr : meth.sig.returnType = (some .int)) (hl : meth.locks = false) (F : Nat) : ∀ (n : Nat) (v1 : Int32) (v2 : Int32) (σ : xSt), mX9_togetherOf_L42 F n v1 v2 σ = some (r, σ') → xG p l e ({ frames := 5, cells := 0, slots := 0, locals := 117 }) s m args below meth c (MQ below (xQi D A (wM ad cI cX) r σ') args s 0 0 A) 8 D A (wM ad cI cX) σ 42 [(0, .ref (ad 0)), (1, .int v1), (2, .int v2)] [] := by
  intro n
  induction n with
  | zero => intro v1 v2 σ h; cases h
  | succ n ih => intro v1 v2 σ h; exact wX9_togetherOf_S42 X hr hl F ih v1 v2 σ h
set_option maxRecDepth 100000 in
set_option maxHeartbeats 4000000 in
theorem wX9_togetherOf_L40 {p : Program} {l : Launch} {e : Env} {s : State} {m : MethodId} {args : Array Value} {below : List Frame} {meth : Method} {c : Code} {D : va_G} {A : Nat → Prop} {ad : Nat → Nat} {cI cX : ClassId} {r : Int32} {σ' : xSt} (X : xX p s m args c cX9_togetherOf 8 RX9 D (tyM cI cX) A (wM ad cI cX)) (hr : meth.sig.returnType = (some .int)) (hl : meth.locks = false) (F : Nat) (v1 : Int32) (σ : xSt) (h : mX9_togetherOf_L40 F v1 σ = some (r, σ')) : xG p l e ({ frames := 5, cells := 0, slots := 0, locals := 117 }) s m args below meth c (MQ below (xQi D A (wM ad cI cX) r σ') args s 0 0 A) 8 D A (wM ad cI cX) σ 40 [(0, .ref (ad 0)), (1, .int v1)] [] := by
  unfold mX9_togetherOf_L40 at h
  refine x_iconst (pc := 40) (v := 0) X dX9_togetherOf_40 (by decide) ?_
  refine x_istore_n (pc := 41) (lv' := [(2, .int 0), (0, .ref (ad 0)), (1, .int v1)]) X dX9_togetherOf_41 rfl (by decide) rfl ?_
  refine x_sub [1, 2, 0] rfl ?_
  exact wX9_togetherOf_L42 X hr hl F F _ _ _ h
set_option maxRecDepth 100000 in
set_option maxHeartbeats 4000000 in
theorem wX9_togetherOf_S14 {p : Program} {l : Launch} {e : Env} {s : State} {m : MethodId} {args : Array Value} {below : List Frame} {meth : Method} {c : Code} {D : va_G} {A : Nat → Prop} {ad : Nat → Nat} {cI cX : ClassId} {r : Int32} {σ' : xSt} {c14 : Int32 → Int32 → xSt → Option (Int32 × xSt)} (X : xX p s m args c cX9_togetherOf 8 RX9 D (tyM cI cX) A (wM ad cI cX)) (hr : meth.sig.returnType = (some .int)) (hl : meth.locks = false) (F : Nat) (hc14 : ∀ (v1 : Int32) (v2 : Int32) (σ : xSt), c14 v1 v2 σ = some (r, σ') → xG p l e ({ frames := 5, cells := 0, slots := 0, locals := 117 }) s m args below meth c (MQ below (xQi D A (wM ad cI cX) r σ') args s 0 0 A) 8 D A (wM ad cI cX) σ 14 [(0, .ref (ad 0)), (1, .int v1), (2, .int v2)] []) (v1 : Int32) (v2 : Int32) (σ : xSt) (h : mX9_togetherOf_S14 F c14 v1 v2 σ = some (r, σ')) : xG p l e ({ frames := 5, cells := 0, slots := 0, locals := 117 }) s m args below meth c (MQ below (xQi D A (wM ad cI cX) r σ') args s 0 0 A) 8 D A (wM ad cI cX) σ 14 [(0, .ref (ad 0)), (1, .int v1), (2, .int v2)] [] := by
  unfold mX9_togetherOf_S14 at h
  refine x_iload_n (pc := 14) X dX9_togetherOf_14 rfl 2 rfl ?_
  refine x_bipush (pc := 15) (v := 64) X dX9_togetherOf_15 (by decide) ?_
  refine x_icmp_ge (pc := 17) X 40 dX9_togetherOf_17 (by decide) (fun hc => ?_) (fun hc => ?_)
  · have h := xit hc h
    refine x_sub [0, 1] rfl ?_
    exact wX9_togetherOf_L40 X hr hl F _ _ h
  · have h := xif hc h
    refine x_aload_n (pc := 20) X dX9_togetherOf_20 rfl 0 rfl ?_
    refine gX9_58 (pc := 21) X dX9_togetherOf_21 ?_
    refine x_iload_n (pc := 24) X dX9_togetherOf_24 rfl 2 rfl ?_
    refine x_iconst (pc := 25) (v := 0) X dX9_togetherOf_25 (by decide) ?_
    obtain ⟨hb26, h⟩ := xck_some h
    obtain ⟨hz26, h⟩ := xck_some h
    refine x_zast (pc := 26) (σ' := (xsA σ 24 (Int32.toNatClampNeg v2) 0)) X 17 1 (qaX9_isBoth) rfl (saX9_isBoth _) hb26 hz26 dX9_togetherOf_26 ?_
    refine x_aload_n (pc := 27) X dX9_togetherOf_27 rfl 0 rfl ?_
    refine gX9_62 (pc := 28) X dX9_togetherOf_28 ?_
    refine x_iload_n (pc := 31) X dX9_togetherOf_31 rfl 2 rfl ?_
    refine x_iconst (pc := 32) (v := 0) X dX9_togetherOf_32 (by decide) ?_
    obtain ⟨hb33, h⟩ := xck_some h
    obtain ⟨hz33, h⟩ := xck_some h
    refine x_zast (pc := 33) (σ' := (xsA (xsA σ 24 (Int32.toNatClampNeg v2) 0) 25 (Int32.toNatClampNeg v2) 0)) X 18 1 (qaX9_isOne) rfl (saX9_isOne _) hb33 hz33 dX9_togetherOf_33 ?_
    refine x_iinc (pc := 34) (v := (v2 + 1)) (lv' := [(2, .int (v2 + 1)), (0, .ref (ad 0)), (1, .int v1)]) X dX9_togetherOf_34 2 rfl rfl (by decide) rfl ?_
    refine x_goto (pc := 37) X 14 dX9_togetherOf_37 (by decide) ?_
    refine x_sub [1, 2, 0] rfl ?_
    exact hc14 _ _ _ h
theorem wX9_togetherOf_L14 {p : Program} {l : Launch} {e : Env} {s : State} {m : MethodId} {args : Array Value} {below : List Frame} {meth : Method} {c : Code} {D : va_G} {A : Nat → Prop} {ad : Nat → Nat} {cI cX : ClassId} {r : Int32} {σ' : xSt} (X : xX p s m args c cX9_togetherOf 8 RX9 D (tyM cI cX) A (wM ad cI cX)) (hr : meth.sig.returnType = (some .int)) (hl : meth.locks = false) (F : Nat) : ∀ (n : Nat) (v1 : Int32) (v2 : Int32) (σ : xSt), mX9_togetherOf_L14 F n v1 v2 σ = some (r, σ') → xG p l e ({ frames := 5, cells := 0, slots := 0, locals := 117 }) s m args below meth c (MQ below (xQi D A (wM ad cI cX) r σ') args s 0 0 A) 8 D A (wM ad cI cX) σ 14 [(0, .ref (ad 0)), (1, .int v1), (2, .int v2)] [] := by
  intro n
  induction n with
  | zero => intro v1 v2 σ h; cases h
  | succ n ih => intro v1 v2 σ h; exact wX9_togetherOf_S14 X hr hl F ih v1 v2 σ h
set_option maxRecDepth 100000 in
set_option maxHeartbeats 4000000 in
theorem kX9_togetherOf (l : Launch) {D : va_G} {A : Nat → Prop} {ad : Nat → Nat} {cI cX : ClassId} (hD : ∀ σ, va_D A ((wM ad cI cX) σ)) (F : Nat) (v1 : Int32) (σ : xSt) (r : Int32) (σ' : xSt) (h : mX9_togetherOf F v1 σ = some (r, σ')) : xM l yX9_togetherOf cX9_togetherOf 8 (some .int) ({ frames := 5, cells := 0, slots := 0, locals := 117 }) D (tyM cI cX) A (wM ad cI cX) [.ref (ad 0), .int v1] σ (xQi D A (wM ad cI cX) r σ') := by
  refine xM_of (lv := [(0, .ref (ad 0)), (1, .int v1)]) [.ref (ad 0), .int v1] (by decide) hD rfl (Nat.le_of_ble_eq_true rfl) ?_
  intro p e s m args below meth c X hr hl
  unfold mX9_togetherOf at h
  refine x_aload_n (pc := 0) X dX9_togetherOf_0 rfl 0 rfl ?_
  obtain ⟨σ1, hq1, h⟩ := xb1_some h
  refine x_callvV (pc := 1) (As := []) (rest := []) X (kX9_reads l X.2.2.2.2.2.2.2 F _ _ hq1) kvX9_127 rfl (qX9) ⟨rfl, rfl, Nat.le_of_ble_eq_true rfl, Nat.le_of_ble_eq_true rfl⟩ rfl rfl (Nat.le_of_ble_eq_true rfl) dX9_togetherOf_1 ?_
  refine x_aload_n (pc := 4) X dX9_togetherOf_4 rfl 0 rfl ?_
  obtain ⟨σ5, hq5, h⟩ := xb1_some h
  refine x_callvV (pc := 5) (As := []) (rest := []) X (kX9_asTold l X.2.2.2.2.2.2.2 F _ _ hq5) kvX9_209 rfl (qX9) ⟨rfl, rfl, Nat.le_of_ble_eq_true rfl, Nat.le_of_ble_eq_true rfl⟩ rfl rfl (Nat.le_of_ble_eq_true rfl) dX9_togetherOf_5 ?_
  refine x_aload_n (pc := 8) X dX9_togetherOf_8 rfl 0 rfl ?_
  obtain ⟨σ9, hq9, h⟩ := xb1_some h
  refine x_callvV (pc := 9) (As := []) (rest := []) X (kX9_begins l X.2.2.2.2.2.2.2 F _ _ hq9) kvX9_203 rfl (qX9) ⟨rfl, rfl, Nat.le_of_ble_eq_true rfl, Nat.le_of_ble_eq_true rfl⟩ rfl rfl (Nat.le_of_ble_eq_true rfl) dX9_togetherOf_9 ?_
  refine x_iconst (pc := 12) (v := 0) X dX9_togetherOf_12 (by decide) ?_
  refine x_istore_n (pc := 13) (lv' := [(2, .int 0), (0, .ref (ad 0)), (1, .int v1)]) X dX9_togetherOf_13 rfl (by decide) rfl ?_
  refine x_sub [1, 2, 0] rfl ?_
  exact wX9_togetherOf_L14 X hr hl F F _ _ _ h
set_option maxRecDepth 100000 in
set_option maxHeartbeats 4000000 in
theorem wX9_together_L20 {p : Program} {l : Launch} {e : Env} {s : State} {m : MethodId} {args : Array Value} {below : List Frame} {meth : Method} {c : Code} {D : va_G} {A : Nat → Prop} {ad : Nat → Nat} {cI cX : ClassId} {r : Int32} {σ' : xSt} (X : xX p s m args c cX9_together 2 RX9 D (tyM cI cX) A (wM ad cI cX)) (hr : meth.sig.returnType = (some .int)) (hl : meth.locks = false) (F : Nat) (t0 : Int32) (σ : xSt) (h : mX9_together_L20 F t0 σ = some (r, σ')) : xG p l e ({ frames := 6, cells := 0, slots := 0, locals := 144 }) s m args below meth c (MQ below (xQi D A (wM ad cI cX) r σ') args s 0 0 A) 2 D A (wM ad cI cX) σ 20 [] [.int t0] := by
  unfold mX9_together_L20 at h
  exact x_iret (pc := 20) X hr hl h dX9_together_20
set_option maxRecDepth 100000 in
set_option maxHeartbeats 4000000 in
theorem kX9_together (l : Launch) {D : va_G} {A : Nat → Prop} {ad : Nat → Nat} {cI cX : ClassId} (hD : ∀ σ, va_D A ((wM ad cI cX) σ)) (F : Nat) (v1 : Int32) (σ : xSt) (r : Int32) (σ' : xSt) (h : mX9_together F v1 σ = some (r, σ')) : xM l yX9_together cX9_together 2 (some .int) ({ frames := 6, cells := 0, slots := 0, locals := 144 }) D (tyM cI cX) A (wM ad cI cX) [.ref (ad 0), .int v1] σ (xQi D A (wM ad cI cX) r σ') := by
  refine xM_of (lv := [(0, .ref (ad 0)), (1, .int v1)]) [.ref (ad 0), .int v1] (by decide) hD rfl (Nat.le_of_ble_eq_true rfl) ?_
  intro p e s m args below meth c X hr hl
  unfold mX9_together at h
  refine x_iload_n (pc := 0) X dX9_together_0 rfl 1 rfl ?_
  refine x_iconst (pc := 1) (v := (-1)) X dX9_together_1 (by decide) ?_
  refine x_bipush (pc := 2) (v := 27) X dX9_together_2 (by decide) ?_
  obtain ⟨r4, σ4, hq4, h⟩ := xb2_some h
  refine x_calliS (pc := 4) (As := [.int v1, .int (-1), .int 27]) (rest := []) X (kX9_in l X.2.2.2.2.2.2.2 F _ _ _ _ _ _ hq4) kvX9_97 ⟨rfl, rfl, Nat.le_of_ble_eq_true rfl, Nat.le_of_ble_eq_true rfl⟩ rfl rfl (Nat.le_of_ble_eq_true rfl) dX9_together_4 ?_
  refine x_if_eq (pc := 7) X 18 dX9_together_7 (by decide) (fun hc => ?_) (fun hc => ?_)
  · have h := xit hc h
    refine x_bipush (pc := 18) (v := (-2)) X dX9_together_18 (by decide) ?_
    refine x_sub [] rfl ?_
    exact wX9_together_L20 X hr hl F _ _ h
  · have h := xif hc h
    refine x_aload_n (pc := 10) X dX9_together_10 rfl 0 rfl ?_
    refine x_iload_n (pc := 11) X dX9_together_11 rfl 1 rfl ?_
    obtain ⟨r12, σ12, hq12, h⟩ := xb2_some h
    refine x_calliV (pc := 12) (As := [.int v1]) (rest := []) X (kX9_togetherOf l X.2.2.2.2.2.2.2 F _ _ _ _ hq12) kvX9_240 rfl (qX9) ⟨rfl, rfl, Nat.le_of_ble_eq_true rfl, Nat.le_of_ble_eq_true rfl⟩ rfl rfl (Nat.le_of_ble_eq_true rfl) dX9_together_12 ?_
    refine x_goto (pc := 15) X 20 dX9_together_15 (by decide) ?_
    refine x_sub [] rfl ?_
    exact wX9_together_L20 X hr hl F _ _ h
set_option maxRecDepth 100000 in
set_option maxHeartbeats 4000000 in
theorem wX9_doesSit_L128 {p : Program} {l : Launch} {e : Env} {s : State} {m : MethodId} {args : Array Value} {below : List Frame} {meth : Method} {c : Code} {D : va_G} {A : Nat → Prop} {ad : Nat → Nat} {cI cX : ClassId} {r : Int32} {σ' : xSt} (X : xX p s m args c cX9_doesSit 7 RX9 D (tyM cI cX) A (wM ad cI cX)) (hr : meth.sig.returnType = (some .boolean)) (hl : meth.locks = false) (F : Nat) (t0 : Int32) (σ : xSt) (h : mX9_doesSit_L128 F t0 σ = some (r, σ')) : xG p l e ({ frames := 5, cells := 0, slots := 0, locals := 111 }) s m args below meth c (MQ below (xQi D A (wM ad cI cX) r σ') args s 0 0 A) 7 D A (wM ad cI cX) σ 128 [] [.int t0] := by
  unfold mX9_doesSit_L128 at h
  obtain ⟨hb128, h⟩ := xck_some h
  exact x_zret (pc := 128) X hr hl hb128 h dX9_doesSit_128
set_option maxRecDepth 100000 in
set_option maxHeartbeats 4000000 in
theorem wX9_doesSit_L68 {p : Program} {l : Launch} {e : Env} {s : State} {m : MethodId} {args : Array Value} {below : List Frame} {meth : Method} {c : Code} {D : va_G} {A : Nat → Prop} {ad : Nat → Nat} {cI cX : ClassId} {r : Int32} {σ' : xSt} (X : xX p s m args c cX9_doesSit 7 RX9 D (tyM cI cX) A (wM ad cI cX)) (hr : meth.sig.returnType = (some .boolean)) (hl : meth.locks = false) (F : Nat) (v1 : Int32) (v2 : Int32) (v4 : Int32) (v5 : Int32) (v6 : Int32) (σ : xSt) (h : mX9_doesSit_L68 F v1 v2 v4 v5 v6 σ = some (r, σ')) : xG p l e ({ frames := 5, cells := 0, slots := 0, locals := 111 }) s m args below meth c (MQ below (xQi D A (wM ad cI cX) r σ') args s 0 0 A) 7 D A (wM ad cI cX) σ 68 [(0, .ref (ad 0)), (1, .int v1), (2, .int v2), (4, .int v4), (5, .int v5), (6, .int v6)] [] := by
  unfold mX9_doesSit_L68 at h
  refine x_aload_n (pc := 68) X dX9_doesSit_68 rfl 0 rfl ?_
  refine x_iload (pc := 69) X dX9_doesSit_69 3 rfl ?_
  obtain ⟨σ71, hq71, h⟩ := xb1_some h
  refine x_callvV (pc := 71) (As := [.int v4]) (rest := []) X (kX9_runs l X.2.2.2.2.2.2.2 F _ _ _ hq71) kvX9_212 rfl (qX9) ⟨rfl, rfl, Nat.le_of_ble_eq_true rfl, Nat.le_of_ble_eq_true rfl⟩ rfl rfl (Nat.le_of_ble_eq_true rfl) dX9_doesSit_71 ?_
  refine x_aload_n (pc := 74) X dX9_doesSit_74 rfl 0 rfl ?_
  refine gX9_65 (pc := 75) X dX9_doesSit_75 ?_
  refine x_iconst (pc := 78) (v := 0) X dX9_doesSit_78 (by decide) ?_
  refine x_iload_n (pc := 79) X dX9_doesSit_79 rfl 1 rfl ?_
  obtain ⟨hb80, h⟩ := xck_some h
  refine x_iast (pc := 80) (σ' := (xsA σ71 26 (Int32.toNatClampNeg 0) v1)) X 19 0 (qaX9_planRow) rfl (saX9_planRow _) hb80 dX9_doesSit_80 ?_
  refine x_aload_n (pc := 81) X dX9_doesSit_81 rfl 0 rfl ?_
  refine gX9_65 (pc := 82) X dX9_doesSit_82 ?_
  refine x_iconst (pc := 85) (v := 1) X dX9_doesSit_85 (by decide) ?_
  refine x_iload_n (pc := 86) X dX9_doesSit_86 rfl 2 rfl ?_
  obtain ⟨hb87, h⟩ := xck_some h
  refine x_iast (pc := 87) (σ' := (xsA (xsA σ71 26 (Int32.toNatClampNeg 0) v1) 26 (Int32.toNatClampNeg 1) v2)) X 19 0 (qaX9_planRow) rfl (saX9_planRow _) hb87 dX9_doesSit_87 ?_
  refine x_iload (pc := 88) X dX9_doesSit_88 4 rfl ?_
  refine x_iconst (pc := 90) (v := (-1)) X dX9_doesSit_90 (by decide) ?_
  refine x_icmp_ne (pc := 91) X 112 dX9_doesSit_91 (by decide) (fun hc => ?_) (fun hc => ?_)
  · have h := xif hc h
    refine x_aload_n (pc := 112) X dX9_doesSit_112 rfl 0 rfl ?_
    refine x_iload (pc := 113) X dX9_doesSit_113 4 rfl ?_
    obtain ⟨r115, σ115, hq115, h⟩ := xb2_some h
    refine x_calliV (pc := 115) (As := [.int v5]) (rest := []) X (kX9_tellsNow l X.2.2.2.2.2.2.2 F _ _ _ _ hq115) kvX9_215 rfl (qX9) ⟨rfl, rfl, Nat.le_of_ble_eq_true rfl, Nat.le_of_ble_eq_true rfl⟩ rfl rfl (Nat.le_of_ble_eq_true rfl) dX9_doesSit_115 ?_
    refine x_iload (pc := 118) X dX9_doesSit_118 5 rfl ?_
    refine x_icmp_ne (pc := 120) X 127 dX9_doesSit_120 (by decide) (fun hc => ?_) (fun hc => ?_)
    · have h := xif hc h
      refine x_iconst (pc := 127) (v := 0) X dX9_doesSit_127 (by decide) ?_
      refine x_sub [] rfl ?_
      exact wX9_doesSit_L128 X hr hl F _ _ h
    · have h := xit hc h
      refine x_iconst (pc := 123) (v := 1) X dX9_doesSit_123 (by decide) ?_
      refine x_goto (pc := 124) X 128 dX9_doesSit_124 (by decide) ?_
      refine x_sub [] rfl ?_
      exact wX9_doesSit_L128 X hr hl F _ _ h
  · have h := xit hc h
    refine x_aload_n (pc := 94) X dX9_doesSit_94 rfl 0 rfl ?_
    obtain ⟨r95, σ95, hq95, h⟩ := xb2_some h
    refine x_calliV (pc := 95) (As := []) (rest := []) X (kX9_tellsAll l X.2.2.2.2.2.2.2 F _ _ _ hq95) kvX9_227 rfl (qX9) ⟨rfl, rfl, Nat.le_of_ble_eq_true rfl, Nat.le_of_ble_eq_true rfl⟩ rfl rfl (Nat.le_of_ble_eq_true rfl) dX9_doesSit_95 ?_
    refine x_iload (pc := 98) X dX9_doesSit_98 5 rfl ?_
    refine x_iand (pc := 100) X dX9_doesSit_100 ?_
    refine x_if_ne (pc := 101) X 108 dX9_doesSit_101 (by decide) (fun hc => ?_) (fun hc => ?_)
    · have h := xif hc h
      refine x_iconst (pc := 108) (v := 0) X dX9_doesSit_108 (by decide) ?_
      refine x_goto (pc := 109) X 128 dX9_doesSit_109 (by decide) ?_
      refine x_sub [] rfl ?_
      exact wX9_doesSit_L128 X hr hl F _ _ h
    · have h := xit hc h
      refine x_iconst (pc := 104) (v := 1) X dX9_doesSit_104 (by decide) ?_
      refine x_goto (pc := 105) X 128 dX9_doesSit_105 (by decide) ?_
      refine x_sub [] rfl ?_
      exact wX9_doesSit_L128 X hr hl F _ _ h
set_option maxRecDepth 100000 in
set_option maxHeartbeats 4000000 in
theorem wX9_doesSit_L36 {p : Program} {l : Launch} {e : Env} {s : State} {m : MethodId} {args : Array Value} {below : List Frame} {meth : Method} {c : Code} {D : va_G} {A : Nat → Prop} {ad : Nat → Nat} {cI cX : ClassId} {r : Int32} {σ' : xSt} (X : xX p s m args c cX9_doesSit 7 RX9 D (tyM cI cX) A (wM ad cI cX)) (hr : meth.sig.returnType = (some .boolean)) (hl : meth.locks = false) (F : Nat) (v1 : Int32) (v2 : Int32) (v3 : Int32) (v4 : Int32) (v5 : Int32) (v6 : Int32) (σ : xSt) (h : mX9_doesSit_L36 F v1 v2 v3 v4 v5 v6 σ = some (r, σ')) : xG p l e ({ frames := 5, cells := 0, slots := 0, locals := 111 }) s m args below meth c (MQ below (xQi D A (wM ad cI cX) r σ') args s 0 0 A) 7 D A (wM ad cI cX) σ 36 [(0, .ref (ad 0)), (1, .int v1), (2, .int v2), (3, .int v3), (4, .int v4), (5, .int v5), (6, .int v6)] [] := by
  unfold mX9_doesSit_L36 at h
  refine x_iload_n (pc := 36) X dX9_doesSit_36 rfl 2 rfl ?_
  refine x_iconst (pc := 37) (v := (-1)) X dX9_doesSit_37 (by decide) ?_
  refine x_icmp_eq (pc := 38) X 68 dX9_doesSit_38 (by decide) (fun hc => ?_) (fun hc => ?_)
  · have h := xit hc h
    refine x_sub [0, 1, 2, 4, 5, 6] rfl ?_
    exact wX9_doesSit_L68 X hr hl F _ _ _ _ _ _ h
  · have h := xif hc h
    refine x_aload_n (pc := 41) X dX9_doesSit_41 rfl 0 rfl ?_
    refine x_aload_n (pc := 42) X dX9_doesSit_42 rfl 0 rfl ?_
    refine gX9_170 (pc := 43) X dX9_doesSit_43 ?_
    refine x_iload_n (pc := 46) X dX9_doesSit_46 rfl 3 rfl ?_
    refine x_iload_n (pc := 47) X dX9_doesSit_47 rfl 2 rfl ?_
    refine x_bipush (pc := 48) (v := 8) X dX9_doesSit_48 (by decide) ?_
    obtain ⟨hb50, h⟩ := xck_some h
    refine x_irem (pc := 50) X dX9_doesSit_50 (xnzI_n hb50) ?_
    refine x_iload_n (pc := 51) X dX9_doesSit_51 rfl 2 rfl ?_
    refine x_bipush (pc := 52) (v := 8) X dX9_doesSit_52 (by decide) ?_
    obtain ⟨hb54, h⟩ := xck_some h
    refine x_idiv (pc := 54) X dX9_doesSit_54 (xnzI_n hb54) ?_
    obtain ⟨σ55, hq55, h⟩ := xb1_some h
    refine x_callvV (pc := 55) (As := [.int (xI σ 20), .int v3, .int (v2 - v2 / 8 * 8), .int (v2 / 8)]) (rest := []) X (kX9_laysSit l X.2.2.2.2.2.2.2 F _ _ _ _ _ _ hq55) kvX9_154 rfl (qX9) ⟨rfl, rfl, Nat.le_of_ble_eq_true rfl, Nat.le_of_ble_eq_true rfl⟩ rfl rfl (Nat.le_of_ble_eq_true rfl) dX9_doesSit_55 ?_
    refine x_aload_n (pc := 58) X dX9_doesSit_58 rfl 0 rfl ?_
    refine x_dup (pc := 59) X dX9_doesSit_59 rfl ?_
    refine gX9_170 (pc := 60) X dX9_doesSit_60 ?_
    refine x_iconst (pc := 63) (v := 1) X dX9_doesSit_63 (by decide) ?_
    refine x_iadd (pc := 64) X dX9_doesSit_64 ?_
    refine uX9_170 (pc := 65) X dX9_doesSit_65 ?_
    refine x_sub [0, 1, 2, 4, 5, 6] rfl ?_
    exact wX9_doesSit_L68 X hr hl F _ _ _ _ _ _ h
set_option maxRecDepth 100000 in
set_option maxHeartbeats 4000000 in
theorem kX9_doesSit (l : Launch) {D : va_G} {A : Nat → Prop} {ad : Nat → Nat} {cI cX : ClassId} (hD : ∀ σ, va_D A ((wM ad cI cX) σ)) (F : Nat) (v1 : Int32) (v2 : Int32) (v3 : Int32) (v4 : Int32) (v5 : Int32) (v6 : Int32) (σ : xSt) (r : Int32) (σ' : xSt) (h : mX9_doesSit F v1 v2 v3 v4 v5 v6 σ = some (r, σ')) : xM l yX9_doesSit cX9_doesSit 7 (some .boolean) ({ frames := 5, cells := 0, slots := 0, locals := 111 }) D (tyM cI cX) A (wM ad cI cX) [.ref (ad 0), .int v1, .int v2, .int v3, .int v4, .int v5, .int v6] σ (xQi D A (wM ad cI cX) r σ') := by
  refine xM_of (lv := [(0, .ref (ad 0)), (1, .int v1), (2, .int v2), (3, .int v3), (4, .int v4), (5, .int v5), (6, .int v6)]) [.ref (ad 0), .int v1, .int v2, .int v3, .int v4, .int v5, .int v6] (by decide) hD rfl (Nat.le_of_ble_eq_true rfl) ?_
  intro p e s m args below meth c X hr hl
  unfold mX9_doesSit at h
  refine x_aload_n (pc := 0) X dX9_doesSit_0 rfl 0 rfl ?_
  obtain ⟨σ1, hq1, h⟩ := xb1_some h
  refine x_callvV (pc := 1) (As := []) (rest := []) X (kX9_asTold l X.2.2.2.2.2.2.2 F _ _ hq1) kvX9_209 rfl (qX9) ⟨rfl, rfl, Nat.le_of_ble_eq_true rfl, Nat.le_of_ble_eq_true rfl⟩ rfl rfl (Nat.le_of_ble_eq_true rfl) dX9_doesSit_1 ?_
  refine x_iload_n (pc := 4) X dX9_doesSit_4 rfl 1 rfl ?_
  refine x_iconst (pc := 5) (v := (-1)) X dX9_doesSit_5 (by decide) ?_
  refine x_icmp_eq (pc := 6) X 36 dX9_doesSit_6 (by decide) (fun hc => ?_) (fun hc => ?_)
  · have h := xit hc h
    refine x_sub [0, 1, 2, 3, 4, 5, 6] rfl ?_
    exact wX9_doesSit_L36 X hr hl F _ _ _ _ _ _ _ h
  · have h := xif hc h
    refine x_aload_n (pc := 9) X dX9_doesSit_9 rfl 0 rfl ?_
    refine x_aload_n (pc := 10) X dX9_doesSit_10 rfl 0 rfl ?_
    refine gX9_170 (pc := 11) X dX9_doesSit_11 ?_
    refine x_iload_n (pc := 14) X dX9_doesSit_14 rfl 3 rfl ?_
    refine x_iload_n (pc := 15) X dX9_doesSit_15 rfl 1 rfl ?_
    refine x_bipush (pc := 16) (v := 8) X dX9_doesSit_16 (by decide) ?_
    obtain ⟨hb18, h⟩ := xck_some h
    refine x_irem (pc := 18) X dX9_doesSit_18 (xnzI_n hb18) ?_
    refine x_iload_n (pc := 19) X dX9_doesSit_19 rfl 1 rfl ?_
    refine x_bipush (pc := 20) (v := 8) X dX9_doesSit_20 (by decide) ?_
    obtain ⟨hb22, h⟩ := xck_some h
    refine x_idiv (pc := 22) X dX9_doesSit_22 (xnzI_n hb22) ?_
    obtain ⟨σ23, hq23, h⟩ := xb1_some h
    refine x_callvV (pc := 23) (As := [.int (xI σ1 20), .int v3, .int (v1 - v1 / 8 * 8), .int (v1 / 8)]) (rest := []) X (kX9_laysSit l X.2.2.2.2.2.2.2 F _ _ _ _ _ _ hq23) kvX9_154 rfl (qX9) ⟨rfl, rfl, Nat.le_of_ble_eq_true rfl, Nat.le_of_ble_eq_true rfl⟩ rfl rfl (Nat.le_of_ble_eq_true rfl) dX9_doesSit_23 ?_
    refine x_aload_n (pc := 26) X dX9_doesSit_26 rfl 0 rfl ?_
    refine x_dup (pc := 27) X dX9_doesSit_27 rfl ?_
    refine gX9_170 (pc := 28) X dX9_doesSit_28 ?_
    refine x_iconst (pc := 31) (v := 1) X dX9_doesSit_31 (by decide) ?_
    refine x_iadd (pc := 32) X dX9_doesSit_32 ?_
    refine uX9_170 (pc := 33) X dX9_doesSit_33 ?_
    refine x_sub [0, 1, 2, 3, 4, 5, 6] rfl ?_
    exact wX9_doesSit_L36 X hr hl F _ _ _ _ _ _ _ h
set_option maxRecDepth 100000 in
set_option maxHeartbeats 4000000 in
theorem wX9_mayCode_L35 {p : Program} {l : Launch} {e : Env} {s : State} {m : MethodId} {args : Array Value} {below : List Frame} {meth : Method} {c : Code} {D : va_G} {A : Nat → Prop} {ad : Nat → Nat} {cI cX : ClassId} {r : Int32} {σ' : xSt} (X : xX p s m args c cX9_mayCode 3 RX9 D (tyM cI cX) A (wM ad cI cX)) (hr : meth.sig.returnType = (some .boolean)) (hl : meth.locks = false) (F : Nat) (t0 : Int32) (σ : xSt) (h : mX9_mayCode_L35 F t0 σ = some (r, σ')) : xG p l e ({ frames := 0, cells := 0, slots := 0, locals := 0 }) s m args below meth c (MQ below (xQi D A (wM ad cI cX) r σ') args s 0 0 A) 3 D A (wM ad cI cX) σ 35 [] [.int t0] := by
  unfold mX9_mayCode_L35 at h
  obtain ⟨hb35, h⟩ := xck_some h
  exact x_zret (pc := 35) X hr hl hb35 h dX9_mayCode_35
set_option maxRecDepth 100000 in
set_option maxHeartbeats 4000000 in
theorem wX9_mayCode_L34 {p : Program} {l : Launch} {e : Env} {s : State} {m : MethodId} {args : Array Value} {below : List Frame} {meth : Method} {c : Code} {D : va_G} {A : Nat → Prop} {ad : Nat → Nat} {cI cX : ClassId} {r : Int32} {σ' : xSt} (X : xX p s m args c cX9_mayCode 3 RX9 D (tyM cI cX) A (wM ad cI cX)) (hr : meth.sig.returnType = (some .boolean)) (hl : meth.locks = false) (F : Nat) (σ : xSt) (h : mX9_mayCode_L34 F σ = some (r, σ')) : xG p l e ({ frames := 0, cells := 0, slots := 0, locals := 0 }) s m args below meth c (MQ below (xQi D A (wM ad cI cX) r σ') args s 0 0 A) 3 D A (wM ad cI cX) σ 34 [] [] := by
  unfold mX9_mayCode_L34 at h
  refine x_iconst (pc := 34) (v := 0) X dX9_mayCode_34 (by decide) ?_
  refine x_sub [] rfl ?_
  exact wX9_mayCode_L35 X hr hl F _ _ h
set_option maxRecDepth 100000 in
set_option maxHeartbeats 4000000 in
theorem kX9_mayCode (l : Launch) {D : va_G} {A : Nat → Prop} {ad : Nat → Nat} {cI cX : ClassId} (hD : ∀ σ, va_D A ((wM ad cI cX) σ)) (F : Nat) (v1 : Int32) (v2 : Int32) (σ : xSt) (r : Int32) (σ' : xSt) (h : mX9_mayCode F v1 v2 σ = some (r, σ')) : xM l yX9_mayCode cX9_mayCode 3 (some .boolean) ({ frames := 0, cells := 0, slots := 0, locals := 0 }) D (tyM cI cX) A (wM ad cI cX) [.ref (ad 0), .int v1, .int v2] σ (xQi D A (wM ad cI cX) r σ') := by
  refine xM_of (lv := [(0, .ref (ad 0)), (1, .int v1), (2, .int v2)]) [.ref (ad 0), .int v1, .int v2] (by decide) hD rfl (Nat.le_of_ble_eq_true rfl) ?_
  intro p e s m args below meth c X hr hl
  unfold mX9_mayCode at h
  refine x_iload_n (pc := 0) X dX9_mayCode_0 rfl 1 rfl ?_
  refine x_bipush (pc := 1) (v := 8) X dX9_mayCode_1 (by decide) ?_
  obtain ⟨hb3, h⟩ := xck_some h
  refine x_irem (pc := 3) X dX9_mayCode_3 (xnzI_n hb3) ?_
  refine x_aload_n (pc := 4) X dX9_mayCode_4 rfl 0 rfl ?_
  refine gX9_113 (pc := 5) X dX9_mayCode_5 ?_
  refine x_icmp_ge (pc := 8) X 34 dX9_mayCode_8 (by decide) (fun hc => ?_) (fun hc => ?_)
  · have h := xit hc h
    refine x_sub [] rfl ?_
    exact wX9_mayCode_L34 X hr hl F _ h
  · have h := xif hc h
    refine x_iload_n (pc := 11) X dX9_mayCode_11 rfl 1 rfl ?_
    refine x_bipush (pc := 12) (v := 8) X dX9_mayCode_12 (by decide) ?_
    obtain ⟨hb14, h⟩ := xck_some h
    refine x_idiv (pc := 14) X dX9_mayCode_14 (xnzI_n hb14) ?_
    refine x_aload_n (pc := 15) X dX9_mayCode_15 rfl 0 rfl ?_
    refine gX9_109 (pc := 16) X dX9_mayCode_16 ?_
    refine x_icmp_ge (pc := 19) X 34 dX9_mayCode_19 (by decide) (fun hc => ?_) (fun hc => ?_)
    · have h := xit hc h
      refine x_sub [] rfl ?_
      exact wX9_mayCode_L34 X hr hl F _ h
    · have h := xif hc h
      refine x_iload_n (pc := 22) X dX9_mayCode_22 rfl 1 rfl ?_
      refine x_bipush (pc := 23) (v := 8) X dX9_mayCode_23 (by decide) ?_
      obtain ⟨hb25, h⟩ := xck_some h
      refine x_irem (pc := 25) X dX9_mayCode_25 (xnzI_n hb25) ?_
      refine x_iload_n (pc := 26) X dX9_mayCode_26 rfl 2 rfl ?_
      refine x_icmp_eq (pc := 27) X 34 dX9_mayCode_27 (by decide) (fun hc => ?_) (fun hc => ?_)
      · have h := xit hc h
        refine x_sub [] rfl ?_
        exact wX9_mayCode_L34 X hr hl F _ h
      · have h := xif hc h
        refine x_iconst (pc := 30) (v := 1) X dX9_mayCode_30 (by decide) ?_
        refine x_goto (pc := 31) X 35 dX9_mayCode_31 (by decide) ?_
        refine x_sub [] rfl ?_
        exact wX9_mayCode_L35 X hr hl F _ _ h
set_option maxRecDepth 100000 in
set_option maxHeartbeats 4000000 in
theorem wX9_sitsMore_L133 {p : Program} {l : Launch} {e : Env} {s : State} {m : MethodId} {args : Array Value} {below : List Frame} {meth : Method} {c : Code} {D : va_G} {A : Nat → Prop} {ad : Nat → Nat} {cI cX : ClassId} {r : Int32} {σ' : xSt} (X : xX p s m args c cX9_sitsMore 8 RX9 D (tyM cI cX) A (wM ad cI cX)) (hr : meth.sig.returnType = (some .int)) (hl : meth.locks = false) (F : Nat) (σ : xSt) (h : mX9_sitsMore_L133 F σ = some (r, σ')) : xG p l e ({ frames := 6, cells := 0, slots := 0, locals := 137 }) s m args below meth c (MQ below (xQi D A (wM ad cI cX) r σ') args s 0 0 A) 8 D A (wM ad cI cX) σ 133 [] [] := by
  unfold mX9_sitsMore_L133 at h
  refine x_iconst (pc := 133) (v := (-1)) X dX9_sitsMore_133 (by decide) ?_
  exact x_iret (pc := 134) X hr hl h dX9_sitsMore_134
set_option maxRecDepth 100000 in
set_option maxHeartbeats 4000000 in
theorem wX9_sitsMore_L127 {p : Program} {l : Launch} {e : Env} {s : State} {m : MethodId} {args : Array Value} {below : List Frame} {meth : Method} {c : Code} {D : va_G} {A : Nat → Prop} {ad : Nat → Nat} {cI cX : ClassId} {r : Int32} {σ' : xSt} {c64 : Int32 → Int32 → Int32 → Int32 → Int32 → Int32 → xSt → Option (Int32 × xSt)} (X : xX p s m args c cX9_sitsMore 8 RX9 D (tyM cI cX) A (wM ad cI cX)) (hr : meth.sig.returnType = (some .int)) (hl : meth.locks = false) (F : Nat) (hc64 : ∀ (v1 : Int32) (v2 : Int32) (v3 : Int32) (v4 : Int32) (v5 : Int32) (v6 : Int32) (σ : xSt), c64 v1 v2 v3 v4 v5 v6 σ = some (r, σ') → xG p l e ({ frames := 6, cells := 0, slots := 0, locals := 137 }) s m args below meth c (MQ below (xQi D A (wM ad cI cX) r σ') args s 0 0 A) 8 D A (wM ad cI cX) σ 64 [(0, .ref (ad 0)), (1, .int v1), (2, .int v2), (3, .int v3), (4, .int v4), (5, .int v5), (6, .int v6)] []) (v1 : Int32) (v2 : Int32) (v3 : Int32) (v4 : Int32) (v5 : Int32) (v6 : Int32) (σ : xSt) (h : mX9_sitsMore_L127 F c64 v1 v2 v3 v4 v5 v6 σ = some (r, σ')) : xG p l e ({ frames := 6, cells := 0, slots := 0, locals := 137 }) s m args below meth c (MQ below (xQi D A (wM ad cI cX) r σ') args s 0 0 A) 8 D A (wM ad cI cX) σ 127 [(0, .ref (ad 0)), (1, .int v1), (2, .int v2), (3, .int v3), (4, .int v4), (5, .int v5), (6, .int v6)] [] := by
  unfold mX9_sitsMore_L127 at h
  refine x_iinc (pc := 127) (v := (v6 + 1)) (lv' := [(6, .int (v6 + 1)), (0, .ref (ad 0)), (1, .int v1), (2, .int v2), (3, .int v3), (4, .int v4), (5, .int v5)]) X dX9_sitsMore_127 6 rfl rfl (by decide) rfl ?_
  refine x_goto (pc := 130) X 64 dX9_sitsMore_130 (by decide) ?_
  refine x_sub [1, 2, 3, 4, 5, 6, 0] rfl ?_
  exact hc64 _ _ _ _ _ _ _ h
set_option maxRecDepth 100000 in
set_option maxHeartbeats 4000000 in
theorem wX9_sitsMore_L121 {p : Program} {l : Launch} {e : Env} {s : State} {m : MethodId} {args : Array Value} {below : List Frame} {meth : Method} {c : Code} {D : va_G} {A : Nat → Prop} {ad : Nat → Nat} {cI cX : ClassId} {r : Int32} {σ' : xSt} {c64 : Int32 → Int32 → Int32 → Int32 → Int32 → Int32 → xSt → Option (Int32 × xSt)} {c75 : Int32 → Int32 → Int32 → Int32 → Int32 → Int32 → Int32 → xSt → Option (Int32 × xSt)} (X : xX p s m args c cX9_sitsMore 8 RX9 D (tyM cI cX) A (wM ad cI cX)) (hr : meth.sig.returnType = (some .int)) (hl : meth.locks = false) (F : Nat) (hc64 : ∀ (v1 : Int32) (v2 : Int32) (v3 : Int32) (v4 : Int32) (v5 : Int32) (v6 : Int32) (σ : xSt), c64 v1 v2 v3 v4 v5 v6 σ = some (r, σ') → xG p l e ({ frames := 6, cells := 0, slots := 0, locals := 137 }) s m args below meth c (MQ below (xQi D A (wM ad cI cX) r σ') args s 0 0 A) 8 D A (wM ad cI cX) σ 64 [(0, .ref (ad 0)), (1, .int v1), (2, .int v2), (3, .int v3), (4, .int v4), (5, .int v5), (6, .int v6)] []) (hc75 : ∀ (v1 : Int32) (v2 : Int32) (v3 : Int32) (v4 : Int32) (v5 : Int32) (v6 : Int32) (v7 : Int32) (σ : xSt), c75 v1 v2 v3 v4 v5 v6 v7 σ = some (r, σ') → xG p l e ({ frames := 6, cells := 0, slots := 0, locals := 137 }) s m args below meth c (MQ below (xQi D A (wM ad cI cX) r σ') args s 0 0 A) 8 D A (wM ad cI cX) σ 75 [(0, .ref (ad 0)), (1, .int v1), (2, .int v2), (3, .int v3), (4, .int v4), (5, .int v5), (6, .int v6), (7, .int v7)] []) (v1 : Int32) (v2 : Int32) (v3 : Int32) (v4 : Int32) (v5 : Int32) (v6 : Int32) (v7 : Int32) (σ : xSt) (h : mX9_sitsMore_L121 F c64 c75 v1 v2 v3 v4 v5 v6 v7 σ = some (r, σ')) : xG p l e ({ frames := 6, cells := 0, slots := 0, locals := 137 }) s m args below meth c (MQ below (xQi D A (wM ad cI cX) r σ') args s 0 0 A) 8 D A (wM ad cI cX) σ 121 [(0, .ref (ad 0)), (1, .int v1), (2, .int v2), (3, .int v3), (4, .int v4), (5, .int v5), (6, .int v6), (7, .int v7)] [] := by
  unfold mX9_sitsMore_L121 at h
  refine x_iinc (pc := 121) (v := (v7 + 1)) (lv' := [(7, .int (v7 + 1)), (0, .ref (ad 0)), (1, .int v1), (2, .int v2), (3, .int v3), (4, .int v4), (5, .int v5), (6, .int v6)]) X dX9_sitsMore_121 7 rfl rfl (by decide) rfl ?_
  refine x_goto (pc := 124) X 75 dX9_sitsMore_124 (by decide) ?_
  refine x_sub [1, 2, 3, 4, 5, 6, 7, 0] rfl ?_
  exact hc75 _ _ _ _ _ _ _ _ h
set_option maxRecDepth 100000 in
set_option maxHeartbeats 4000000 in
theorem wX9_sitsMore_L119 {p : Program} {l : Launch} {e : Env} {s : State} {m : MethodId} {args : Array Value} {below : List Frame} {meth : Method} {c : Code} {D : va_G} {A : Nat → Prop} {ad : Nat → Nat} {cI cX : ClassId} {r : Int32} {σ' : xSt} (X : xX p s m args c cX9_sitsMore 8 RX9 D (tyM cI cX) A (wM ad cI cX)) (hr : meth.sig.returnType = (some .int)) (hl : meth.locks = false) (F : Nat) (σ : xSt) (h : mX9_sitsMore_L119 F σ = some (r, σ')) : xG p l e ({ frames := 6, cells := 0, slots := 0, locals := 137 }) s m args below meth c (MQ below (xQi D A (wM ad cI cX) r σ') args s 0 0 A) 8 D A (wM ad cI cX) σ 119 [] [] := by
  unfold mX9_sitsMore_L119 at h
  refine x_iconst (pc := 119) (v := 2) X dX9_sitsMore_119 (by decide) ?_
  exact x_iret (pc := 120) X hr hl h dX9_sitsMore_120
set_option maxRecDepth 100000 in
set_option maxHeartbeats 4000000 in
theorem wX9_sitsMore_S75 {p : Program} {l : Launch} {e : Env} {s : State} {m : MethodId} {args : Array Value} {below : List Frame} {meth : Method} {c : Code} {D : va_G} {A : Nat → Prop} {ad : Nat → Nat} {cI cX : ClassId} {r : Int32} {σ' : xSt} {c64 : Int32 → Int32 → Int32 → Int32 → Int32 → Int32 → xSt → Option (Int32 × xSt)} {c75 : Int32 → Int32 → Int32 → Int32 → Int32 → Int32 → Int32 → xSt → Option (Int32 × xSt)} (X : xX p s m args c cX9_sitsMore 8 RX9 D (tyM cI cX) A (wM ad cI cX)) (hr : meth.sig.returnType = (some .int)) (hl : meth.locks = false) (F : Nat) (hc64 : ∀ (v1 : Int32) (v2 : Int32) (v3 : Int32) (v4 : Int32) (v5 : Int32) (v6 : Int32) (σ : xSt), c64 v1 v2 v3 v4 v5 v6 σ = some (r, σ') → xG p l e ({ frames := 6, cells := 0, slots := 0, locals := 137 }) s m args below meth c (MQ below (xQi D A (wM ad cI cX) r σ') args s 0 0 A) 8 D A (wM ad cI cX) σ 64 [(0, .ref (ad 0)), (1, .int v1), (2, .int v2), (3, .int v3), (4, .int v4), (5, .int v5), (6, .int v6)] []) (hc75 : ∀ (v1 : Int32) (v2 : Int32) (v3 : Int32) (v4 : Int32) (v5 : Int32) (v6 : Int32) (v7 : Int32) (σ : xSt), c75 v1 v2 v3 v4 v5 v6 v7 σ = some (r, σ') → xG p l e ({ frames := 6, cells := 0, slots := 0, locals := 137 }) s m args below meth c (MQ below (xQi D A (wM ad cI cX) r σ') args s 0 0 A) 8 D A (wM ad cI cX) σ 75 [(0, .ref (ad 0)), (1, .int v1), (2, .int v2), (3, .int v3), (4, .int v4), (5, .int v5), (6, .int v6), (7, .int v7)] []) (v1 : Int32) (v2 : Int32) (v3 : Int32) (v4 : Int32) (v5 : Int32) (v6 : Int32) (v7 : Int32) (σ : xSt) (h : mX9_sitsMore_S75 F c64 c75 v1 v2 v3 v4 v5 v6 v7 σ = some (r, σ')) : xG p l e ({ frames := 6, cells := 0, slots := 0, locals := 137 }) s m args below meth c (MQ below (xQi D A (wM ad cI cX) r σ') args s 0 0 A) 8 D A (wM ad cI cX) σ 75 [(0, .ref (ad 0)), (1, .int v1), (2, .int v2), (3, .int v3), (4, .int v4), (5, .int v5), (6, .int v6), (7, .int v7)] [] := by
  unfold mX9_sitsMore_S75 at h
  refine x_iload (pc := 75) X dX9_sitsMore_75 7 rfl ?_
  refine x_bipush (pc := 77) (v := 48) X dX9_sitsMore_77 (by decide) ?_
  refine x_icmp_ge (pc := 79) X 127 dX9_sitsMore_79 (by decide) (fun hc => ?_) (fun hc => ?_)
  · have h := xit hc h
    refine x_sub [0, 1, 2, 3, 4, 5, 6] rfl ?_
    exact wX9_sitsMore_L127 X hr hl F hc64 _ _ _ _ _ _ _ h
  · have h := xif hc h
    refine x_aload_n (pc := 82) X dX9_sitsMore_82 rfl 0 rfl ?_
    refine x_iload (pc := 83) X dX9_sitsMore_83 6 rfl ?_
    refine x_iload_n (pc := 85) X dX9_sitsMore_85 rfl 1 rfl ?_
    obtain ⟨r86, σ86, hq86, h⟩ := xb2_some h
    refine x_calliV (pc := 86) (As := [.int v6, .int v1]) (rest := []) X (kX9_mayCode l X.2.2.2.2.2.2.2 F _ _ _ _ _ hq86) kvX9_247 rfl (qX9) ⟨rfl, rfl, Nat.le_of_ble_eq_true rfl, Nat.le_of_ble_eq_true rfl⟩ rfl rfl (Nat.le_of_ble_eq_true rfl) dX9_sitsMore_86 ?_
    refine x_if_eq (pc := 89) X 121 dX9_sitsMore_89 (by decide) (fun hc => ?_) (fun hc => ?_)
    · have h := xit hc h
      refine x_sub [0, 1, 2, 3, 4, 5, 6, 7] rfl ?_
      exact wX9_sitsMore_L121 X hr hl F hc64 hc75 _ _ _ _ _ _ _ _ h
    · have h := xif hc h
      refine x_aload_n (pc := 92) X dX9_sitsMore_92 rfl 0 rfl ?_
      refine x_iload (pc := 93) X dX9_sitsMore_93 7 rfl ?_
      refine x_iload_n (pc := 95) X dX9_sitsMore_95 rfl 1 rfl ?_
      obtain ⟨r96, σ96, hq96, h⟩ := xb2_some h
      refine x_calliV (pc := 96) (As := [.int v7, .int v1]) (rest := []) X (kX9_mayCode l X.2.2.2.2.2.2.2 F _ _ _ _ _ hq96) kvX9_247 rfl (qX9) ⟨rfl, rfl, Nat.le_of_ble_eq_true rfl, Nat.le_of_ble_eq_true rfl⟩ rfl rfl (Nat.le_of_ble_eq_true rfl) dX9_sitsMore_96 ?_
      refine x_if_eq (pc := 99) X 121 dX9_sitsMore_99 (by decide) (fun hc => ?_) (fun hc => ?_)
      · have h := xit hc h
        refine x_sub [0, 1, 2, 3, 4, 5, 6, 7] rfl ?_
        exact wX9_sitsMore_L121 X hr hl F hc64 hc75 _ _ _ _ _ _ _ _ h
      · have h := xif hc h
        refine x_aload_n (pc := 102) X dX9_sitsMore_102 rfl 0 rfl ?_
        refine x_iload (pc := 103) X dX9_sitsMore_103 6 rfl ?_
        refine x_iload (pc := 105) X dX9_sitsMore_105 7 rfl ?_
        refine x_iload_n (pc := 107) X dX9_sitsMore_107 rfl 2 rfl ?_
        refine x_iload_n (pc := 108) X dX9_sitsMore_108 rfl 3 rfl ?_
        refine x_iload (pc := 109) X dX9_sitsMore_109 4 rfl ?_
        refine x_iload (pc := 111) X dX9_sitsMore_111 5 rfl ?_
        obtain ⟨r113, σ113, hq113, h⟩ := xb2_some h
        refine x_calliV (pc := 113) (As := [.int v6, .int v7, .int v2, .int v3, .int v4, .int v5]) (rest := []) X (kX9_doesSit l X.2.2.2.2.2.2.2 F _ _ _ _ _ _ _ _ _ hq113) kvX9_243 rfl (qX9) ⟨rfl, rfl, Nat.le_of_ble_eq_true rfl, Nat.le_of_ble_eq_true rfl⟩ rfl rfl (Nat.le_of_ble_eq_true rfl) dX9_sitsMore_113 ?_
        refine x_if_eq (pc := 116) X 121 dX9_sitsMore_116 (by decide) (fun hc => ?_) (fun hc => ?_)
        · have h := xit hc h
          refine x_sub [0, 1, 2, 3, 4, 5, 6, 7] rfl ?_
          exact wX9_sitsMore_L121 X hr hl F hc64 hc75 _ _ _ _ _ _ _ _ h
        · have h := xif hc h
          refine x_sub [] rfl ?_
          exact wX9_sitsMore_L119 X hr hl F _ h
theorem wX9_sitsMore_L75 {p : Program} {l : Launch} {e : Env} {s : State} {m : MethodId} {args : Array Value} {below : List Frame} {meth : Method} {c : Code} {D : va_G} {A : Nat → Prop} {ad : Nat → Nat} {cI cX : ClassId} {r : Int32} {σ' : xSt} {c64 : Int32 → Int32 → Int32 → Int32 → Int32 → Int32 → xSt → Option (Int32 × xSt)} (X : xX p s m args c cX9_sitsMore 8 RX9 D (tyM cI cX) A (wM ad cI cX)) (hr : meth.sig.returnType = (some .int)) (hl : meth.locks = false) (F : Nat) (hc64 : ∀ (v1 : Int32) (v2 : Int32) (v3 : Int32) (v4 : Int32) (v5 : Int32) (v6 : Int32) (σ : xSt), c64 v1 v2 v3 v4 v5 v6 σ = some (r, σ') → xG p l e ({ frames := 6, cells := 0, slots := 0, locals := 137 }) s m args below meth c (MQ below (xQi D A (wM ad cI cX) r σ') args s 0 0 A) 8 D A (wM ad cI cX) σ 64 [(0, .ref (ad 0)), (1, .int v1), (2, .int v2), (3, .int v3), (4, .int v4), (5, .int v5), (6, .int v6)] []) : ∀ (n : Nat) (v1 : Int32) (v2 : Int32) (v3 : Int32) (v4 : Int32) (v5 : Int32) (v6 : Int32) (v7 : Int32) (σ : xSt), mX9_sitsMore_L75 F c64 n v1 v2 v3 v4 v5 v6 v7 σ = some (r, σ') → xG p l e ({ frames := 6, cells := 0, slots := 0, locals := 137 }) s m args below meth c (MQ below (xQi D A (wM ad cI cX) r σ') args s 0 0 A) 8 D A (wM ad cI cX) σ 75 [(0, .ref (ad 0)), (1, .int v1), (2, .int v2), (3, .int v3), (4, .int v4), (5, .int v5), (6, .int v6), (7, .int v7)] [] := by
  intro n
  induction n with
  | zero => intro v1 v2 v3 v4 v5 v6 v7 σ h; cases h
  | succ n ih => intro v1 v2 v3 v4 v5 v6 v7 σ h; exact wX9_sitsMore_S75 X hr hl F hc64 ih v1 v2 v3 v4 v5 v6 v7 σ h
set_option maxRecDepth 100000 in
set_option maxHeartbeats 4000000 in
theorem wX9_sitsMore_S64 {p : Program} {l : Launch} {e : Env} {s : State} {m : MethodId} {args : Array Value} {below : List Frame} {meth : Method} {c : Code} {D : va_G} {A : Nat → Prop} {ad : Nat → Nat} {cI cX : ClassId} {r : Int32} {σ' : xSt} {c64 : Int32 → Int32 → Int32 → Int32 → Int32 → Int32 → xSt → Option (Int32 × xSt)} (X : xX p s m args c cX9_sitsMore 8 RX9 D (tyM cI cX) A (wM ad cI cX)) (hr : meth.sig.returnType = (some .int)) (hl : meth.locks = false) (F : Nat) (hc64 : ∀ (v1 : Int32) (v2 : Int32) (v3 : Int32) (v4 : Int32) (v5 : Int32) (v6 : Int32) (σ : xSt), c64 v1 v2 v3 v4 v5 v6 σ = some (r, σ') → xG p l e ({ frames := 6, cells := 0, slots := 0, locals := 137 }) s m args below meth c (MQ below (xQi D A (wM ad cI cX) r σ') args s 0 0 A) 8 D A (wM ad cI cX) σ 64 [(0, .ref (ad 0)), (1, .int v1), (2, .int v2), (3, .int v3), (4, .int v4), (5, .int v5), (6, .int v6)] []) (v1 : Int32) (v2 : Int32) (v3 : Int32) (v4 : Int32) (v5 : Int32) (v6 : Int32) (σ : xSt) (h : mX9_sitsMore_S64 F c64 v1 v2 v3 v4 v5 v6 σ = some (r, σ')) : xG p l e ({ frames := 6, cells := 0, slots := 0, locals := 137 }) s m args below meth c (MQ below (xQi D A (wM ad cI cX) r σ') args s 0 0 A) 8 D A (wM ad cI cX) σ 64 [(0, .ref (ad 0)), (1, .int v1), (2, .int v2), (3, .int v3), (4, .int v4), (5, .int v5), (6, .int v6)] [] := by
  unfold mX9_sitsMore_S64 at h
  refine x_iload (pc := 64) X dX9_sitsMore_64 6 rfl ?_
  refine x_bipush (pc := 66) (v := 48) X dX9_sitsMore_66 (by decide) ?_
  refine x_icmp_ge (pc := 68) X 133 dX9_sitsMore_68 (by decide) (fun hc => ?_) (fun hc => ?_)
  · have h := xit hc h
    refine x_sub [] rfl ?_
    exact wX9_sitsMore_L133 X hr hl F _ h
  · have h := xif hc h
    refine x_iload (pc := 71) X dX9_sitsMore_71 6 rfl ?_
    refine x_istore (pc := 73) (lv' := [(7, .int v6), (0, .ref (ad 0)), (1, .int v1), (2, .int v2), (3, .int v3), (4, .int v4), (5, .int v5), (6, .int v6)]) X dX9_sitsMore_73 (by decide) rfl ?_
    refine x_sub [1, 2, 3, 4, 5, 6, 7, 0] rfl ?_
    exact wX9_sitsMore_L75 X hr hl F hc64 F _ _ _ _ _ _ _ _ h
theorem wX9_sitsMore_L64 {p : Program} {l : Launch} {e : Env} {s : State} {m : MethodId} {args : Array Value} {below : List Frame} {meth : Method} {c : Code} {D : va_G} {A : Nat → Prop} {ad : Nat → Nat} {cI cX : ClassId} {r : Int32} {σ' : xSt} (X : xX p s m args c cX9_sitsMore 8 RX9 D (tyM cI cX) A (wM ad cI cX)) (hr : meth.sig.returnType = (some .int)) (hl : meth.locks = false) (F : Nat) : ∀ (n : Nat) (v1 : Int32) (v2 : Int32) (v3 : Int32) (v4 : Int32) (v5 : Int32) (v6 : Int32) (σ : xSt), mX9_sitsMore_L64 F n v1 v2 v3 v4 v5 v6 σ = some (r, σ') → xG p l e ({ frames := 6, cells := 0, slots := 0, locals := 137 }) s m args below meth c (MQ below (xQi D A (wM ad cI cX) r σ') args s 0 0 A) 8 D A (wM ad cI cX) σ 64 [(0, .ref (ad 0)), (1, .int v1), (2, .int v2), (3, .int v3), (4, .int v4), (5, .int v5), (6, .int v6)] [] := by
  intro n
  induction n with
  | zero => intro v1 v2 v3 v4 v5 v6 σ h; cases h
  | succ n ih => intro v1 v2 v3 v4 v5 v6 σ h; exact wX9_sitsMore_S64 X hr hl F ih v1 v2 v3 v4 v5 v6 σ h
set_option maxRecDepth 100000 in
set_option maxHeartbeats 4000000 in
theorem wX9_sitsMore_L61 {p : Program} {l : Launch} {e : Env} {s : State} {m : MethodId} {args : Array Value} {below : List Frame} {meth : Method} {c : Code} {D : va_G} {A : Nat → Prop} {ad : Nat → Nat} {cI cX : ClassId} {r : Int32} {σ' : xSt} (X : xX p s m args c cX9_sitsMore 8 RX9 D (tyM cI cX) A (wM ad cI cX)) (hr : meth.sig.returnType = (some .int)) (hl : meth.locks = false) (F : Nat) (v1 : Int32) (v2 : Int32) (v3 : Int32) (v4 : Int32) (v5 : Int32) (σ : xSt) (h : mX9_sitsMore_L61 F v1 v2 v3 v4 v5 σ = some (r, σ')) : xG p l e ({ frames := 6, cells := 0, slots := 0, locals := 137 }) s m args below meth c (MQ below (xQi D A (wM ad cI cX) r σ') args s 0 0 A) 8 D A (wM ad cI cX) σ 61 [(0, .ref (ad 0)), (1, .int v1), (2, .int v2), (3, .int v3), (4, .int v4), (5, .int v5)] [] := by
  unfold mX9_sitsMore_L61 at h
  refine x_iconst (pc := 61) (v := 0) X dX9_sitsMore_61 (by decide) ?_
  refine x_istore (pc := 62) (lv' := [(6, .int 0), (0, .ref (ad 0)), (1, .int v1), (2, .int v2), (3, .int v3), (4, .int v4), (5, .int v5)]) X dX9_sitsMore_62 (by decide) rfl ?_
  refine x_sub [1, 2, 3, 4, 5, 6, 0] rfl ?_
  exact wX9_sitsMore_L64 X hr hl F F _ _ _ _ _ _ _ h
set_option maxRecDepth 100000 in
set_option maxHeartbeats 4000000 in
theorem wX9_sitsMore_L55 {p : Program} {l : Launch} {e : Env} {s : State} {m : MethodId} {args : Array Value} {below : List Frame} {meth : Method} {c : Code} {D : va_G} {A : Nat → Prop} {ad : Nat → Nat} {cI cX : ClassId} {r : Int32} {σ' : xSt} {c20 : Int32 → Int32 → Int32 → Int32 → Int32 → Int32 → xSt → Option (Int32 × xSt)} (X : xX p s m args c cX9_sitsMore 8 RX9 D (tyM cI cX) A (wM ad cI cX)) (hr : meth.sig.returnType = (some .int)) (hl : meth.locks = false) (F : Nat) (hc20 : ∀ (v1 : Int32) (v2 : Int32) (v3 : Int32) (v4 : Int32) (v5 : Int32) (v6 : Int32) (σ : xSt), c20 v1 v2 v3 v4 v5 v6 σ = some (r, σ') → xG p l e ({ frames := 6, cells := 0, slots := 0, locals := 137 }) s m args below meth c (MQ below (xQi D A (wM ad cI cX) r σ') args s 0 0 A) 8 D A (wM ad cI cX) σ 20 [(0, .ref (ad 0)), (1, .int v1), (2, .int v2), (3, .int v3), (4, .int v4), (5, .int v5), (6, .int v6)] []) (v1 : Int32) (v2 : Int32) (v3 : Int32) (v4 : Int32) (v5 : Int32) (v6 : Int32) (σ : xSt) (h : mX9_sitsMore_L55 F c20 v1 v2 v3 v4 v5 v6 σ = some (r, σ')) : xG p l e ({ frames := 6, cells := 0, slots := 0, locals := 137 }) s m args below meth c (MQ below (xQi D A (wM ad cI cX) r σ') args s 0 0 A) 8 D A (wM ad cI cX) σ 55 [(0, .ref (ad 0)), (1, .int v1), (2, .int v2), (3, .int v3), (4, .int v4), (5, .int v5), (6, .int v6)] [] := by
  unfold mX9_sitsMore_L55 at h
  refine x_iinc (pc := 55) (v := (v6 + 1)) (lv' := [(6, .int (v6 + 1)), (0, .ref (ad 0)), (1, .int v1), (2, .int v2), (3, .int v3), (4, .int v4), (5, .int v5)]) X dX9_sitsMore_55 6 rfl rfl (by decide) rfl ?_
  refine x_goto (pc := 58) X 20 dX9_sitsMore_58 (by decide) ?_
  refine x_sub [1, 2, 3, 4, 5, 6, 0] rfl ?_
  exact hc20 _ _ _ _ _ _ _ h
set_option maxRecDepth 100000 in
set_option maxHeartbeats 4000000 in
theorem wX9_sitsMore_L53 {p : Program} {l : Launch} {e : Env} {s : State} {m : MethodId} {args : Array Value} {below : List Frame} {meth : Method} {c : Code} {D : va_G} {A : Nat → Prop} {ad : Nat → Nat} {cI cX : ClassId} {r : Int32} {σ' : xSt} (X : xX p s m args c cX9_sitsMore 8 RX9 D (tyM cI cX) A (wM ad cI cX)) (hr : meth.sig.returnType = (some .int)) (hl : meth.locks = false) (F : Nat) (σ : xSt) (h : mX9_sitsMore_L53 F σ = some (r, σ')) : xG p l e ({ frames := 6, cells := 0, slots := 0, locals := 137 }) s m args below meth c (MQ below (xQi D A (wM ad cI cX) r σ') args s 0 0 A) 8 D A (wM ad cI cX) σ 53 [] [] := by
  unfold mX9_sitsMore_L53 at h
  refine x_iconst (pc := 53) (v := 1) X dX9_sitsMore_53 (by decide) ?_
  exact x_iret (pc := 54) X hr hl h dX9_sitsMore_54
set_option maxRecDepth 100000 in
set_option maxHeartbeats 4000000 in
theorem wX9_sitsMore_S20 {p : Program} {l : Launch} {e : Env} {s : State} {m : MethodId} {args : Array Value} {below : List Frame} {meth : Method} {c : Code} {D : va_G} {A : Nat → Prop} {ad : Nat → Nat} {cI cX : ClassId} {r : Int32} {σ' : xSt} {c20 : Int32 → Int32 → Int32 → Int32 → Int32 → Int32 → xSt → Option (Int32 × xSt)} (X : xX p s m args c cX9_sitsMore 8 RX9 D (tyM cI cX) A (wM ad cI cX)) (hr : meth.sig.returnType = (some .int)) (hl : meth.locks = false) (F : Nat) (hc20 : ∀ (v1 : Int32) (v2 : Int32) (v3 : Int32) (v4 : Int32) (v5 : Int32) (v6 : Int32) (σ : xSt), c20 v1 v2 v3 v4 v5 v6 σ = some (r, σ') → xG p l e ({ frames := 6, cells := 0, slots := 0, locals := 137 }) s m args below meth c (MQ below (xQi D A (wM ad cI cX) r σ') args s 0 0 A) 8 D A (wM ad cI cX) σ 20 [(0, .ref (ad 0)), (1, .int v1), (2, .int v2), (3, .int v3), (4, .int v4), (5, .int v5), (6, .int v6)] []) (v1 : Int32) (v2 : Int32) (v3 : Int32) (v4 : Int32) (v5 : Int32) (v6 : Int32) (σ : xSt) (h : mX9_sitsMore_S20 F c20 v1 v2 v3 v4 v5 v6 σ = some (r, σ')) : xG p l e ({ frames := 6, cells := 0, slots := 0, locals := 137 }) s m args below meth c (MQ below (xQi D A (wM ad cI cX) r σ') args s 0 0 A) 8 D A (wM ad cI cX) σ 20 [(0, .ref (ad 0)), (1, .int v1), (2, .int v2), (3, .int v3), (4, .int v4), (5, .int v5), (6, .int v6)] [] := by
  unfold mX9_sitsMore_S20 at h
  refine x_iload (pc := 20) X dX9_sitsMore_20 6 rfl ?_
  refine x_bipush (pc := 22) (v := 48) X dX9_sitsMore_22 (by decide) ?_
  refine x_icmp_ge (pc := 24) X 61 dX9_sitsMore_24 (by decide) (fun hc => ?_) (fun hc => ?_)
  · have h := xit hc h
    refine x_sub [0, 1, 2, 3, 4, 5] rfl ?_
    exact wX9_sitsMore_L61 X hr hl F _ _ _ _ _ _ h
  · have h := xif hc h
    refine x_aload_n (pc := 27) X dX9_sitsMore_27 rfl 0 rfl ?_
    refine x_iload (pc := 28) X dX9_sitsMore_28 6 rfl ?_
    refine x_iload_n (pc := 30) X dX9_sitsMore_30 rfl 1 rfl ?_
    obtain ⟨r31, σ31, hq31, h⟩ := xb2_some h
    refine x_calliV (pc := 31) (As := [.int v6, .int v1]) (rest := []) X (kX9_mayCode l X.2.2.2.2.2.2.2 F _ _ _ _ _ hq31) kvX9_247 rfl (qX9) ⟨rfl, rfl, Nat.le_of_ble_eq_true rfl, Nat.le_of_ble_eq_true rfl⟩ rfl rfl (Nat.le_of_ble_eq_true rfl) dX9_sitsMore_31 ?_
    refine x_if_eq (pc := 34) X 55 dX9_sitsMore_34 (by decide) (fun hc => ?_) (fun hc => ?_)
    · have h := xit hc h
      refine x_sub [0, 1, 2, 3, 4, 5, 6] rfl ?_
      exact wX9_sitsMore_L55 X hr hl F hc20 _ _ _ _ _ _ _ h
    · have h := xif hc h
      refine x_aload_n (pc := 37) X dX9_sitsMore_37 rfl 0 rfl ?_
      refine x_iload (pc := 38) X dX9_sitsMore_38 6 rfl ?_
      refine x_iconst (pc := 40) (v := (-1)) X dX9_sitsMore_40 (by decide) ?_
      refine x_iload_n (pc := 41) X dX9_sitsMore_41 rfl 2 rfl ?_
      refine x_iload_n (pc := 42) X dX9_sitsMore_42 rfl 3 rfl ?_
      refine x_iload (pc := 43) X dX9_sitsMore_43 4 rfl ?_
      refine x_iload (pc := 45) X dX9_sitsMore_45 5 rfl ?_
      obtain ⟨r47, σ47, hq47, h⟩ := xb2_some h
      refine x_calliV (pc := 47) (As := [.int v6, .int (-1), .int v2, .int v3, .int v4, .int v5]) (rest := []) X (kX9_doesSit l X.2.2.2.2.2.2.2 F _ _ _ _ _ _ _ _ _ hq47) kvX9_243 rfl (qX9) ⟨rfl, rfl, Nat.le_of_ble_eq_true rfl, Nat.le_of_ble_eq_true rfl⟩ rfl rfl (Nat.le_of_ble_eq_true rfl) dX9_sitsMore_47 ?_
      refine x_if_eq (pc := 50) X 55 dX9_sitsMore_50 (by decide) (fun hc => ?_) (fun hc => ?_)
      · have h := xit hc h
        refine x_sub [0, 1, 2, 3, 4, 5, 6] rfl ?_
        exact wX9_sitsMore_L55 X hr hl F hc20 _ _ _ _ _ _ _ h
      · have h := xif hc h
        refine x_sub [] rfl ?_
        exact wX9_sitsMore_L53 X hr hl F _ h
theorem wX9_sitsMore_L20 {p : Program} {l : Launch} {e : Env} {s : State} {m : MethodId} {args : Array Value} {below : List Frame} {meth : Method} {c : Code} {D : va_G} {A : Nat → Prop} {ad : Nat → Nat} {cI cX : ClassId} {r : Int32} {σ' : xSt} (X : xX p s m args c cX9_sitsMore 8 RX9 D (tyM cI cX) A (wM ad cI cX)) (hr : meth.sig.returnType = (some .int)) (hl : meth.locks = false) (F : Nat) : ∀ (n : Nat) (v1 : Int32) (v2 : Int32) (v3 : Int32) (v4 : Int32) (v5 : Int32) (v6 : Int32) (σ : xSt), mX9_sitsMore_L20 F n v1 v2 v3 v4 v5 v6 σ = some (r, σ') → xG p l e ({ frames := 6, cells := 0, slots := 0, locals := 137 }) s m args below meth c (MQ below (xQi D A (wM ad cI cX) r σ') args s 0 0 A) 8 D A (wM ad cI cX) σ 20 [(0, .ref (ad 0)), (1, .int v1), (2, .int v2), (3, .int v3), (4, .int v4), (5, .int v5), (6, .int v6)] [] := by
  intro n
  induction n with
  | zero => intro v1 v2 v3 v4 v5 v6 σ h; cases h
  | succ n ih => intro v1 v2 v3 v4 v5 v6 σ h; exact wX9_sitsMore_S20 X hr hl F ih v1 v2 v3 v4 v5 v6 σ h
set_option maxRecDepth 100000 in
set_option maxHeartbeats 4000000 in
theorem kX9_sitsMore (l : Launch) {D : va_G} {A : Nat → Prop} {ad : Nat → Nat} {cI cX : ClassId} (hD : ∀ σ, va_D A ((wM ad cI cX) σ)) (F : Nat) (v1 : Int32) (v2 : Int32) (v3 : Int32) (v4 : Int32) (v5 : Int32) (σ : xSt) (r : Int32) (σ' : xSt) (h : mX9_sitsMore F v1 v2 v3 v4 v5 σ = some (r, σ')) : xM l yX9_sitsMore cX9_sitsMore 8 (some .int) ({ frames := 6, cells := 0, slots := 0, locals := 137 }) D (tyM cI cX) A (wM ad cI cX) [.ref (ad 0), .int v1, .int v2, .int v3, .int v4, .int v5] σ (xQi D A (wM ad cI cX) r σ') := by
  refine xM_of (lv := [(0, .ref (ad 0)), (1, .int v1), (2, .int v2), (3, .int v3), (4, .int v4), (5, .int v5)]) [.ref (ad 0), .int v1, .int v2, .int v3, .int v4, .int v5] (by decide) hD rfl (Nat.le_of_ble_eq_true rfl) ?_
  intro p e s m args below meth c X hr hl
  unfold mX9_sitsMore at h
  refine x_aload_n (pc := 0) X dX9_sitsMore_0 rfl 0 rfl ?_
  refine x_iconst (pc := 1) (v := (-1)) X dX9_sitsMore_1 (by decide) ?_
  refine x_iconst (pc := 2) (v := (-1)) X dX9_sitsMore_2 (by decide) ?_
  refine x_iload_n (pc := 3) X dX9_sitsMore_3 rfl 2 rfl ?_
  refine x_iload_n (pc := 4) X dX9_sitsMore_4 rfl 3 rfl ?_
  refine x_iload (pc := 5) X dX9_sitsMore_5 4 rfl ?_
  refine x_iload (pc := 7) X dX9_sitsMore_7 5 rfl ?_
  obtain ⟨r9, σ9, hq9, h⟩ := xb2_some h
  refine x_calliV (pc := 9) (As := [.int (-1), .int (-1), .int v2, .int v3, .int v4, .int v5]) (rest := []) X (kX9_doesSit l X.2.2.2.2.2.2.2 F _ _ _ _ _ _ _ _ _ hq9) kvX9_243 rfl (qX9) ⟨rfl, rfl, Nat.le_of_ble_eq_true rfl, Nat.le_of_ble_eq_true rfl⟩ rfl rfl (Nat.le_of_ble_eq_true rfl) dX9_sitsMore_9 ?_
  refine x_if_eq (pc := 12) X 17 dX9_sitsMore_12 (by decide) (fun hc => ?_) (fun hc => ?_)
  · have h := xit hc h
    refine x_iconst (pc := 17) (v := 0) X dX9_sitsMore_17 (by decide) ?_
    refine x_istore (pc := 18) (lv' := [(6, .int 0), (0, .ref (ad 0)), (1, .int v1), (2, .int v2), (3, .int v3), (4, .int v4), (5, .int v5)]) X dX9_sitsMore_18 (by decide) rfl ?_
    refine x_sub [1, 2, 3, 4, 5, 6, 0] rfl ?_
    exact wX9_sitsMore_L20 X hr hl F F _ _ _ _ _ _ _ h
  · have h := xif hc h
    refine x_iconst (pc := 15) (v := 0) X dX9_sitsMore_15 (by decide) ?_
    exact x_iret (pc := 16) X hr hl h dX9_sitsMore_16
set_option maxRecDepth 100000 in
set_option maxHeartbeats 4000000 in
theorem wX9_ofRow_L24 {p : Program} {l : Launch} {e : Env} {s : State} {m : MethodId} {args : Array Value} {below : List Frame} {meth : Method} {c : Code} {D : va_G} {A : Nat → Prop} {ad : Nat → Nat} {cI cX : ClassId} {r : Int32} {σ' : xSt} (X : xX p s m args c cX9_ofRow 3 RX9 D (tyM cI cX) A (wM ad cI cX)) (hr : meth.sig.returnType = (some .int)) (hl : meth.locks = false) (F : Nat) (t0 : Int32) (σ : xSt) (h : mX9_ofRow_L24 F t0 σ = some (r, σ')) : xG p l e ({ frames := 0, cells := 0, slots := 0, locals := 0 }) s m args below meth c (MQ below (xQi D A (wM ad cI cX) r σ') args s 0 0 A) 3 D A (wM ad cI cX) σ 24 [] [.int t0] := by
  unfold mX9_ofRow_L24 at h
  exact x_iret (pc := 24) X hr hl h dX9_ofRow_24
set_option maxRecDepth 100000 in
set_option maxHeartbeats 4000000 in
theorem kX9_ofRow (l : Launch) {D : va_G} {A : Nat → Prop} {ad : Nat → Nat} {cI cX : ClassId} (hD : ∀ σ, va_D A ((wM ad cI cX) σ)) (F : Nat) (v1 : Int32) (v2 : Int32) (σ : xSt) (r : Int32) (σ' : xSt) (h : mX9_ofRow F v1 v2 σ = some (r, σ')) : xM l yX9_ofRow cX9_ofRow 3 (some .int) ({ frames := 0, cells := 0, slots := 0, locals := 0 }) D (tyM cI cX) A (wM ad cI cX) [.ref (ad 0), .int v1, .int v2] σ (xQi D A (wM ad cI cX) r σ') := by
  refine xM_of (lv := [(0, .ref (ad 0)), (1, .int v1), (2, .int v2)]) [.ref (ad 0), .int v1, .int v2] (by decide) hD rfl (Nat.le_of_ble_eq_true rfl) ?_
  intro p e s m args below meth c X hr hl
  unfold mX9_ofRow at h
  refine x_iload_n (pc := 0) X dX9_ofRow_0 rfl 2 rfl ?_
  refine x_iconst (pc := 1) (v := (-1)) X dX9_ofRow_1 (by decide) ?_
  refine x_icmp_ne (pc := 2) X 9 dX9_ofRow_2 (by decide) (fun hc => ?_) (fun hc => ?_)
  · have h := xif hc h
    refine x_iload_n (pc := 9) X dX9_ofRow_9 rfl 2 rfl ?_
    refine x_iload_n (pc := 10) X dX9_ofRow_10 rfl 1 rfl ?_
    refine x_icmp_ge (pc := 11) X 23 dX9_ofRow_11 (by decide) (fun hc => ?_) (fun hc => ?_)
    · have h := xit hc h
      refine x_iconst (pc := 23) (v := (-1)) X dX9_ofRow_23 (by decide) ?_
      refine x_sub [] rfl ?_
      exact wX9_ofRow_L24 X hr hl F _ _ h
    · have h := xif hc h
      refine x_aload_n (pc := 14) X dX9_ofRow_14 rfl 0 rfl ?_
      refine gX9_65 (pc := 15) X dX9_ofRow_15 ?_
      refine x_iload_n (pc := 18) X dX9_ofRow_18 rfl 2 rfl ?_
      obtain ⟨hb19, h⟩ := xck_some h
      refine x_iald (pc := 19) X 19 0 (qaX9_planRow) rfl hb19 dX9_ofRow_19 ?_
      refine x_goto (pc := 20) X 24 dX9_ofRow_20 (by decide) ?_
      refine x_sub [] rfl ?_
      exact wX9_ofRow_L24 X hr hl F _ _ h
  · have h := xit hc h
    refine x_iload_n (pc := 5) X dX9_ofRow_5 rfl 1 rfl ?_
    refine x_goto (pc := 6) X 24 dX9_ofRow_6 (by decide) ?_
    refine x_sub [] rfl ?_
    exact wX9_ofRow_L24 X hr hl F _ _ h
set_option maxRecDepth 100000 in
set_option maxHeartbeats 4000000 in
theorem kX9_hideOf (l : Launch) {D : va_G} {A : Nat → Prop} {ad : Nat → Nat} {cI cX : ClassId} (hD : ∀ σ, va_D A ((wM ad cI cX) σ)) (F : Nat) (v1 : Int32) (v2 : Int32) (v3 : Int32) (v4 : Int32) (σ : xSt) (r : Int32) (σ' : xSt) (h : mX9_hideOf F v1 v2 v3 v4 σ = some (r, σ')) : xM l yX9_hideOf cX9_hideOf 5 (some .int) ({ frames := 7, cells := 0, slots := 0, locals := 164 }) D (tyM cI cX) A (wM ad cI cX) [.ref (ad 0), .int v1, .int v2, .int v3, .int v4] σ (xQi D A (wM ad cI cX) r σ') := by
  refine xM_of (lv := [(0, .ref (ad 0)), (1, .int v1), (2, .int v2), (3, .int v3), (4, .int v4)]) [.ref (ad 0), .int v1, .int v2, .int v3, .int v4] (by decide) hD rfl (Nat.le_of_ble_eq_true rfl) ?_
  intro p e s m args below meth c X hr hl
  unfold mX9_hideOf at h
  refine x_aload_n (pc := 0) X dX9_hideOf_0 rfl 0 rfl ?_
  obtain ⟨σ1, hq1, h⟩ := xb1_some h
  refine x_callvV (pc := 1) (As := []) (rest := []) X (kX9_reads l X.2.2.2.2.2.2.2 F _ _ hq1) kvX9_127 rfl (qX9) ⟨rfl, rfl, Nat.le_of_ble_eq_true rfl, Nat.le_of_ble_eq_true rfl⟩ rfl rfl (Nat.le_of_ble_eq_true rfl) dX9_hideOf_1 ?_
  refine x_aload_n (pc := 4) X dX9_hideOf_4 rfl 0 rfl ?_
  refine x_aload_n (pc := 5) X dX9_hideOf_5 rfl 0 rfl ?_
  refine x_iload_n (pc := 6) X dX9_hideOf_6 rfl 1 rfl ?_
  refine x_iload_n (pc := 7) X dX9_hideOf_7 rfl 2 rfl ?_
  refine x_iload_n (pc := 8) X dX9_hideOf_8 rfl 3 rfl ?_
  refine x_iconst (pc := 9) (v := (-1)) X dX9_hideOf_9 (by decide) ?_
  refine x_iconst (pc := 10) (v := 1) X dX9_hideOf_10 (by decide) ?_
  refine x_aload_n (pc := 11) X dX9_hideOf_11 rfl 0 rfl ?_
  refine x_iload_n (pc := 12) X dX9_hideOf_12 rfl 1 rfl ?_
  obtain ⟨r13, σ13, hq13, h⟩ := xb2_some h
  refine x_calliV (pc := 13) (As := [.int v1]) (rest := [.int 1, .int (-1), .int v3, .int v2, .int v1, .ref (ad 0), .ref (ad 0)]) X (kX9_smellOf l X.2.2.2.2.2.2.2 F _ _ _ _ hq13) kvX9_133 rfl (qX9) ⟨rfl, rfl, Nat.le_of_ble_eq_true rfl, Nat.le_of_ble_eq_true rfl⟩ rfl rfl (Nat.le_of_ble_eq_true rfl) dX9_hideOf_13 ?_
  refine x_ishl (pc := 16) X dX9_hideOf_16 ?_
  obtain ⟨r17, σ17, hq17, h⟩ := xb2_some h
  refine x_calliV (pc := 17) (As := [.int v1, .int v2, .int v3, .int (-1), .int (1 <<< (r13 &&& 31))]) (rest := [.ref (ad 0)]) X (kX9_sitsMore l X.2.2.2.2.2.2.2 F _ _ _ _ _ _ _ _ hq17) kvX9_250 rfl (qX9) ⟨rfl, rfl, Nat.le_of_ble_eq_true rfl, Nat.le_of_ble_eq_true rfl⟩ rfl rfl (Nat.le_of_ble_eq_true rfl) dX9_hideOf_17 ?_
  refine x_iload (pc := 20) X dX9_hideOf_20 4 rfl ?_
  obtain ⟨r22, σ22, hq22, h⟩ := xb2_some h
  refine x_calliV (pc := 22) (As := [.int r17, .int v4]) (rest := []) X (kX9_ofRow l X.2.2.2.2.2.2.2 F _ _ _ _ _ hq22) kvX9_254 rfl (qX9) ⟨rfl, rfl, Nat.le_of_ble_eq_true rfl, Nat.le_of_ble_eq_true rfl⟩ rfl rfl (Nat.le_of_ble_eq_true rfl) dX9_hideOf_22 ?_
  exact x_iret (pc := 25) X hr hl h dX9_hideOf_25
set_option maxRecDepth 100000 in
set_option maxHeartbeats 4000000 in
theorem wX9_hide_L46 {p : Program} {l : Launch} {e : Env} {s : State} {m : MethodId} {args : Array Value} {below : List Frame} {meth : Method} {c : Code} {D : va_G} {A : Nat → Prop} {ad : Nat → Nat} {cI cX : ClassId} {r : Int32} {σ' : xSt} (X : xX p s m args c cX9_hide 5 RX9 D (tyM cI cX) A (wM ad cI cX)) (hr : meth.sig.returnType = (some .int)) (hl : meth.locks = false) (F : Nat) (t0 : Int32) (σ : xSt) (h : mX9_hide_L46 F t0 σ = some (r, σ')) : xG p l e ({ frames := 8, cells := 0, slots := 0, locals := 188 }) s m args below meth c (MQ below (xQi D A (wM ad cI cX) r σ') args s 0 0 A) 5 D A (wM ad cI cX) σ 46 [] [.int t0] := by
  unfold mX9_hide_L46 at h
  exact x_iret (pc := 46) X hr hl h dX9_hide_46
set_option maxRecDepth 100000 in
set_option maxHeartbeats 4000000 in
theorem wX9_hide_L44 {p : Program} {l : Launch} {e : Env} {s : State} {m : MethodId} {args : Array Value} {below : List Frame} {meth : Method} {c : Code} {D : va_G} {A : Nat → Prop} {ad : Nat → Nat} {cI cX : ClassId} {r : Int32} {σ' : xSt} (X : xX p s m args c cX9_hide 5 RX9 D (tyM cI cX) A (wM ad cI cX)) (hr : meth.sig.returnType = (some .int)) (hl : meth.locks = false) (F : Nat) (σ : xSt) (h : mX9_hide_L44 F σ = some (r, σ')) : xG p l e ({ frames := 8, cells := 0, slots := 0, locals := 188 }) s m args below meth c (MQ below (xQi D A (wM ad cI cX) r σ') args s 0 0 A) 5 D A (wM ad cI cX) σ 44 [] [] := by
  unfold mX9_hide_L44 at h
  refine x_bipush (pc := 44) (v := (-2)) X dX9_hide_44 (by decide) ?_
  refine x_sub [] rfl ?_
  exact wX9_hide_L46 X hr hl F _ _ h
set_option maxRecDepth 100000 in
set_option maxHeartbeats 4000000 in
theorem kX9_hide (l : Launch) {D : va_G} {A : Nat → Prop} {ad : Nat → Nat} {cI cX : ClassId} (hD : ∀ σ, va_D A ((wM ad cI cX) σ)) (F : Nat) (v1 : Int32) (v2 : Int32) (v3 : Int32) (v4 : Int32) (σ : xSt) (r : Int32) (σ' : xSt) (h : mX9_hide F v1 v2 v3 v4 σ = some (r, σ')) : xM l yX9_hide cX9_hide 5 (some .int) ({ frames := 8, cells := 0, slots := 0, locals := 188 }) D (tyM cI cX) A (wM ad cI cX) [.ref (ad 0), .int v1, .int v2, .int v3, .int v4] σ (xQi D A (wM ad cI cX) r σ') := by
  refine xM_of (lv := [(0, .ref (ad 0)), (1, .int v1), (2, .int v2), (3, .int v3), (4, .int v4)]) [.ref (ad 0), .int v1, .int v2, .int v3, .int v4] (by decide) hD rfl (Nat.le_of_ble_eq_true rfl) ?_
  intro p e s m args below meth c X hr hl
  unfold mX9_hide at h
  refine x_aload_n (pc := 0) X dX9_hide_0 rfl 0 rfl ?_
  refine x_iload_n (pc := 1) X dX9_hide_1 rfl 1 rfl ?_
  obtain ⟨r2, σ2, hq2, h⟩ := xb2_some h
  refine x_calliV (pc := 2) (As := [.int v1]) (rest := []) X (kX9_isPerson l X.2.2.2.2.2.2.2 F _ _ _ _ hq2) kvX9_136 rfl (qX9) ⟨rfl, rfl, Nat.le_of_ble_eq_true rfl, Nat.le_of_ble_eq_true rfl⟩ rfl rfl (Nat.le_of_ble_eq_true rfl) dX9_hide_2 ?_
  refine x_if_eq (pc := 5) X 44 dX9_hide_5 (by decide) (fun hc => ?_) (fun hc => ?_)
  · have h := xit hc h
    refine x_sub [] rfl ?_
    exact wX9_hide_L44 X hr hl F _ h
  · have h := xif hc h
    refine x_iload_n (pc := 8) X dX9_hide_8 rfl 2 rfl ?_
    obtain ⟨r9, σ9, hq9, h⟩ := xb2_some h
    refine x_calliS (pc := 9) (As := [.int v2]) (rest := []) X (kX9_isHour l X.2.2.2.2.2.2.2 F _ _ _ _ hq9) kvX9_142 ⟨rfl, rfl, Nat.le_of_ble_eq_true rfl, Nat.le_of_ble_eq_true rfl⟩ rfl rfl (Nat.le_of_ble_eq_true rfl) dX9_hide_9 ?_
    refine x_if_eq (pc := 12) X 44 dX9_hide_12 (by decide) (fun hc => ?_) (fun hc => ?_)
    · have h := xit hc h
      refine x_sub [] rfl ?_
      exact wX9_hide_L44 X hr hl F _ h
    · have h := xif hc h
      refine x_iload_n (pc := 15) X dX9_hide_15 rfl 3 rfl ?_
      obtain ⟨r16, σ16, hq16, h⟩ := xb2_some h
      refine x_calliS (pc := 16) (As := [.int v3]) (rest := []) X (kX9_isHour l X.2.2.2.2.2.2.2 F _ _ _ _ hq16) kvX9_142 ⟨rfl, rfl, Nat.le_of_ble_eq_true rfl, Nat.le_of_ble_eq_true rfl⟩ rfl rfl (Nat.le_of_ble_eq_true rfl) dX9_hide_16 ?_
      refine x_if_eq (pc := 19) X 44 dX9_hide_19 (by decide) (fun hc => ?_) (fun hc => ?_)
      · have h := xit hc h
        refine x_sub [] rfl ?_
        exact wX9_hide_L44 X hr hl F _ h
      · have h := xif hc h
        refine x_iload (pc := 22) X dX9_hide_22 4 rfl ?_
        refine x_iconst (pc := 24) (v := (-1)) X dX9_hide_24 (by decide) ?_
        refine x_iconst (pc := 25) (v := 1) X dX9_hide_25 (by decide) ?_
        obtain ⟨r26, σ26, hq26, h⟩ := xb2_some h
        refine x_calliS (pc := 26) (As := [.int v4, .int (-1), .int 1]) (rest := []) X (kX9_in l X.2.2.2.2.2.2.2 F _ _ _ _ _ _ hq26) kvX9_97 ⟨rfl, rfl, Nat.le_of_ble_eq_true rfl, Nat.le_of_ble_eq_true rfl⟩ rfl rfl (Nat.le_of_ble_eq_true rfl) dX9_hide_26 ?_
        refine x_if_eq (pc := 29) X 44 dX9_hide_29 (by decide) (fun hc => ?_) (fun hc => ?_)
        · have h := xit hc h
          refine x_sub [] rfl ?_
          exact wX9_hide_L44 X hr hl F _ h
        · have h := xif hc h
          refine x_aload_n (pc := 32) X dX9_hide_32 rfl 0 rfl ?_
          refine x_iload_n (pc := 33) X dX9_hide_33 rfl 1 rfl ?_
          refine x_iload_n (pc := 34) X dX9_hide_34 rfl 2 rfl ?_
          refine x_iload_n (pc := 35) X dX9_hide_35 rfl 3 rfl ?_
          refine x_iload (pc := 36) X dX9_hide_36 4 rfl ?_
          obtain ⟨r38, σ38, hq38, h⟩ := xb2_some h
          refine x_calliV (pc := 38) (As := [.int v1, .int v2, .int v3, .int v4]) (rest := []) X (kX9_hideOf l X.2.2.2.2.2.2.2 F _ _ _ _ _ _ _ hq38) kvX9_257 rfl (qX9) ⟨rfl, rfl, Nat.le_of_ble_eq_true rfl, Nat.le_of_ble_eq_true rfl⟩ rfl rfl (Nat.le_of_ble_eq_true rfl) dX9_hide_38 ?_
          refine x_goto (pc := 41) X 46 dX9_hide_41 (by decide) ?_
          refine x_sub [] rfl ?_
          exact wX9_hide_L46 X hr hl F _ _ h
set_option maxRecDepth 100000 in
set_option maxHeartbeats 4000000 in
theorem kX9_frameOf (l : Launch) {D : va_G} {A : Nat → Prop} {ad : Nat → Nat} {cI cX : ClassId} (hD : ∀ σ, va_D A ((wM ad cI cX) σ)) (F : Nat) (v1 : Int32) (v2 : Int32) (v3 : Int32) (v4 : Int32) (v5 : Int32) (σ : xSt) (r : Int32) (σ' : xSt) (h : mX9_frameOf F v1 v2 v3 v4 v5 σ = some (r, σ')) : xM l yX9_frameOf cX9_frameOf 6 (some .int) ({ frames := 7, cells := 0, slots := 0, locals := 164 }) D (tyM cI cX) A (wM ad cI cX) [.ref (ad 0), .int v1, .int v2, .int v3, .int v4, .int v5] σ (xQi D A (wM ad cI cX) r σ') := by
  refine xM_of (lv := [(0, .ref (ad 0)), (1, .int v1), (2, .int v2), (3, .int v3), (4, .int v4), (5, .int v5)]) [.ref (ad 0), .int v1, .int v2, .int v3, .int v4, .int v5] (by decide) hD rfl (Nat.le_of_ble_eq_true rfl) ?_
  intro p e s m args below meth c X hr hl
  unfold mX9_frameOf at h
  refine x_aload_n (pc := 0) X dX9_frameOf_0 rfl 0 rfl ?_
  obtain ⟨σ1, hq1, h⟩ := xb1_some h
  refine x_callvV (pc := 1) (As := []) (rest := []) X (kX9_reads l X.2.2.2.2.2.2.2 F _ _ hq1) kvX9_127 rfl (qX9) ⟨rfl, rfl, Nat.le_of_ble_eq_true rfl, Nat.le_of_ble_eq_true rfl⟩ rfl rfl (Nat.le_of_ble_eq_true rfl) dX9_frameOf_1 ?_
  refine x_aload_n (pc := 4) X dX9_frameOf_4 rfl 0 rfl ?_
  refine x_aload_n (pc := 5) X dX9_frameOf_5 rfl 0 rfl ?_
  refine x_iconst (pc := 6) (v := (-1)) X dX9_frameOf_6 (by decide) ?_
  refine x_iload_n (pc := 7) X dX9_frameOf_7 rfl 3 rfl ?_
  refine x_iload (pc := 8) X dX9_frameOf_8 4 rfl ?_
  refine x_iload_n (pc := 10) X dX9_frameOf_10 rfl 1 rfl ?_
  refine x_iload_n (pc := 11) X dX9_frameOf_11 rfl 2 rfl ?_
  obtain ⟨r12, σ12, hq12, h⟩ := xb2_some h
  refine x_calliV (pc := 12) (As := [.int (-1), .int v3, .int v4, .int v1, .int v2]) (rest := [.ref (ad 0)]) X (kX9_sitsMore l X.2.2.2.2.2.2.2 F _ _ _ _ _ _ _ _ hq12) kvX9_250 rfl (qX9) ⟨rfl, rfl, Nat.le_of_ble_eq_true rfl, Nat.le_of_ble_eq_true rfl⟩ rfl rfl (Nat.le_of_ble_eq_true rfl) dX9_frameOf_12 ?_
  refine x_iload (pc := 15) X dX9_frameOf_15 5 rfl ?_
  obtain ⟨r17, σ17, hq17, h⟩ := xb2_some h
  refine x_calliV (pc := 17) (As := [.int r12, .int v5]) (rest := []) X (kX9_ofRow l X.2.2.2.2.2.2.2 F _ _ _ _ _ hq17) kvX9_254 rfl (qX9) ⟨rfl, rfl, Nat.le_of_ble_eq_true rfl, Nat.le_of_ble_eq_true rfl⟩ rfl rfl (Nat.le_of_ble_eq_true rfl) dX9_frameOf_17 ?_
  exact x_iret (pc := 20) X hr hl h dX9_frameOf_20
set_option maxRecDepth 100000 in
set_option maxHeartbeats 4000000 in
theorem wX9_frame_L60 {p : Program} {l : Launch} {e : Env} {s : State} {m : MethodId} {args : Array Value} {below : List Frame} {meth : Method} {c : Code} {D : va_G} {A : Nat → Prop} {ad : Nat → Nat} {cI cX : ClassId} {r : Int32} {σ' : xSt} (X : xX p s m args c cX9_frame 6 RX9 D (tyM cI cX) A (wM ad cI cX)) (hr : meth.sig.returnType = (some .int)) (hl : meth.locks = false) (F : Nat) (t0 : Int32) (σ : xSt) (h : mX9_frame_L60 F t0 σ = some (r, σ')) : xG p l e ({ frames := 8, cells := 0, slots := 0, locals := 189 }) s m args below meth c (MQ below (xQi D A (wM ad cI cX) r σ') args s 0 0 A) 6 D A (wM ad cI cX) σ 60 [] [.int t0] := by
  unfold mX9_frame_L60 at h
  exact x_iret (pc := 60) X hr hl h dX9_frame_60
set_option maxRecDepth 100000 in
set_option maxHeartbeats 4000000 in
theorem wX9_frame_L58 {p : Program} {l : Launch} {e : Env} {s : State} {m : MethodId} {args : Array Value} {below : List Frame} {meth : Method} {c : Code} {D : va_G} {A : Nat → Prop} {ad : Nat → Nat} {cI cX : ClassId} {r : Int32} {σ' : xSt} (X : xX p s m args c cX9_frame 6 RX9 D (tyM cI cX) A (wM ad cI cX)) (hr : meth.sig.returnType = (some .int)) (hl : meth.locks = false) (F : Nat) (σ : xSt) (h : mX9_frame_L58 F σ = some (r, σ')) : xG p l e ({ frames := 8, cells := 0, slots := 0, locals := 189 }) s m args below meth c (MQ below (xQi D A (wM ad cI cX) r σ') args s 0 0 A) 6 D A (wM ad cI cX) σ 58 [] [] := by
  unfold mX9_frame_L58 at h
  refine x_bipush (pc := 58) (v := (-2)) X dX9_frame_58 (by decide) ?_
  refine x_sub [] rfl ?_
  exact wX9_frame_L60 X hr hl F _ _ h
set_option maxRecDepth 100000 in
set_option maxHeartbeats 4000000 in
theorem kX9_frame (l : Launch) {D : va_G} {A : Nat → Prop} {ad : Nat → Nat} {cI cX : ClassId} (hD : ∀ σ, va_D A ((wM ad cI cX) σ)) (F : Nat) (v1 : Int32) (v2 : Int32) (v3 : Int32) (v4 : Int32) (v5 : Int32) (σ : xSt) (r : Int32) (σ' : xSt) (h : mX9_frame F v1 v2 v3 v4 v5 σ = some (r, σ')) : xM l yX9_frame cX9_frame 6 (some .int) ({ frames := 8, cells := 0, slots := 0, locals := 189 }) D (tyM cI cX) A (wM ad cI cX) [.ref (ad 0), .int v1, .int v2, .int v3, .int v4, .int v5] σ (xQi D A (wM ad cI cX) r σ') := by
  refine xM_of (lv := [(0, .ref (ad 0)), (1, .int v1), (2, .int v2), (3, .int v3), (4, .int v4), (5, .int v5)]) [.ref (ad 0), .int v1, .int v2, .int v3, .int v4, .int v5] (by decide) hD rfl (Nat.le_of_ble_eq_true rfl) ?_
  intro p e s m args below meth c X hr hl
  unfold mX9_frame at h
  refine x_aload_n (pc := 0) X dX9_frame_0 rfl 0 rfl ?_
  refine x_iload_n (pc := 1) X dX9_frame_1 rfl 1 rfl ?_
  obtain ⟨r2, σ2, hq2, h⟩ := xb2_some h
  refine x_calliV (pc := 2) (As := [.int v1]) (rest := []) X (kX9_isThing l X.2.2.2.2.2.2.2 F _ _ _ _ hq2) kvX9_130 rfl (qX9) ⟨rfl, rfl, Nat.le_of_ble_eq_true rfl, Nat.le_of_ble_eq_true rfl⟩ rfl rfl (Nat.le_of_ble_eq_true rfl) dX9_frame_2 ?_
  refine x_if_eq (pc := 5) X 58 dX9_frame_5 (by decide) (fun hc => ?_) (fun hc => ?_)
  · have h := xit hc h
    refine x_sub [] rfl ?_
    exact wX9_frame_L58 X hr hl F _ h
  · have h := xif hc h
    refine x_iload_n (pc := 8) X dX9_frame_8 rfl 2 rfl ?_
    refine x_iconst (pc := 9) (v := 0) X dX9_frame_9 (by decide) ?_
    refine x_sipush (pc := 10) (v := 255) X dX9_frame_10 (by decide) ?_
    obtain ⟨r13, σ13, hq13, h⟩ := xb2_some h
    refine x_calliS (pc := 13) (As := [.int v2, .int 0, .int 255]) (rest := []) X (kX9_in l X.2.2.2.2.2.2.2 F _ _ _ _ _ _ hq13) kvX9_97 ⟨rfl, rfl, Nat.le_of_ble_eq_true rfl, Nat.le_of_ble_eq_true rfl⟩ rfl rfl (Nat.le_of_ble_eq_true rfl) dX9_frame_13 ?_
    refine x_if_eq (pc := 16) X 58 dX9_frame_16 (by decide) (fun hc => ?_) (fun hc => ?_)
    · have h := xit hc h
      refine x_sub [] rfl ?_
      exact wX9_frame_L58 X hr hl F _ h
    · have h := xif hc h
      refine x_iload_n (pc := 19) X dX9_frame_19 rfl 3 rfl ?_
      obtain ⟨r20, σ20, hq20, h⟩ := xb2_some h
      refine x_calliS (pc := 20) (As := [.int v3]) (rest := []) X (kX9_isHour l X.2.2.2.2.2.2.2 F _ _ _ _ hq20) kvX9_142 ⟨rfl, rfl, Nat.le_of_ble_eq_true rfl, Nat.le_of_ble_eq_true rfl⟩ rfl rfl (Nat.le_of_ble_eq_true rfl) dX9_frame_20 ?_
      refine x_if_eq (pc := 23) X 58 dX9_frame_23 (by decide) (fun hc => ?_) (fun hc => ?_)
      · have h := xit hc h
        refine x_sub [] rfl ?_
        exact wX9_frame_L58 X hr hl F _ h
      · have h := xif hc h
        refine x_iload (pc := 26) X dX9_frame_26 4 rfl ?_
        obtain ⟨r28, σ28, hq28, h⟩ := xb2_some h
        refine x_calliS (pc := 28) (As := [.int v4]) (rest := []) X (kX9_isHour l X.2.2.2.2.2.2.2 F _ _ _ _ hq28) kvX9_142 ⟨rfl, rfl, Nat.le_of_ble_eq_true rfl, Nat.le_of_ble_eq_true rfl⟩ rfl rfl (Nat.le_of_ble_eq_true rfl) dX9_frame_28 ?_
        refine x_if_eq (pc := 31) X 58 dX9_frame_31 (by decide) (fun hc => ?_) (fun hc => ?_)
        · have h := xit hc h
          refine x_sub [] rfl ?_
          exact wX9_frame_L58 X hr hl F _ h
        · have h := xif hc h
          refine x_iload (pc := 34) X dX9_frame_34 5 rfl ?_
          refine x_iconst (pc := 36) (v := (-1)) X dX9_frame_36 (by decide) ?_
          refine x_iconst (pc := 37) (v := 1) X dX9_frame_37 (by decide) ?_
          obtain ⟨r38, σ38, hq38, h⟩ := xb2_some h
          refine x_calliS (pc := 38) (As := [.int v5, .int (-1), .int 1]) (rest := []) X (kX9_in l X.2.2.2.2.2.2.2 F _ _ _ _ _ _ hq38) kvX9_97 ⟨rfl, rfl, Nat.le_of_ble_eq_true rfl, Nat.le_of_ble_eq_true rfl⟩ rfl rfl (Nat.le_of_ble_eq_true rfl) dX9_frame_38 ?_
          refine x_if_eq (pc := 41) X 58 dX9_frame_41 (by decide) (fun hc => ?_) (fun hc => ?_)
          · have h := xit hc h
            refine x_sub [] rfl ?_
            exact wX9_frame_L58 X hr hl F _ h
          · have h := xif hc h
            refine x_aload_n (pc := 44) X dX9_frame_44 rfl 0 rfl ?_
            refine x_iload_n (pc := 45) X dX9_frame_45 rfl 1 rfl ?_
            refine x_iload_n (pc := 46) X dX9_frame_46 rfl 2 rfl ?_
            refine x_iload_n (pc := 47) X dX9_frame_47 rfl 3 rfl ?_
            refine x_iload (pc := 48) X dX9_frame_48 4 rfl ?_
            refine x_iload (pc := 50) X dX9_frame_50 5 rfl ?_
            obtain ⟨r52, σ52, hq52, h⟩ := xb2_some h
            refine x_calliV (pc := 52) (As := [.int v1, .int v2, .int v3, .int v4, .int v5]) (rest := []) X (kX9_frameOf l X.2.2.2.2.2.2.2 F _ _ _ _ _ _ _ _ hq52) kvX9_261 rfl (qX9) ⟨rfl, rfl, Nat.le_of_ble_eq_true rfl, Nat.le_of_ble_eq_true rfl⟩ rfl rfl (Nat.le_of_ble_eq_true rfl) dX9_frame_52 ?_
            refine x_goto (pc := 55) X 60 dX9_frame_55 (by decide) ?_
            refine x_sub [] rfl ?_
            exact wX9_frame_L60 X hr hl F _ _ h
set_option maxRecDepth 100000 in
set_option maxHeartbeats 4000000 in
theorem wX9_addsWindow_L35 {p : Program} {l : Launch} {e : Env} {s : State} {m : MethodId} {args : Array Value} {below : List Frame} {meth : Method} {c : Code} {D : va_G} {A : Nat → Prop} {ad : Nat → Nat} {cI cX : ClassId} {σ' : xSt} (X : xX p s m args c cX9_addsWindow 3 RX9 D (tyM cI cX) A (wM ad cI cX)) (hr : meth.sig.returnType = none) (hl : meth.locks = false) (F : Nat) (σ : xSt) (h : mX9_addsWindow_L35 F σ = some σ') : xG p l e ({ frames := 0, cells := 0, slots := 0, locals := 0 }) s m args below meth c (MQ below (xQv D A (wM ad cI cX) σ') args s 0 0 A) 3 D A (wM ad cI cX) σ 35 [] [] := by
  unfold mX9_addsWindow_L35 at h
  exact x_vret (pc := 35) X hr hl h dX9_addsWindow_35
set_option maxRecDepth 100000 in
set_option maxHeartbeats 4000000 in
theorem kX9_addsWindow (l : Launch) {D : va_G} {A : Nat → Prop} {ad : Nat → Nat} {cI cX : ClassId} (hD : ∀ σ, va_D A ((wM ad cI cX) σ)) (F : Nat) (v1 : Int32) (v2 : Int32) (σ : xSt) (σ' : xSt) (h : mX9_addsWindow F v1 v2 σ = some σ') : xM l yX9_addsWindow cX9_addsWindow 3 none ({ frames := 0, cells := 0, slots := 0, locals := 0 }) D (tyM cI cX) A (wM ad cI cX) [.ref (ad 0), .int v1, .int v2] σ (xQv D A (wM ad cI cX) σ') := by
  refine xM_of (lv := [(0, .ref (ad 0)), (1, .int v1), (2, .int v2)]) [.ref (ad 0), .int v1, .int v2] (by decide) hD rfl (Nat.le_of_ble_eq_true rfl) ?_
  intro p e s m args below meth c X hr hl
  unfold mX9_addsWindow at h
  refine x_iload_n (pc := 0) X dX9_addsWindow_0 rfl 2 rfl ?_
  refine x_iconst (pc := 1) (v := (-1)) X dX9_addsWindow_1 (by decide) ?_
  refine x_icmp_eq (pc := 2) X 35 dX9_addsWindow_2 (by decide) (fun hc => ?_) (fun hc => ?_)
  · have h := xit hc h
    refine x_sub [] rfl ?_
    exact wX9_addsWindow_L35 X hr hl F _ h
  · have h := xif hc h
    refine x_aload_n (pc := 5) X dX9_addsWindow_5 rfl 0 rfl ?_
    refine gX9_43 (pc := 6) X dX9_addsWindow_6 ?_
    refine x_aload_n (pc := 9) X dX9_addsWindow_9 rfl 0 rfl ?_
    refine gX9_173 (pc := 10) X dX9_addsWindow_10 ?_
    refine x_iload_n (pc := 13) X dX9_addsWindow_13 rfl 1 rfl ?_
    obtain ⟨hb14, h⟩ := xck_some h
    refine x_iast (pc := 14) (σ' := (xsA σ 15 (Int32.toNatClampNeg (xI σ 21)) v1)) X 12 0 (qaX9_winHour) rfl (saX9_winHour _) hb14 dX9_addsWindow_14 ?_
    refine x_aload_n (pc := 15) X dX9_addsWindow_15 rfl 0 rfl ?_
    refine gX9_46 (pc := 16) X dX9_addsWindow_16 ?_
    refine x_aload_n (pc := 19) X dX9_addsWindow_19 rfl 0 rfl ?_
    refine gX9_173 (pc := 20) X dX9_addsWindow_20 ?_
    refine x_iload_n (pc := 23) X dX9_addsWindow_23 rfl 2 rfl ?_
    obtain ⟨hb24, h⟩ := xck_some h
    refine x_iast (pc := 24) (σ' := (xsA (xsA σ 15 (Int32.toNatClampNeg (xI σ 21)) v1) 16 (Int32.toNatClampNeg (xI (xsA σ 15 (Int32.toNatClampNeg (xI σ 21)) v1) 21)) v2)) X 13 0 (qaX9_winThing) rfl (saX9_winThing _) hb24 dX9_addsWindow_24 ?_
    refine x_aload_n (pc := 25) X dX9_addsWindow_25 rfl 0 rfl ?_
    refine x_dup (pc := 26) X dX9_addsWindow_26 rfl ?_
    refine gX9_173 (pc := 27) X dX9_addsWindow_27 ?_
    refine x_iconst (pc := 30) (v := 1) X dX9_addsWindow_30 (by decide) ?_
    refine x_iadd (pc := 31) X dX9_addsWindow_31 ?_
    refine uX9_173 (pc := 32) X dX9_addsWindow_32 ?_
    refine x_sub [] rfl ?_
    exact wX9_addsWindow_L35 X hr hl F _ h
set_option maxRecDepth 100000 in
set_option maxHeartbeats 4000000 in
theorem wX9_doesAir_L108 {p : Program} {l : Launch} {e : Env} {s : State} {m : MethodId} {args : Array Value} {below : List Frame} {meth : Method} {c : Code} {D : va_G} {A : Nat → Prop} {ad : Nat → Nat} {cI cX : ClassId} {r : Int32} {σ' : xSt} (X : xX p s m args c cX9_doesAir 9 RX9 D (tyM cI cX) A (wM ad cI cX)) (hr : meth.sig.returnType = (some .boolean)) (hl : meth.locks = false) (F : Nat) (t0 : Int32) (σ : xSt) (h : mX9_doesAir_L108 F t0 σ = some (r, σ')) : xG p l e ({ frames := 5, cells := 0, slots := 0, locals := 111 }) s m args below meth c (MQ below (xQi D A (wM ad cI cX) r σ') args s 0 0 A) 9 D A (wM ad cI cX) σ 108 [] [.int t0] := by
  unfold mX9_doesAir_L108 at h
  obtain ⟨hb108, h⟩ := xck_some h
  exact x_zret (pc := 108) X hr hl hb108 h dX9_doesAir_108
set_option maxRecDepth 100000 in
set_option maxHeartbeats 4000000 in
theorem wX9_doesAir_L98 {p : Program} {l : Launch} {e : Env} {s : State} {m : MethodId} {args : Array Value} {below : List Frame} {meth : Method} {c : Code} {D : va_G} {A : Nat → Prop} {ad : Nat → Nat} {cI cX : ClassId} {r : Int32} {σ' : xSt} (X : xX p s m args c cX9_doesAir 9 RX9 D (tyM cI cX) A (wM ad cI cX)) (hr : meth.sig.returnType = (some .boolean)) (hl : meth.locks = false) (F : Nat) (v7 : Int32) (σ : xSt) (h : mX9_doesAir_L98 F v7 σ = some (r, σ')) : xG p l e ({ frames := 5, cells := 0, slots := 0, locals := 111 }) s m args below meth c (MQ below (xQi D A (wM ad cI cX) r σ') args s 0 0 A) 9 D A (wM ad cI cX) σ 98 [(7, .int v7)] [] := by
  unfold mX9_doesAir_L98 at h
  refine x_iload (pc := 98) X dX9_doesAir_98 0 rfl ?_
  refine x_if_ne (pc := 100) X 107 dX9_doesAir_100 (by decide) (fun hc => ?_) (fun hc => ?_)
  · have h := xif hc h
    refine x_iconst (pc := 107) (v := 0) X dX9_doesAir_107 (by decide) ?_
    refine x_sub [] rfl ?_
    exact wX9_doesAir_L108 X hr hl F _ _ h
  · have h := xit hc h
    refine x_iconst (pc := 103) (v := 1) X dX9_doesAir_103 (by decide) ?_
    refine x_goto (pc := 104) X 108 dX9_doesAir_104 (by decide) ?_
    refine x_sub [] rfl ?_
    exact wX9_doesAir_L108 X hr hl F _ _ h
set_option maxRecDepth 100000 in
set_option maxHeartbeats 4000000 in
theorem wX9_doesAir_L89 {p : Program} {l : Launch} {e : Env} {s : State} {m : MethodId} {args : Array Value} {below : List Frame} {meth : Method} {c : Code} {D : va_G} {A : Nat → Prop} {ad : Nat → Nat} {cI cX : ClassId} {r : Int32} {σ' : xSt} {c58 : Int32 → Int32 → Int32 → xSt → Option (Int32 × xSt)} (X : xX p s m args c cX9_doesAir 9 RX9 D (tyM cI cX) A (wM ad cI cX)) (hr : meth.sig.returnType = (some .boolean)) (hl : meth.locks = false) (F : Nat) (hc58 : ∀ (v4 : Int32) (v7 : Int32) (v8 : Int32) (σ : xSt), c58 v4 v7 v8 σ = some (r, σ') → xG p l e ({ frames := 5, cells := 0, slots := 0, locals := 111 }) s m args below meth c (MQ below (xQi D A (wM ad cI cX) r σ') args s 0 0 A) 9 D A (wM ad cI cX) σ 58 [(0, .ref (ad 0)), (4, .int v4), (7, .int v7), (8, .int v8)] []) (v4 : Int32) (v8 : Int32) (t0 : Int32) (t1 : Int32) (σ : xSt) (h : mX9_doesAir_L89 F c58 v4 v8 t0 t1 σ = some (r, σ')) : xG p l e ({ frames := 5, cells := 0, slots := 0, locals := 111 }) s m args below meth c (MQ below (xQi D A (wM ad cI cX) r σ') args s 0 0 A) 9 D A (wM ad cI cX) σ 89 [(0, .ref (ad 0)), (4, .int v4), (8, .int v8)] [.int t1, .int t0] := by
  unfold mX9_doesAir_L89 at h
  refine x_ior (pc := 89) X dX9_doesAir_89 ?_
  refine x_istore (pc := 90) (lv' := [(7, .int (t0 ||| t1)), (0, .ref (ad 0)), (4, .int v4), (8, .int v8)]) X dX9_doesAir_90 (by decide) rfl ?_
  refine x_iinc (pc := 92) (v := (v8 + 1)) (lv' := [(8, .int (v8 + 1)), (7, .int (t0 ||| t1)), (0, .ref (ad 0)), (4, .int v4)]) X dX9_doesAir_92 3 rfl rfl (by decide) rfl ?_
  refine x_goto (pc := 95) X 58 dX9_doesAir_95 (by decide) ?_
  refine x_sub [2, 3, 1, 0] rfl ?_
  exact hc58 _ _ _ _ h
set_option maxRecDepth 100000 in
set_option maxHeartbeats 4000000 in
theorem wX9_doesAir_S58 {p : Program} {l : Launch} {e : Env} {s : State} {m : MethodId} {args : Array Value} {below : List Frame} {meth : Method} {c : Code} {D : va_G} {A : Nat → Prop} {ad : Nat → Nat} {cI cX : ClassId} {r : Int32} {σ' : xSt} {c58 : Int32 → Int32 → Int32 → xSt → Option (Int32 × xSt)} (X : xX p s m args c cX9_doesAir 9 RX9 D (tyM cI cX) A (wM ad cI cX)) (hr : meth.sig.returnType = (some .boolean)) (hl : meth.locks = false) (F : Nat) (hc58 : ∀ (v4 : Int32) (v7 : Int32) (v8 : Int32) (σ : xSt), c58 v4 v7 v8 σ = some (r, σ') → xG p l e ({ frames := 5, cells := 0, slots := 0, locals := 111 }) s m args below meth c (MQ below (xQi D A (wM ad cI cX) r σ') args s 0 0 A) 9 D A (wM ad cI cX) σ 58 [(0, .ref (ad 0)), (4, .int v4), (7, .int v7), (8, .int v8)] []) (v4 : Int32) (v7 : Int32) (v8 : Int32) (σ : xSt) (h : mX9_doesAir_S58 F c58 v4 v7 v8 σ = some (r, σ')) : xG p l e ({ frames := 5, cells := 0, slots := 0, locals := 111 }) s m args below meth c (MQ below (xQi D A (wM ad cI cX) r σ') args s 0 0 A) 9 D A (wM ad cI cX) σ 58 [(0, .ref (ad 0)), (4, .int v4), (7, .int v7), (8, .int v8)] [] := by
  unfold mX9_doesAir_S58 at h
  refine x_iload (pc := 58) X dX9_doesAir_58 3 rfl ?_
  refine x_aload_n (pc := 60) X dX9_doesAir_60 rfl 0 rfl ?_
  refine gX9_109 (pc := 61) X dX9_doesAir_61 ?_
  refine x_icmp_ge (pc := 64) X 98 dX9_doesAir_64 (by decide) (fun hc => ?_) (fun hc => ?_)
  · have h := xit hc h
    refine x_sub [2] rfl ?_
    exact wX9_doesAir_L98 X hr hl F _ _ h
  · have h := xif hc h
    refine x_iload (pc := 67) X dX9_doesAir_67 2 rfl ?_
    refine x_iload (pc := 69) X dX9_doesAir_69 1 rfl ?_
    refine x_iload (pc := 71) X dX9_doesAir_71 3 rfl ?_
    obtain ⟨r73, σ73, hq73, h⟩ := xb2_some h
    refine x_calliS (pc := 73) (As := [.int v4, .int v8]) (rest := [.int v7]) X (kX9_isIn l X.2.2.2.2.2.2.2 F _ _ _ _ _ hq73) kvX9_199 ⟨rfl, rfl, Nat.le_of_ble_eq_true rfl, Nat.le_of_ble_eq_true rfl⟩ rfl rfl (Nat.le_of_ble_eq_true rfl) dX9_doesAir_73 ?_
    refine x_if_eq (pc := 76) X 88 dX9_doesAir_76 (by decide) (fun hc => ?_) (fun hc => ?_)
    · have h := xit hc h
      refine x_iconst (pc := 88) (v := 0) X dX9_doesAir_88 (by decide) ?_
      refine x_sub [0, 1, 3] rfl ?_
      exact wX9_doesAir_L89 X hr hl F hc58 _ _ _ _ _ h
    · have h := xif hc h
      refine x_aload_n (pc := 79) X dX9_doesAir_79 rfl 0 rfl ?_
      refine x_iload (pc := 80) X dX9_doesAir_80 3 rfl ?_
      obtain ⟨r82, σ82, hq82, h⟩ := xb2_some h
      refine x_calliV (pc := 82) (As := [.int v8]) (rest := [.int v7]) X (kX9_tellsNow l X.2.2.2.2.2.2.2 F _ _ _ _ hq82) kvX9_215 rfl (qX9) ⟨rfl, rfl, Nat.le_of_ble_eq_true rfl, Nat.le_of_ble_eq_true rfl⟩ rfl rfl (Nat.le_of_ble_eq_true rfl) dX9_doesAir_82 ?_
      refine x_goto (pc := 85) X 89 dX9_doesAir_85 (by decide) ?_
      refine x_sub [0, 1, 3] rfl ?_
      exact wX9_doesAir_L89 X hr hl F hc58 _ _ _ _ _ h
theorem wX9_doesAir_L58 {p : Program} {l : Launch} {e : Env} {s : State} {m : MethodId} {args : Array Value} {below : List Frame} {meth : Method} {c : Code} {D : va_G} {A : Nat → Prop} {ad : Nat → Nat} {cI cX : ClassId} {r : Int32} {σ' : xSt} (X : xX p s m args c cX9_doesAir 9 RX9 D (tyM cI cX) A (wM ad cI cX)) (hr : meth.sig.returnType = (some .boolean)) (hl : meth.locks = false) (F : Nat) : ∀ (n : Nat) (v4 : Int32) (v7 : Int32) (v8 : Int32) (σ : xSt), mX9_doesAir_L58 F n v4 v7 v8 σ = some (r, σ') → xG p l e ({ frames := 5, cells := 0, slots := 0, locals := 111 }) s m args below meth c (MQ below (xQi D A (wM ad cI cX) r σ') args s 0 0 A) 9 D A (wM ad cI cX) σ 58 [(0, .ref (ad 0)), (4, .int v4), (7, .int v7), (8, .int v8)] [] := by
  intro n
  induction n with
  | zero => intro v4 v7 v8 σ h; cases h
  | succ n ih => intro v4 v7 v8 σ h; exact wX9_doesAir_S58 X hr hl F ih v4 v7 v8 σ h
set_option maxRecDepth 100000 in
set_option maxHeartbeats 4000000 in
theorem kX9_doesAir (l : Launch) {D : va_G} {A : Nat → Prop} {ad : Nat → Nat} {cI cX : ClassId} (hD : ∀ σ, va_D A ((wM ad cI cX) σ)) (F : Nat) (v1 : Int32) (v2 : Int32) (v3 : Int32) (v4 : Int32) (v5 : Int32) (v6 : Int32) (σ : xSt) (r : Int32) (σ' : xSt) (h : mX9_doesAir F v1 v2 v3 v4 v5 v6 σ = some (r, σ')) : xM l yX9_doesAir cX9_doesAir 9 (some .boolean) ({ frames := 5, cells := 0, slots := 0, locals := 111 }) D (tyM cI cX) A (wM ad cI cX) [.ref (ad 0), .int v1, .int v2, .int v3, .int v4, .int v5, .int v6] σ (xQi D A (wM ad cI cX) r σ') := by
  refine xM_of (lv := [(0, .ref (ad 0)), (1, .int v1), (2, .int v2), (3, .int v3), (4, .int v4), (5, .int v5), (6, .int v6)]) [.ref (ad 0), .int v1, .int v2, .int v3, .int v4, .int v5, .int v6] (by decide) hD rfl (Nat.le_of_ble_eq_true rfl) ?_
  intro p e s m args below meth c X hr hl
  unfold mX9_doesAir at h
  refine x_aload_n (pc := 0) X dX9_doesAir_0 rfl 0 rfl ?_
  obtain ⟨σ1, hq1, h⟩ := xb1_some h
  refine x_callvV (pc := 1) (As := []) (rest := []) X (kX9_asTold l X.2.2.2.2.2.2.2 F _ _ hq1) kvX9_209 rfl (qX9) ⟨rfl, rfl, Nat.le_of_ble_eq_true rfl, Nat.le_of_ble_eq_true rfl⟩ rfl rfl (Nat.le_of_ble_eq_true rfl) dX9_doesAir_1 ?_
  refine x_aload_n (pc := 4) X dX9_doesAir_4 rfl 0 rfl ?_
  refine x_iload (pc := 5) X dX9_doesAir_5 5 rfl ?_
  refine x_iload_n (pc := 7) X dX9_doesAir_7 rfl 1 rfl ?_
  obtain ⟨σ8, hq8, h⟩ := xb1_some h
  refine x_callvV (pc := 8) (As := [.int v5, .int v1]) (rest := []) X (kX9_addsWindow l X.2.2.2.2.2.2.2 F _ _ _ _ hq8) kvX9_264 rfl (qX9) ⟨rfl, rfl, Nat.le_of_ble_eq_true rfl, Nat.le_of_ble_eq_true rfl⟩ rfl rfl (Nat.le_of_ble_eq_true rfl) dX9_doesAir_8 ?_
  refine x_aload_n (pc := 11) X dX9_doesAir_11 rfl 0 rfl ?_
  refine x_iload (pc := 12) X dX9_doesAir_12 5 rfl ?_
  refine x_iload_n (pc := 14) X dX9_doesAir_14 rfl 2 rfl ?_
  obtain ⟨σ15, hq15, h⟩ := xb1_some h
  refine x_callvV (pc := 15) (As := [.int v5, .int v2]) (rest := []) X (kX9_addsWindow l X.2.2.2.2.2.2.2 F _ _ _ _ hq15) kvX9_264 rfl (qX9) ⟨rfl, rfl, Nat.le_of_ble_eq_true rfl, Nat.le_of_ble_eq_true rfl⟩ rfl rfl (Nat.le_of_ble_eq_true rfl) dX9_doesAir_15 ?_
  refine x_aload_n (pc := 18) X dX9_doesAir_18 rfl 0 rfl ?_
  refine x_iload (pc := 19) X dX9_doesAir_19 5 rfl ?_
  refine x_iload_n (pc := 21) X dX9_doesAir_21 rfl 3 rfl ?_
  obtain ⟨σ22, hq22, h⟩ := xb1_some h
  refine x_callvV (pc := 22) (As := [.int v5, .int v3]) (rest := []) X (kX9_addsWindow l X.2.2.2.2.2.2.2 F _ _ _ _ hq22) kvX9_264 rfl (qX9) ⟨rfl, rfl, Nat.le_of_ble_eq_true rfl, Nat.le_of_ble_eq_true rfl⟩ rfl rfl (Nat.le_of_ble_eq_true rfl) dX9_doesAir_22 ?_
  refine x_aload_n (pc := 25) X dX9_doesAir_25 rfl 0 rfl ?_
  refine x_iload (pc := 26) X dX9_doesAir_26 6 rfl ?_
  obtain ⟨σ28, hq28, h⟩ := xb1_some h
  refine x_callvV (pc := 28) (As := [.int v6]) (rest := []) X (kX9_runs l X.2.2.2.2.2.2.2 F _ _ _ hq28) kvX9_212 rfl (qX9) ⟨rfl, rfl, Nat.le_of_ble_eq_true rfl, Nat.le_of_ble_eq_true rfl⟩ rfl rfl (Nat.le_of_ble_eq_true rfl) dX9_doesAir_28 ?_
  refine x_aload_n (pc := 31) X dX9_doesAir_31 rfl 0 rfl ?_
  refine gX9_65 (pc := 32) X dX9_doesAir_32 ?_
  refine x_iconst (pc := 35) (v := 0) X dX9_doesAir_35 (by decide) ?_
  refine x_iload_n (pc := 36) X dX9_doesAir_36 rfl 1 rfl ?_
  obtain ⟨hb37, h⟩ := xck_some h
  refine x_iast (pc := 37) (σ' := (xsA σ28 26 (Int32.toNatClampNeg 0) v1)) X 19 0 (qaX9_planRow) rfl (saX9_planRow _) hb37 dX9_doesAir_37 ?_
  refine x_aload_n (pc := 38) X dX9_doesAir_38 rfl 0 rfl ?_
  refine gX9_65 (pc := 39) X dX9_doesAir_39 ?_
  refine x_iconst (pc := 42) (v := 1) X dX9_doesAir_42 (by decide) ?_
  refine x_iload_n (pc := 43) X dX9_doesAir_43 rfl 2 rfl ?_
  obtain ⟨hb44, h⟩ := xck_some h
  refine x_iast (pc := 44) (σ' := (xsA (xsA σ28 26 (Int32.toNatClampNeg 0) v1) 26 (Int32.toNatClampNeg 1) v2)) X 19 0 (qaX9_planRow) rfl (saX9_planRow _) hb44 dX9_doesAir_44 ?_
  refine x_aload_n (pc := 45) X dX9_doesAir_45 rfl 0 rfl ?_
  refine gX9_65 (pc := 46) X dX9_doesAir_46 ?_
  refine x_iconst (pc := 49) (v := 2) X dX9_doesAir_49 (by decide) ?_
  refine x_iload_n (pc := 50) X dX9_doesAir_50 rfl 3 rfl ?_
  obtain ⟨hb51, h⟩ := xck_some h
  refine x_iast (pc := 51) (σ' := (xsA (xsA (xsA σ28 26 (Int32.toNatClampNeg 0) v1) 26 (Int32.toNatClampNeg 1) v2) 26 (Int32.toNatClampNeg 2) v3)) X 19 0 (qaX9_planRow) rfl (saX9_planRow _) hb51 dX9_doesAir_51 ?_
  refine x_iconst (pc := 52) (v := 0) X dX9_doesAir_52 (by decide) ?_
  refine x_istore (pc := 53) (lv' := [(7, .int 0), (0, .ref (ad 0)), (1, .int v1), (2, .int v2), (3, .int v3), (4, .int v4), (5, .int v5), (6, .int v6)]) X dX9_doesAir_53 (by decide) rfl ?_
  refine x_iconst (pc := 55) (v := 0) X dX9_doesAir_55 (by decide) ?_
  refine x_istore (pc := 56) (lv' := [(8, .int 0), (7, .int 0), (0, .ref (ad 0)), (1, .int v1), (2, .int v2), (3, .int v3), (4, .int v4), (5, .int v5), (6, .int v6)]) X dX9_doesAir_56 (by decide) rfl ?_
  refine x_sub [2, 6, 1, 0] rfl ?_
  exact wX9_doesAir_L58 X hr hl F F _ _ _ _ h
set_option maxRecDepth 100000 in
set_option maxHeartbeats 4000000 in
theorem wX9_airsMore_L177 {p : Program} {l : Launch} {e : Env} {s : State} {m : MethodId} {args : Array Value} {below : List Frame} {meth : Method} {c : Code} {D : va_G} {A : Nat → Prop} {ad : Nat → Nat} {cI cX : ClassId} {r : Int32} {σ' : xSt} (X : xX p s m args c cX9_airsMore 7 RX9 D (tyM cI cX) A (wM ad cI cX)) (hr : meth.sig.returnType = (some .int)) (hl : meth.locks = false) (F : Nat) (σ : xSt) (h : mX9_airsMore_L177 F σ = some (r, σ')) : xG p l e ({ frames := 6, cells := 0, slots := 0, locals := 139 }) s m args below meth c (MQ below (xQi D A (wM ad cI cX) r σ') args s 0 0 A) 7 D A (wM ad cI cX) σ 177 [] [] := by
  unfold mX9_airsMore_L177 at h
  refine x_iconst (pc := 177) (v := (-1)) X dX9_airsMore_177 (by decide) ?_
  exact x_iret (pc := 178) X hr hl h dX9_airsMore_178
set_option maxRecDepth 100000 in
set_option maxHeartbeats 4000000 in
theorem wX9_airsMore_L171 {p : Program} {l : Launch} {e : Env} {s : State} {m : MethodId} {args : Array Value} {below : List Frame} {meth : Method} {c : Code} {D : va_G} {A : Nat → Prop} {ad : Nat → Nat} {cI cX : ClassId} {r : Int32} {σ' : xSt} {c106 : Int32 → Int32 → Int32 → Int32 → xSt → Option (Int32 × xSt)} (X : xX p s m args c cX9_airsMore 7 RX9 D (tyM cI cX) A (wM ad cI cX)) (hr : meth.sig.returnType = (some .int)) (hl : meth.locks = false) (F : Nat) (hc106 : ∀ (v1 : Int32) (v2 : Int32) (v3 : Int32) (v4 : Int32) (σ : xSt), c106 v1 v2 v3 v4 σ = some (r, σ') → xG p l e ({ frames := 6, cells := 0, slots := 0, locals := 139 }) s m args below meth c (MQ below (xQi D A (wM ad cI cX) r σ') args s 0 0 A) 7 D A (wM ad cI cX) σ 106 [(0, .ref (ad 0)), (1, .int v1), (2, .int v2), (3, .int v3), (4, .int v4)] []) (v1 : Int32) (v2 : Int32) (v3 : Int32) (v4 : Int32) (σ : xSt) (h : mX9_airsMore_L171 F c106 v1 v2 v3 v4 σ = some (r, σ')) : xG p l e ({ frames := 6, cells := 0, slots := 0, locals := 139 }) s m args below meth c (MQ below (xQi D A (wM ad cI cX) r σ') args s 0 0 A) 7 D A (wM ad cI cX) σ 171 [(0, .ref (ad 0)), (1, .int v1), (2, .int v2), (3, .int v3), (4, .int v4)] [] := by
  unfold mX9_airsMore_L171 at h
  refine x_iinc (pc := 171) (v := (v4 + 1)) (lv' := [(4, .int (v4 + 1)), (0, .ref (ad 0)), (1, .int v1), (2, .int v2), (3, .int v3)]) X dX9_airsMore_171 4 rfl rfl (by decide) rfl ?_
  refine x_goto (pc := 174) X 106 dX9_airsMore_174 (by decide) ?_
  refine x_sub [1, 2, 3, 4, 0] rfl ?_
  exact hc106 _ _ _ _ _ h
set_option maxRecDepth 100000 in
set_option maxHeartbeats 4000000 in
theorem wX9_airsMore_L165 {p : Program} {l : Launch} {e : Env} {s : State} {m : MethodId} {args : Array Value} {below : List Frame} {meth : Method} {c : Code} {D : va_G} {A : Nat → Prop} {ad : Nat → Nat} {cI cX : ClassId} {r : Int32} {σ' : xSt} {c106 : Int32 → Int32 → Int32 → Int32 → xSt → Option (Int32 × xSt)} {c119 : Int32 → Int32 → Int32 → Int32 → Int32 → xSt → Option (Int32 × xSt)} (X : xX p s m args c cX9_airsMore 7 RX9 D (tyM cI cX) A (wM ad cI cX)) (hr : meth.sig.returnType = (some .int)) (hl : meth.locks = false) (F : Nat) (hc106 : ∀ (v1 : Int32) (v2 : Int32) (v3 : Int32) (v4 : Int32) (σ : xSt), c106 v1 v2 v3 v4 σ = some (r, σ') → xG p l e ({ frames := 6, cells := 0, slots := 0, locals := 139 }) s m args below meth c (MQ below (xQi D A (wM ad cI cX) r σ') args s 0 0 A) 7 D A (wM ad cI cX) σ 106 [(0, .ref (ad 0)), (1, .int v1), (2, .int v2), (3, .int v3), (4, .int v4)] []) (hc119 : ∀ (v1 : Int32) (v2 : Int32) (v3 : Int32) (v4 : Int32) (v5 : Int32) (σ : xSt), c119 v1 v2 v3 v4 v5 σ = some (r, σ') → xG p l e ({ frames := 6, cells := 0, slots := 0, locals := 139 }) s m args below meth c (MQ below (xQi D A (wM ad cI cX) r σ') args s 0 0 A) 7 D A (wM ad cI cX) σ 119 [(0, .ref (ad 0)), (1, .int v1), (2, .int v2), (3, .int v3), (4, .int v4), (5, .int v5)] []) (v1 : Int32) (v2 : Int32) (v3 : Int32) (v4 : Int32) (v5 : Int32) (σ : xSt) (h : mX9_airsMore_L165 F c106 c119 v1 v2 v3 v4 v5 σ = some (r, σ')) : xG p l e ({ frames := 6, cells := 0, slots := 0, locals := 139 }) s m args below meth c (MQ below (xQi D A (wM ad cI cX) r σ') args s 0 0 A) 7 D A (wM ad cI cX) σ 165 [(0, .ref (ad 0)), (1, .int v1), (2, .int v2), (3, .int v3), (4, .int v4), (5, .int v5)] [] := by
  unfold mX9_airsMore_L165 at h
  refine x_iinc (pc := 165) (v := (v5 + 1)) (lv' := [(5, .int (v5 + 1)), (0, .ref (ad 0)), (1, .int v1), (2, .int v2), (3, .int v3), (4, .int v4)]) X dX9_airsMore_165 5 rfl rfl (by decide) rfl ?_
  refine x_goto (pc := 168) X 119 dX9_airsMore_168 (by decide) ?_
  refine x_sub [1, 2, 3, 4, 5, 0] rfl ?_
  exact hc119 _ _ _ _ _ _ h
set_option maxRecDepth 100000 in
set_option maxHeartbeats 4000000 in
theorem wX9_airsMore_L157 {p : Program} {l : Launch} {e : Env} {s : State} {m : MethodId} {args : Array Value} {below : List Frame} {meth : Method} {c : Code} {D : va_G} {A : Nat → Prop} {ad : Nat → Nat} {cI cX : ClassId} {r : Int32} {σ' : xSt} (X : xX p s m args c cX9_airsMore 7 RX9 D (tyM cI cX) A (wM ad cI cX)) (hr : meth.sig.returnType = (some .int)) (hl : meth.locks = false) (F : Nat) (σ : xSt) (h : mX9_airsMore_L157 F σ = some (r, σ')) : xG p l e ({ frames := 6, cells := 0, slots := 0, locals := 139 }) s m args below meth c (MQ below (xQi D A (wM ad cI cX) r σ') args s 0 0 A) 7 D A (wM ad cI cX) σ 157 [] [] := by
  unfold mX9_airsMore_L157 at h
  refine x_iconst (pc := 157) (v := 3) X dX9_airsMore_157 (by decide) ?_
  exact x_iret (pc := 158) X hr hl h dX9_airsMore_158
set_option maxRecDepth 100000 in
set_option maxHeartbeats 4000000 in
theorem wX9_airsMore_S132 {p : Program} {l : Launch} {e : Env} {s : State} {m : MethodId} {args : Array Value} {below : List Frame} {meth : Method} {c : Code} {D : va_G} {A : Nat → Prop} {ad : Nat → Nat} {cI cX : ClassId} {r : Int32} {σ' : xSt} {c106 : Int32 → Int32 → Int32 → Int32 → xSt → Option (Int32 × xSt)} {c119 : Int32 → Int32 → Int32 → Int32 → Int32 → xSt → Option (Int32 × xSt)} {c132 : Int32 → Int32 → Int32 → Int32 → Int32 → Int32 → xSt → Option (Int32 × xSt)} (X : xX p s m args c cX9_airsMore 7 RX9 D (tyM cI cX) A (wM ad cI cX)) (hr : meth.sig.returnType = (some .int)) (hl : meth.locks = false) (F : Nat) (hc106 : ∀ (v1 : Int32) (v2 : Int32) (v3 : Int32) (v4 : Int32) (σ : xSt), c106 v1 v2 v3 v4 σ = some (r, σ') → xG p l e ({ frames := 6, cells := 0, slots := 0, locals := 139 }) s m args below meth c (MQ below (xQi D A (wM ad cI cX) r σ') args s 0 0 A) 7 D A (wM ad cI cX) σ 106 [(0, .ref (ad 0)), (1, .int v1), (2, .int v2), (3, .int v3), (4, .int v4)] []) (hc119 : ∀ (v1 : Int32) (v2 : Int32) (v3 : Int32) (v4 : Int32) (v5 : Int32) (σ : xSt), c119 v1 v2 v3 v4 v5 σ = some (r, σ') → xG p l e ({ frames := 6, cells := 0, slots := 0, locals := 139 }) s m args below meth c (MQ below (xQi D A (wM ad cI cX) r σ') args s 0 0 A) 7 D A (wM ad cI cX) σ 119 [(0, .ref (ad 0)), (1, .int v1), (2, .int v2), (3, .int v3), (4, .int v4), (5, .int v5)] []) (hc132 : ∀ (v1 : Int32) (v2 : Int32) (v3 : Int32) (v4 : Int32) (v5 : Int32) (v6 : Int32) (σ : xSt), c132 v1 v2 v3 v4 v5 v6 σ = some (r, σ') → xG p l e ({ frames := 6, cells := 0, slots := 0, locals := 139 }) s m args below meth c (MQ below (xQi D A (wM ad cI cX) r σ') args s 0 0 A) 7 D A (wM ad cI cX) σ 132 [(0, .ref (ad 0)), (1, .int v1), (2, .int v2), (3, .int v3), (4, .int v4), (5, .int v5), (6, .int v6)] []) (v1 : Int32) (v2 : Int32) (v3 : Int32) (v4 : Int32) (v5 : Int32) (v6 : Int32) (σ : xSt) (h : mX9_airsMore_S132 F c106 c119 c132 v1 v2 v3 v4 v5 v6 σ = some (r, σ')) : xG p l e ({ frames := 6, cells := 0, slots := 0, locals := 139 }) s m args below meth c (MQ below (xQi D A (wM ad cI cX) r σ') args s 0 0 A) 7 D A (wM ad cI cX) σ 132 [(0, .ref (ad 0)), (1, .int v1), (2, .int v2), (3, .int v3), (4, .int v4), (5, .int v5), (6, .int v6)] [] := by
  unfold mX9_airsMore_S132 at h
  refine x_iload (pc := 132) X dX9_airsMore_132 6 rfl ?_
  refine x_aload_n (pc := 134) X dX9_airsMore_134 rfl 0 rfl ?_
  refine gX9_109 (pc := 135) X dX9_airsMore_135 ?_
  refine x_icmp_ge (pc := 138) X 165 dX9_airsMore_138 (by decide) (fun hc => ?_) (fun hc => ?_)
  · have h := xit hc h
    refine x_sub [0, 1, 2, 3, 4, 5] rfl ?_
    exact wX9_airsMore_L165 X hr hl F hc106 hc119 _ _ _ _ _ _ h
  · have h := xif hc h
    refine x_aload_n (pc := 141) X dX9_airsMore_141 rfl 0 rfl ?_
    refine x_iload (pc := 142) X dX9_airsMore_142 4 rfl ?_
    refine x_iload (pc := 144) X dX9_airsMore_144 5 rfl ?_
    refine x_iload (pc := 146) X dX9_airsMore_146 6 rfl ?_
    refine x_iload_n (pc := 148) X dX9_airsMore_148 rfl 1 rfl ?_
    refine x_iload_n (pc := 149) X dX9_airsMore_149 rfl 2 rfl ?_
    refine x_iload_n (pc := 150) X dX9_airsMore_150 rfl 3 rfl ?_
    obtain ⟨r151, σ151, hq151, h⟩ := xb2_some h
    refine x_calliV (pc := 151) (As := [.int v4, .int v5, .int v6, .int v1, .int v2, .int v3]) (rest := []) X (kX9_doesAir l X.2.2.2.2.2.2.2 F _ _ _ _ _ _ _ _ _ hq151) kvX9_267 rfl (qX9) ⟨rfl, rfl, Nat.le_of_ble_eq_true rfl, Nat.le_of_ble_eq_true rfl⟩ rfl rfl (Nat.le_of_ble_eq_true rfl) dX9_airsMore_151 ?_
    refine x_if_eq (pc := 154) X 159 dX9_airsMore_154 (by decide) (fun hc => ?_) (fun hc => ?_)
    · have h := xit hc h
      refine x_iinc (pc := 159) (v := (v6 + 1)) (lv' := [(6, .int (v6 + 1)), (0, .ref (ad 0)), (1, .int v1), (2, .int v2), (3, .int v3), (4, .int v4), (5, .int v5)]) X dX9_airsMore_159 6 rfl rfl (by decide) rfl ?_
      refine x_goto (pc := 162) X 132 dX9_airsMore_162 (by decide) ?_
      refine x_sub [1, 2, 3, 4, 5, 6, 0] rfl ?_
      exact hc132 _ _ _ _ _ _ _ h
    · have h := xif hc h
      refine x_sub [] rfl ?_
      exact wX9_airsMore_L157 X hr hl F _ h
theorem wX9_airsMore_L132 {p : Program} {l : Launch} {e : Env} {s : State} {m : MethodId} {args : Array Value} {below : List Frame} {meth : Method} {c : Code} {D : va_G} {A : Nat → Prop} {ad : Nat → Nat} {cI cX : ClassId} {r : Int32} {σ' : xSt} {c106 : Int32 → Int32 → Int32 → Int32 → xSt → Option (Int32 × xSt)} {c119 : Int32 → Int32 → Int32 → Int32 → Int32 → xSt → Option (Int32 × xSt)} (X : xX p s m args c cX9_airsMore 7 RX9 D (tyM cI cX) A (wM ad cI cX)) (hr : meth.sig.returnType = (some .int)) (hl : meth.locks = false) (F : Nat) (hc106 : ∀ (v1 : Int32) (v2 : Int32) (v3 : Int32) (v4 : Int32) (σ : xSt), c106 v1 v2 v3 v4 σ = some (r, σ') → xG p l e ({ frames := 6, cells := 0, slots := 0, locals := 139 }) s m args below meth c (MQ below (xQi D A (wM ad cI cX) r σ') args s 0 0 A) 7 D A (wM ad cI cX) σ 106 [(0, .ref (ad 0)), (1, .int v1), (2, .int v2), (3, .int v3), (4, .int v4)] []) (hc119 : ∀ (v1 : Int32) (v2 : Int32) (v3 : Int32) (v4 : Int32) (v5 : Int32) (σ : xSt), c119 v1 v2 v3 v4 v5 σ = some (r, σ') → xG p l e ({ frames := 6, cells := 0, slots := 0, locals := 139 }) s m args below meth c (MQ below (xQi D A (wM ad cI cX) r σ') args s 0 0 A) 7 D A (wM ad cI cX) σ 119 [(0, .ref (ad 0)), (1, .int v1), (2, .int v2), (3, .int v3), (4, .int v4), (5, .int v5)] []) : ∀ (n : Nat) (v1 : Int32) (v2 : Int32) (v3 : Int32) (v4 : Int32) (v5 : Int32) (v6 : Int32) (σ : xSt), mX9_airsMore_L132 F c106 c119 n v1 v2 v3 v4 v5 v6 σ = some (r, σ') → xG p l e ({ frames := 6, cells := 0, slots := 0, locals := 139 }) s m args below meth c (MQ below (xQi D A (wM ad cI cX) r σ') args s 0 0 A) 7 D A (wM ad cI cX) σ 132 [(0, .ref (ad 0)), (1, .int v1), (2, .int v2), (3, .int v3), (4, .int v4), (5, .int v5), (6, .int v6)] [] := by
  intro n
  induction n with
  | zero => intro v1 v2 v3 v4 v5 v6 σ h; cases h
  | succ n ih => intro v1 v2 v3 v4 v5 v6 σ h; exact wX9_airsMore_S132 X hr hl F hc106 hc119 ih v1 v2 v3 v4 v5 v6 σ h
set_option maxRecDepth 100000 in
set_option maxHeartbeats 4000000 in
theorem wX9_airsMore_S119 {p : Program} {l : Launch} {e : Env} {s : State} {m : MethodId} {args : Array Value} {below : List Frame} {meth : Method} {c : Code} {D : va_G} {A : Nat → Prop} {ad : Nat → Nat} {cI cX : ClassId} {r : Int32} {σ' : xSt} {c106 : Int32 → Int32 → Int32 → Int32 → xSt → Option (Int32 × xSt)} {c119 : Int32 → Int32 → Int32 → Int32 → Int32 → xSt → Option (Int32 × xSt)} (X : xX p s m args c cX9_airsMore 7 RX9 D (tyM cI cX) A (wM ad cI cX)) (hr : meth.sig.returnType = (some .int)) (hl : meth.locks = false) (F : Nat) (hc106 : ∀ (v1 : Int32) (v2 : Int32) (v3 : Int32) (v4 : Int32) (σ : xSt), c106 v1 v2 v3 v4 σ = some (r, σ') → xG p l e ({ frames := 6, cells := 0, slots := 0, locals := 139 }) s m args below meth c (MQ below (xQi D A (wM ad cI cX) r σ') args s 0 0 A) 7 D A (wM ad cI cX) σ 106 [(0, .ref (ad 0)), (1, .int v1), (2, .int v2), (3, .int v3), (4, .int v4)] []) (hc119 : ∀ (v1 : Int32) (v2 : Int32) (v3 : Int32) (v4 : Int32) (v5 : Int32) (σ : xSt), c119 v1 v2 v3 v4 v5 σ = some (r, σ') → xG p l e ({ frames := 6, cells := 0, slots := 0, locals := 139 }) s m args below meth c (MQ below (xQi D A (wM ad cI cX) r σ') args s 0 0 A) 7 D A (wM ad cI cX) σ 119 [(0, .ref (ad 0)), (1, .int v1), (2, .int v2), (3, .int v3), (4, .int v4), (5, .int v5)] []) (v1 : Int32) (v2 : Int32) (v3 : Int32) (v4 : Int32) (v5 : Int32) (σ : xSt) (h : mX9_airsMore_S119 F c106 c119 v1 v2 v3 v4 v5 σ = some (r, σ')) : xG p l e ({ frames := 6, cells := 0, slots := 0, locals := 139 }) s m args below meth c (MQ below (xQi D A (wM ad cI cX) r σ') args s 0 0 A) 7 D A (wM ad cI cX) σ 119 [(0, .ref (ad 0)), (1, .int v1), (2, .int v2), (3, .int v3), (4, .int v4), (5, .int v5)] [] := by
  unfold mX9_airsMore_S119 at h
  refine x_iload (pc := 119) X dX9_airsMore_119 5 rfl ?_
  refine x_aload_n (pc := 121) X dX9_airsMore_121 rfl 0 rfl ?_
  refine gX9_109 (pc := 122) X dX9_airsMore_122 ?_
  refine x_icmp_ge (pc := 125) X 171 dX9_airsMore_125 (by decide) (fun hc => ?_) (fun hc => ?_)
  · have h := xit hc h
    refine x_sub [0, 1, 2, 3, 4] rfl ?_
    exact wX9_airsMore_L171 X hr hl F hc106 _ _ _ _ _ h
  · have h := xif hc h
    refine x_iload (pc := 128) X dX9_airsMore_128 5 rfl ?_
    refine x_istore (pc := 130) (lv' := [(6, .int v5), (0, .ref (ad 0)), (1, .int v1), (2, .int v2), (3, .int v3), (4, .int v4), (5, .int v5)]) X dX9_airsMore_130 (by decide) rfl ?_
    refine x_sub [1, 2, 3, 4, 5, 6, 0] rfl ?_
    exact wX9_airsMore_L132 X hr hl F hc106 hc119 F _ _ _ _ _ _ _ h
theorem wX9_airsMore_L119 {p : Program} {l : Launch} {e : Env} {s : State} {m : MethodId} {args : Array Value} {below : List Frame} {meth : Method} {c : Code} {D : va_G} {A : Nat → Prop} {ad : Nat → Nat} {cI cX : ClassId} {r : Int32} {σ' : xSt} {c106 : Int32 → Int32 → Int32 → Int32 → xSt → Option (Int32 × xSt)} (X : xX p s m args c cX9_airsMore 7 RX9 D (tyM cI cX) A (wM ad cI cX)) (hr : meth.sig.returnType = (some .int)) (hl : meth.locks = false) (F : Nat) (hc106 : ∀ (v1 : Int32) (v2 : Int32) (v3 : Int32) (v4 : Int32) (σ : xSt), c106 v1 v2 v3 v4 σ = some (r, σ') → xG p l e ({ frames := 6, cells := 0, slots := 0, locals := 139 }) s m args below meth c (MQ below (xQi D A (wM ad cI cX) r σ') args s 0 0 A) 7 D A (wM ad cI cX) σ 106 [(0, .ref (ad 0)), (1, .int v1), (2, .int v2), (3, .int v3), (4, .int v4)] []) : ∀ (n : Nat) (v1 : Int32) (v2 : Int32) (v3 : Int32) (v4 : Int32) (v5 : Int32) (σ : xSt), mX9_airsMore_L119 F c106 n v1 v2 v3 v4 v5 σ = some (r, σ') → xG p l e ({ frames := 6, cells := 0, slots := 0, locals := 139 }) s m args below meth c (MQ below (xQi D A (wM ad cI cX) r σ') args s 0 0 A) 7 D A (wM ad cI cX) σ 119 [(0, .ref (ad 0)), (1, .int v1), (2, .int v2), (3, .int v3), (4, .int v4), (5, .int v5)] [] := by
  intro n
  induction n with
  | zero => intro v1 v2 v3 v4 v5 σ h; cases h
  | succ n ih => intro v1 v2 v3 v4 v5 σ h; exact wX9_airsMore_S119 X hr hl F hc106 ih v1 v2 v3 v4 v5 σ h
set_option maxRecDepth 100000 in
set_option maxHeartbeats 4000000 in
theorem wX9_airsMore_S106 {p : Program} {l : Launch} {e : Env} {s : State} {m : MethodId} {args : Array Value} {below : List Frame} {meth : Method} {c : Code} {D : va_G} {A : Nat → Prop} {ad : Nat → Nat} {cI cX : ClassId} {r : Int32} {σ' : xSt} {c106 : Int32 → Int32 → Int32 → Int32 → xSt → Option (Int32 × xSt)} (X : xX p s m args c cX9_airsMore 7 RX9 D (tyM cI cX) A (wM ad cI cX)) (hr : meth.sig.returnType = (some .int)) (hl : meth.locks = false) (F : Nat) (hc106 : ∀ (v1 : Int32) (v2 : Int32) (v3 : Int32) (v4 : Int32) (σ : xSt), c106 v1 v2 v3 v4 σ = some (r, σ') → xG p l e ({ frames := 6, cells := 0, slots := 0, locals := 139 }) s m args below meth c (MQ below (xQi D A (wM ad cI cX) r σ') args s 0 0 A) 7 D A (wM ad cI cX) σ 106 [(0, .ref (ad 0)), (1, .int v1), (2, .int v2), (3, .int v3), (4, .int v4)] []) (v1 : Int32) (v2 : Int32) (v3 : Int32) (v4 : Int32) (σ : xSt) (h : mX9_airsMore_S106 F c106 v1 v2 v3 v4 σ = some (r, σ')) : xG p l e ({ frames := 6, cells := 0, slots := 0, locals := 139 }) s m args below meth c (MQ below (xQi D A (wM ad cI cX) r σ') args s 0 0 A) 7 D A (wM ad cI cX) σ 106 [(0, .ref (ad 0)), (1, .int v1), (2, .int v2), (3, .int v3), (4, .int v4)] [] := by
  unfold mX9_airsMore_S106 at h
  refine x_iload (pc := 106) X dX9_airsMore_106 4 rfl ?_
  refine x_aload_n (pc := 108) X dX9_airsMore_108 rfl 0 rfl ?_
  refine gX9_109 (pc := 109) X dX9_airsMore_109 ?_
  refine x_icmp_ge (pc := 112) X 177 dX9_airsMore_112 (by decide) (fun hc => ?_) (fun hc => ?_)
  · have h := xit hc h
    refine x_sub [] rfl ?_
    exact wX9_airsMore_L177 X hr hl F _ h
  · have h := xif hc h
    refine x_iload (pc := 115) X dX9_airsMore_115 4 rfl ?_
    refine x_istore (pc := 117) (lv' := [(5, .int v4), (0, .ref (ad 0)), (1, .int v1), (2, .int v2), (3, .int v3), (4, .int v4)]) X dX9_airsMore_117 (by decide) rfl ?_
    refine x_sub [1, 2, 3, 4, 5, 0] rfl ?_
    exact wX9_airsMore_L119 X hr hl F hc106 F _ _ _ _ _ _ h
theorem wX9_airsMore_L106 {p : Program} {l : Launch} {e : Env} {s : State} {m : MethodId} {args : Array Value} {below : List Frame} {meth : Method} {c : Code} {D : va_G} {A : Nat → Prop} {ad : Nat → Nat} {cI cX : ClassId} {r : Int32} {σ' : xSt} (X : xX p s m args c cX9_airsMore 7 RX9 D (tyM cI cX) A (wM ad cI cX)) (hr : meth.sig.returnType = (some .int)) (hl : meth.locks = false) (F : Nat) : ∀ (n : Nat) (v1 : Int32) (v2 : Int32) (v3 : Int32) (v4 : Int32) (σ : xSt), mX9_airsMore_L106 F n v1 v2 v3 v4 σ = some (r, σ') → xG p l e ({ frames := 6, cells := 0, slots := 0, locals := 139 }) s m args below meth c (MQ below (xQi D A (wM ad cI cX) r σ') args s 0 0 A) 7 D A (wM ad cI cX) σ 106 [(0, .ref (ad 0)), (1, .int v1), (2, .int v2), (3, .int v3), (4, .int v4)] [] := by
  intro n
  induction n with
  | zero => intro v1 v2 v3 v4 σ h; cases h
  | succ n ih => intro v1 v2 v3 v4 σ h; exact wX9_airsMore_S106 X hr hl F ih v1 v2 v3 v4 σ h
set_option maxRecDepth 100000 in
set_option maxHeartbeats 4000000 in
theorem wX9_airsMore_L103 {p : Program} {l : Launch} {e : Env} {s : State} {m : MethodId} {args : Array Value} {below : List Frame} {meth : Method} {c : Code} {D : va_G} {A : Nat → Prop} {ad : Nat → Nat} {cI cX : ClassId} {r : Int32} {σ' : xSt} (X : xX p s m args c cX9_airsMore 7 RX9 D (tyM cI cX) A (wM ad cI cX)) (hr : meth.sig.returnType = (some .int)) (hl : meth.locks = false) (F : Nat) (v1 : Int32) (v2 : Int32) (v3 : Int32) (σ : xSt) (h : mX9_airsMore_L103 F v1 v2 v3 σ = some (r, σ')) : xG p l e ({ frames := 6, cells := 0, slots := 0, locals := 139 }) s m args below meth c (MQ below (xQi D A (wM ad cI cX) r σ') args s 0 0 A) 7 D A (wM ad cI cX) σ 103 [(0, .ref (ad 0)), (1, .int v1), (2, .int v2), (3, .int v3)] [] := by
  unfold mX9_airsMore_L103 at h
  refine x_iconst (pc := 103) (v := 0) X dX9_airsMore_103 (by decide) ?_
  refine x_istore (pc := 104) (lv' := [(4, .int 0), (0, .ref (ad 0)), (1, .int v1), (2, .int v2), (3, .int v3)]) X dX9_airsMore_104 (by decide) rfl ?_
  refine x_sub [1, 2, 3, 4, 0] rfl ?_
  exact wX9_airsMore_L106 X hr hl F F _ _ _ _ _ h
set_option maxRecDepth 100000 in
set_option maxHeartbeats 4000000 in
theorem wX9_airsMore_L97 {p : Program} {l : Launch} {e : Env} {s : State} {m : MethodId} {args : Array Value} {below : List Frame} {meth : Method} {c : Code} {D : va_G} {A : Nat → Prop} {ad : Nat → Nat} {cI cX : ClassId} {r : Int32} {σ' : xSt} {c52 : Int32 → Int32 → Int32 → Int32 → xSt → Option (Int32 × xSt)} (X : xX p s m args c cX9_airsMore 7 RX9 D (tyM cI cX) A (wM ad cI cX)) (hr : meth.sig.returnType = (some .int)) (hl : meth.locks = false) (F : Nat) (hc52 : ∀ (v1 : Int32) (v2 : Int32) (v3 : Int32) (v4 : Int32) (σ : xSt), c52 v1 v2 v3 v4 σ = some (r, σ') → xG p l e ({ frames := 6, cells := 0, slots := 0, locals := 139 }) s m args below meth c (MQ below (xQi D A (wM ad cI cX) r σ') args s 0 0 A) 7 D A (wM ad cI cX) σ 52 [(0, .ref (ad 0)), (1, .int v1), (2, .int v2), (3, .int v3), (4, .int v4)] []) (v1 : Int32) (v2 : Int32) (v3 : Int32) (v4 : Int32) (σ : xSt) (h : mX9_airsMore_L97 F c52 v1 v2 v3 v4 σ = some (r, σ')) : xG p l e ({ frames := 6, cells := 0, slots := 0, locals := 139 }) s m args below meth c (MQ below (xQi D A (wM ad cI cX) r σ') args s 0 0 A) 7 D A (wM ad cI cX) σ 97 [(0, .ref (ad 0)), (1, .int v1), (2, .int v2), (3, .int v3), (4, .int v4)] [] := by
  unfold mX9_airsMore_L97 at h
  refine x_iinc (pc := 97) (v := (v4 + 1)) (lv' := [(4, .int (v4 + 1)), (0, .ref (ad 0)), (1, .int v1), (2, .int v2), (3, .int v3)]) X dX9_airsMore_97 4 rfl rfl (by decide) rfl ?_
  refine x_goto (pc := 100) X 52 dX9_airsMore_100 (by decide) ?_
  refine x_sub [1, 2, 3, 4, 0] rfl ?_
  exact hc52 _ _ _ _ _ h
set_option maxRecDepth 100000 in
set_option maxHeartbeats 4000000 in
theorem wX9_airsMore_L89 {p : Program} {l : Launch} {e : Env} {s : State} {m : MethodId} {args : Array Value} {below : List Frame} {meth : Method} {c : Code} {D : va_G} {A : Nat → Prop} {ad : Nat → Nat} {cI cX : ClassId} {r : Int32} {σ' : xSt} (X : xX p s m args c cX9_airsMore 7 RX9 D (tyM cI cX) A (wM ad cI cX)) (hr : meth.sig.returnType = (some .int)) (hl : meth.locks = false) (F : Nat) (σ : xSt) (h : mX9_airsMore_L89 F σ = some (r, σ')) : xG p l e ({ frames := 6, cells := 0, slots := 0, locals := 139 }) s m args below meth c (MQ below (xQi D A (wM ad cI cX) r σ') args s 0 0 A) 7 D A (wM ad cI cX) σ 89 [] [] := by
  unfold mX9_airsMore_L89 at h
  refine x_iconst (pc := 89) (v := 2) X dX9_airsMore_89 (by decide) ?_
  exact x_iret (pc := 90) X hr hl h dX9_airsMore_90
set_option maxRecDepth 100000 in
set_option maxHeartbeats 4000000 in
theorem wX9_airsMore_S65 {p : Program} {l : Launch} {e : Env} {s : State} {m : MethodId} {args : Array Value} {below : List Frame} {meth : Method} {c : Code} {D : va_G} {A : Nat → Prop} {ad : Nat → Nat} {cI cX : ClassId} {r : Int32} {σ' : xSt} {c52 : Int32 → Int32 → Int32 → Int32 → xSt → Option (Int32 × xSt)} {c65 : Int32 → Int32 → Int32 → Int32 → Int32 → xSt → Option (Int32 × xSt)} (X : xX p s m args c cX9_airsMore 7 RX9 D (tyM cI cX) A (wM ad cI cX)) (hr : meth.sig.returnType = (some .int)) (hl : meth.locks = false) (F : Nat) (hc52 : ∀ (v1 : Int32) (v2 : Int32) (v3 : Int32) (v4 : Int32) (σ : xSt), c52 v1 v2 v3 v4 σ = some (r, σ') → xG p l e ({ frames := 6, cells := 0, slots := 0, locals := 139 }) s m args below meth c (MQ below (xQi D A (wM ad cI cX) r σ') args s 0 0 A) 7 D A (wM ad cI cX) σ 52 [(0, .ref (ad 0)), (1, .int v1), (2, .int v2), (3, .int v3), (4, .int v4)] []) (hc65 : ∀ (v1 : Int32) (v2 : Int32) (v3 : Int32) (v4 : Int32) (v5 : Int32) (σ : xSt), c65 v1 v2 v3 v4 v5 σ = some (r, σ') → xG p l e ({ frames := 6, cells := 0, slots := 0, locals := 139 }) s m args below meth c (MQ below (xQi D A (wM ad cI cX) r σ') args s 0 0 A) 7 D A (wM ad cI cX) σ 65 [(0, .ref (ad 0)), (1, .int v1), (2, .int v2), (3, .int v3), (4, .int v4), (5, .int v5)] []) (v1 : Int32) (v2 : Int32) (v3 : Int32) (v4 : Int32) (v5 : Int32) (σ : xSt) (h : mX9_airsMore_S65 F c52 c65 v1 v2 v3 v4 v5 σ = some (r, σ')) : xG p l e ({ frames := 6, cells := 0, slots := 0, locals := 139 }) s m args below meth c (MQ below (xQi D A (wM ad cI cX) r σ') args s 0 0 A) 7 D A (wM ad cI cX) σ 65 [(0, .ref (ad 0)), (1, .int v1), (2, .int v2), (3, .int v3), (4, .int v4), (5, .int v5)] [] := by
  unfold mX9_airsMore_S65 at h
  refine x_iload (pc := 65) X dX9_airsMore_65 5 rfl ?_
  refine x_aload_n (pc := 67) X dX9_airsMore_67 rfl 0 rfl ?_
  refine gX9_109 (pc := 68) X dX9_airsMore_68 ?_
  refine x_icmp_ge (pc := 71) X 97 dX9_airsMore_71 (by decide) (fun hc => ?_) (fun hc => ?_)
  · have h := xit hc h
    refine x_sub [0, 1, 2, 3, 4] rfl ?_
    exact wX9_airsMore_L97 X hr hl F hc52 _ _ _ _ _ h
  · have h := xif hc h
    refine x_aload_n (pc := 74) X dX9_airsMore_74 rfl 0 rfl ?_
    refine x_iload (pc := 75) X dX9_airsMore_75 4 rfl ?_
    refine x_iload (pc := 77) X dX9_airsMore_77 5 rfl ?_
    refine x_iconst (pc := 79) (v := (-1)) X dX9_airsMore_79 (by decide) ?_
    refine x_iload_n (pc := 80) X dX9_airsMore_80 rfl 1 rfl ?_
    refine x_iload_n (pc := 81) X dX9_airsMore_81 rfl 2 rfl ?_
    refine x_iload_n (pc := 82) X dX9_airsMore_82 rfl 3 rfl ?_
    obtain ⟨r83, σ83, hq83, h⟩ := xb2_some h
    refine x_calliV (pc := 83) (As := [.int v4, .int v5, .int (-1), .int v1, .int v2, .int v3]) (rest := []) X (kX9_doesAir l X.2.2.2.2.2.2.2 F _ _ _ _ _ _ _ _ _ hq83) kvX9_267 rfl (qX9) ⟨rfl, rfl, Nat.le_of_ble_eq_true rfl, Nat.le_of_ble_eq_true rfl⟩ rfl rfl (Nat.le_of_ble_eq_true rfl) dX9_airsMore_83 ?_
    refine x_if_eq (pc := 86) X 91 dX9_airsMore_86 (by decide) (fun hc => ?_) (fun hc => ?_)
    · have h := xit hc h
      refine x_iinc (pc := 91) (v := (v5 + 1)) (lv' := [(5, .int (v5 + 1)), (0, .ref (ad 0)), (1, .int v1), (2, .int v2), (3, .int v3), (4, .int v4)]) X dX9_airsMore_91 5 rfl rfl (by decide) rfl ?_
      refine x_goto (pc := 94) X 65 dX9_airsMore_94 (by decide) ?_
      refine x_sub [1, 2, 3, 4, 5, 0] rfl ?_
      exact hc65 _ _ _ _ _ _ h
    · have h := xif hc h
      refine x_sub [] rfl ?_
      exact wX9_airsMore_L89 X hr hl F _ h
theorem wX9_airsMore_L65 {p : Program} {l : Launch} {e : Env} {s : State} {m : MethodId} {args : Array Value} {below : List Frame} {meth : Method} {c : Code} {D : va_G} {A : Nat → Prop} {ad : Nat → Nat} {cI cX : ClassId} {r : Int32} {σ' : xSt} {c52 : Int32 → Int32 → Int32 → Int32 → xSt → Option (Int32 × xSt)} (X : xX p s m args c cX9_airsMore 7 RX9 D (tyM cI cX) A (wM ad cI cX)) (hr : meth.sig.returnType = (some .int)) (hl : meth.locks = false) (F : Nat) (hc52 : ∀ (v1 : Int32) (v2 : Int32) (v3 : Int32) (v4 : Int32) (σ : xSt), c52 v1 v2 v3 v4 σ = some (r, σ') → xG p l e ({ frames := 6, cells := 0, slots := 0, locals := 139 }) s m args below meth c (MQ below (xQi D A (wM ad cI cX) r σ') args s 0 0 A) 7 D A (wM ad cI cX) σ 52 [(0, .ref (ad 0)), (1, .int v1), (2, .int v2), (3, .int v3), (4, .int v4)] []) : ∀ (n : Nat) (v1 : Int32) (v2 : Int32) (v3 : Int32) (v4 : Int32) (v5 : Int32) (σ : xSt), mX9_airsMore_L65 F c52 n v1 v2 v3 v4 v5 σ = some (r, σ') → xG p l e ({ frames := 6, cells := 0, slots := 0, locals := 139 }) s m args below meth c (MQ below (xQi D A (wM ad cI cX) r σ') args s 0 0 A) 7 D A (wM ad cI cX) σ 65 [(0, .ref (ad 0)), (1, .int v1), (2, .int v2), (3, .int v3), (4, .int v4), (5, .int v5)] [] := by
  intro n
  induction n with
  | zero => intro v1 v2 v3 v4 v5 σ h; cases h
  | succ n ih => intro v1 v2 v3 v4 v5 σ h; exact wX9_airsMore_S65 X hr hl F hc52 ih v1 v2 v3 v4 v5 σ h
set_option maxRecDepth 100000 in
set_option maxHeartbeats 4000000 in
theorem wX9_airsMore_S52 {p : Program} {l : Launch} {e : Env} {s : State} {m : MethodId} {args : Array Value} {below : List Frame} {meth : Method} {c : Code} {D : va_G} {A : Nat → Prop} {ad : Nat → Nat} {cI cX : ClassId} {r : Int32} {σ' : xSt} {c52 : Int32 → Int32 → Int32 → Int32 → xSt → Option (Int32 × xSt)} (X : xX p s m args c cX9_airsMore 7 RX9 D (tyM cI cX) A (wM ad cI cX)) (hr : meth.sig.returnType = (some .int)) (hl : meth.locks = false) (F : Nat) (hc52 : ∀ (v1 : Int32) (v2 : Int32) (v3 : Int32) (v4 : Int32) (σ : xSt), c52 v1 v2 v3 v4 σ = some (r, σ') → xG p l e ({ frames := 6, cells := 0, slots := 0, locals := 139 }) s m args below meth c (MQ below (xQi D A (wM ad cI cX) r σ') args s 0 0 A) 7 D A (wM ad cI cX) σ 52 [(0, .ref (ad 0)), (1, .int v1), (2, .int v2), (3, .int v3), (4, .int v4)] []) (v1 : Int32) (v2 : Int32) (v3 : Int32) (v4 : Int32) (σ : xSt) (h : mX9_airsMore_S52 F c52 v1 v2 v3 v4 σ = some (r, σ')) : xG p l e ({ frames := 6, cells := 0, slots := 0, locals := 139 }) s m args below meth c (MQ below (xQi D A (wM ad cI cX) r σ') args s 0 0 A) 7 D A (wM ad cI cX) σ 52 [(0, .ref (ad 0)), (1, .int v1), (2, .int v2), (3, .int v3), (4, .int v4)] [] := by
  unfold mX9_airsMore_S52 at h
  refine x_iload (pc := 52) X dX9_airsMore_52 4 rfl ?_
  refine x_aload_n (pc := 54) X dX9_airsMore_54 rfl 0 rfl ?_
  refine gX9_109 (pc := 55) X dX9_airsMore_55 ?_
  refine x_icmp_ge (pc := 58) X 103 dX9_airsMore_58 (by decide) (fun hc => ?_) (fun hc => ?_)
  · have h := xit hc h
    refine x_sub [0, 1, 2, 3] rfl ?_
    exact wX9_airsMore_L103 X hr hl F _ _ _ _ h
  · have h := xif hc h
    refine x_iload (pc := 61) X dX9_airsMore_61 4 rfl ?_
    refine x_istore (pc := 63) (lv' := [(5, .int v4), (0, .ref (ad 0)), (1, .int v1), (2, .int v2), (3, .int v3), (4, .int v4)]) X dX9_airsMore_63 (by decide) rfl ?_
    refine x_sub [1, 2, 3, 4, 5, 0] rfl ?_
    exact wX9_airsMore_L65 X hr hl F hc52 F _ _ _ _ _ _ h
theorem wX9_airsMore_L52 {p : Program} {l : Launch} {e : Env} {s : State} {m : MethodId} {args : Array Value} {below : List Frame} {meth : Method} {c : Code} {D : va_G} {A : Nat → Prop} {ad : Nat → Nat} {cI cX : ClassId} {r : Int32} {σ' : xSt} (X : xX p s m args c cX9_airsMore 7 RX9 D (tyM cI cX) A (wM ad cI cX)) (hr : meth.sig.returnType = (some .int)) (hl : meth.locks = false) (F : Nat) : ∀ (n : Nat) (v1 : Int32) (v2 : Int32) (v3 : Int32) (v4 : Int32) (σ : xSt), mX9_airsMore_L52 F n v1 v2 v3 v4 σ = some (r, σ') → xG p l e ({ frames := 6, cells := 0, slots := 0, locals := 139 }) s m args below meth c (MQ below (xQi D A (wM ad cI cX) r σ') args s 0 0 A) 7 D A (wM ad cI cX) σ 52 [(0, .ref (ad 0)), (1, .int v1), (2, .int v2), (3, .int v3), (4, .int v4)] [] := by
  intro n
  induction n with
  | zero => intro v1 v2 v3 v4 σ h; cases h
  | succ n ih => intro v1 v2 v3 v4 σ h; exact wX9_airsMore_S52 X hr hl F ih v1 v2 v3 v4 σ h
set_option maxRecDepth 100000 in
set_option maxHeartbeats 4000000 in
theorem wX9_airsMore_L49 {p : Program} {l : Launch} {e : Env} {s : State} {m : MethodId} {args : Array Value} {below : List Frame} {meth : Method} {c : Code} {D : va_G} {A : Nat → Prop} {ad : Nat → Nat} {cI cX : ClassId} {r : Int32} {σ' : xSt} (X : xX p s m args c cX9_airsMore 7 RX9 D (tyM cI cX) A (wM ad cI cX)) (hr : meth.sig.returnType = (some .int)) (hl : meth.locks = false) (F : Nat) (v1 : Int32) (v2 : Int32) (v3 : Int32) (σ : xSt) (h : mX9_airsMore_L49 F v1 v2 v3 σ = some (r, σ')) : xG p l e ({ frames := 6, cells := 0, slots := 0, locals := 139 }) s m args below meth c (MQ below (xQi D A (wM ad cI cX) r σ') args s 0 0 A) 7 D A (wM ad cI cX) σ 49 [(0, .ref (ad 0)), (1, .int v1), (2, .int v2), (3, .int v3)] [] := by
  unfold mX9_airsMore_L49 at h
  refine x_iconst (pc := 49) (v := 0) X dX9_airsMore_49 (by decide) ?_
  refine x_istore (pc := 50) (lv' := [(4, .int 0), (0, .ref (ad 0)), (1, .int v1), (2, .int v2), (3, .int v3)]) X dX9_airsMore_50 (by decide) rfl ?_
  refine x_sub [1, 2, 3, 4, 0] rfl ?_
  exact wX9_airsMore_L52 X hr hl F F _ _ _ _ _ h
set_option maxRecDepth 100000 in
set_option maxHeartbeats 4000000 in
theorem wX9_airsMore_L41 {p : Program} {l : Launch} {e : Env} {s : State} {m : MethodId} {args : Array Value} {below : List Frame} {meth : Method} {c : Code} {D : va_G} {A : Nat → Prop} {ad : Nat → Nat} {cI cX : ClassId} {r : Int32} {σ' : xSt} (X : xX p s m args c cX9_airsMore 7 RX9 D (tyM cI cX) A (wM ad cI cX)) (hr : meth.sig.returnType = (some .int)) (hl : meth.locks = false) (F : Nat) (σ : xSt) (h : mX9_airsMore_L41 F σ = some (r, σ')) : xG p l e ({ frames := 6, cells := 0, slots := 0, locals := 139 }) s m args below meth c (MQ below (xQi D A (wM ad cI cX) r σ') args s 0 0 A) 7 D A (wM ad cI cX) σ 41 [] [] := by
  unfold mX9_airsMore_L41 at h
  refine x_iconst (pc := 41) (v := 1) X dX9_airsMore_41 (by decide) ?_
  exact x_iret (pc := 42) X hr hl h dX9_airsMore_42
set_option maxRecDepth 100000 in
set_option maxHeartbeats 4000000 in
theorem wX9_airsMore_S18 {p : Program} {l : Launch} {e : Env} {s : State} {m : MethodId} {args : Array Value} {below : List Frame} {meth : Method} {c : Code} {D : va_G} {A : Nat → Prop} {ad : Nat → Nat} {cI cX : ClassId} {r : Int32} {σ' : xSt} {c18 : Int32 → Int32 → Int32 → Int32 → xSt → Option (Int32 × xSt)} (X : xX p s m args c cX9_airsMore 7 RX9 D (tyM cI cX) A (wM ad cI cX)) (hr : meth.sig.returnType = (some .int)) (hl : meth.locks = false) (F : Nat) (hc18 : ∀ (v1 : Int32) (v2 : Int32) (v3 : Int32) (v4 : Int32) (σ : xSt), c18 v1 v2 v3 v4 σ = some (r, σ') → xG p l e ({ frames := 6, cells := 0, slots := 0, locals := 139 }) s m args below meth c (MQ below (xQi D A (wM ad cI cX) r σ') args s 0 0 A) 7 D A (wM ad cI cX) σ 18 [(0, .ref (ad 0)), (1, .int v1), (2, .int v2), (3, .int v3), (4, .int v4)] []) (v1 : Int32) (v2 : Int32) (v3 : Int32) (v4 : Int32) (σ : xSt) (h : mX9_airsMore_S18 F c18 v1 v2 v3 v4 σ = some (r, σ')) : xG p l e ({ frames := 6, cells := 0, slots := 0, locals := 139 }) s m args below meth c (MQ below (xQi D A (wM ad cI cX) r σ') args s 0 0 A) 7 D A (wM ad cI cX) σ 18 [(0, .ref (ad 0)), (1, .int v1), (2, .int v2), (3, .int v3), (4, .int v4)] [] := by
  unfold mX9_airsMore_S18 at h
  refine x_iload (pc := 18) X dX9_airsMore_18 4 rfl ?_
  refine x_aload_n (pc := 20) X dX9_airsMore_20 rfl 0 rfl ?_
  refine gX9_109 (pc := 21) X dX9_airsMore_21 ?_
  refine x_icmp_ge (pc := 24) X 49 dX9_airsMore_24 (by decide) (fun hc => ?_) (fun hc => ?_)
  · have h := xit hc h
    refine x_sub [0, 1, 2, 3] rfl ?_
    exact wX9_airsMore_L49 X hr hl F _ _ _ _ h
  · have h := xif hc h
    refine x_aload_n (pc := 27) X dX9_airsMore_27 rfl 0 rfl ?_
    refine x_iload (pc := 28) X dX9_airsMore_28 4 rfl ?_
    refine x_iconst (pc := 30) (v := (-1)) X dX9_airsMore_30 (by decide) ?_
    refine x_iconst (pc := 31) (v := (-1)) X dX9_airsMore_31 (by decide) ?_
    refine x_iload_n (pc := 32) X dX9_airsMore_32 rfl 1 rfl ?_
    refine x_iload_n (pc := 33) X dX9_airsMore_33 rfl 2 rfl ?_
    refine x_iload_n (pc := 34) X dX9_airsMore_34 rfl 3 rfl ?_
    obtain ⟨r35, σ35, hq35, h⟩ := xb2_some h
    refine x_calliV (pc := 35) (As := [.int v4, .int (-1), .int (-1), .int v1, .int v2, .int v3]) (rest := []) X (kX9_doesAir l X.2.2.2.2.2.2.2 F _ _ _ _ _ _ _ _ _ hq35) kvX9_267 rfl (qX9) ⟨rfl, rfl, Nat.le_of_ble_eq_true rfl, Nat.le_of_ble_eq_true rfl⟩ rfl rfl (Nat.le_of_ble_eq_true rfl) dX9_airsMore_35 ?_
    refine x_if_eq (pc := 38) X 43 dX9_airsMore_38 (by decide) (fun hc => ?_) (fun hc => ?_)
    · have h := xit hc h
      refine x_iinc (pc := 43) (v := (v4 + 1)) (lv' := [(4, .int (v4 + 1)), (0, .ref (ad 0)), (1, .int v1), (2, .int v2), (3, .int v3)]) X dX9_airsMore_43 4 rfl rfl (by decide) rfl ?_
      refine x_goto (pc := 46) X 18 dX9_airsMore_46 (by decide) ?_
      refine x_sub [1, 2, 3, 4, 0] rfl ?_
      exact hc18 _ _ _ _ _ h
    · have h := xif hc h
      refine x_sub [] rfl ?_
      exact wX9_airsMore_L41 X hr hl F _ h
theorem wX9_airsMore_L18 {p : Program} {l : Launch} {e : Env} {s : State} {m : MethodId} {args : Array Value} {below : List Frame} {meth : Method} {c : Code} {D : va_G} {A : Nat → Prop} {ad : Nat → Nat} {cI cX : ClassId} {r : Int32} {σ' : xSt} (X : xX p s m args c cX9_airsMore 7 RX9 D (tyM cI cX) A (wM ad cI cX)) (hr : meth.sig.returnType = (some .int)) (hl : meth.locks = false) (F : Nat) : ∀ (n : Nat) (v1 : Int32) (v2 : Int32) (v3 : Int32) (v4 : Int32) (σ : xSt), mX9_airsMore_L18 F n v1 v2 v3 v4 σ = some (r, σ') → xG p l e ({ frames := 6, cells := 0, slots := 0, locals := 139 }) s m args below meth c (MQ below (xQi D A (wM ad cI cX) r σ') args s 0 0 A) 7 D A (wM ad cI cX) σ 18 [(0, .ref (ad 0)), (1, .int v1), (2, .int v2), (3, .int v3), (4, .int v4)] [] := by
  intro n
  induction n with
  | zero => intro v1 v2 v3 v4 σ h; cases h
  | succ n ih => intro v1 v2 v3 v4 σ h; exact wX9_airsMore_S18 X hr hl F ih v1 v2 v3 v4 σ h
set_option maxRecDepth 100000 in
set_option maxHeartbeats 4000000 in
theorem kX9_airsMore (l : Launch) {D : va_G} {A : Nat → Prop} {ad : Nat → Nat} {cI cX : ClassId} (hD : ∀ σ, va_D A ((wM ad cI cX) σ)) (F : Nat) (v1 : Int32) (v2 : Int32) (v3 : Int32) (σ : xSt) (r : Int32) (σ' : xSt) (h : mX9_airsMore F v1 v2 v3 σ = some (r, σ')) : xM l yX9_airsMore cX9_airsMore 7 (some .int) ({ frames := 6, cells := 0, slots := 0, locals := 139 }) D (tyM cI cX) A (wM ad cI cX) [.ref (ad 0), .int v1, .int v2, .int v3] σ (xQi D A (wM ad cI cX) r σ') := by
  refine xM_of (lv := [(0, .ref (ad 0)), (1, .int v1), (2, .int v2), (3, .int v3)]) [.ref (ad 0), .int v1, .int v2, .int v3] (by decide) hD rfl (Nat.le_of_ble_eq_true rfl) ?_
  intro p e s m args below meth c X hr hl
  unfold mX9_airsMore at h
  refine x_aload_n (pc := 0) X dX9_airsMore_0 rfl 0 rfl ?_
  refine x_iconst (pc := 1) (v := (-1)) X dX9_airsMore_1 (by decide) ?_
  refine x_iconst (pc := 2) (v := (-1)) X dX9_airsMore_2 (by decide) ?_
  refine x_iconst (pc := 3) (v := (-1)) X dX9_airsMore_3 (by decide) ?_
  refine x_iload_n (pc := 4) X dX9_airsMore_4 rfl 1 rfl ?_
  refine x_iload_n (pc := 5) X dX9_airsMore_5 rfl 2 rfl ?_
  refine x_iload_n (pc := 6) X dX9_airsMore_6 rfl 3 rfl ?_
  obtain ⟨r7, σ7, hq7, h⟩ := xb2_some h
  refine x_calliV (pc := 7) (As := [.int (-1), .int (-1), .int (-1), .int v1, .int v2, .int v3]) (rest := []) X (kX9_doesAir l X.2.2.2.2.2.2.2 F _ _ _ _ _ _ _ _ _ hq7) kvX9_267 rfl (qX9) ⟨rfl, rfl, Nat.le_of_ble_eq_true rfl, Nat.le_of_ble_eq_true rfl⟩ rfl rfl (Nat.le_of_ble_eq_true rfl) dX9_airsMore_7 ?_
  refine x_if_eq (pc := 10) X 15 dX9_airsMore_10 (by decide) (fun hc => ?_) (fun hc => ?_)
  · have h := xit hc h
    refine x_iconst (pc := 15) (v := 0) X dX9_airsMore_15 (by decide) ?_
    refine x_istore (pc := 16) (lv' := [(4, .int 0), (0, .ref (ad 0)), (1, .int v1), (2, .int v2), (3, .int v3)]) X dX9_airsMore_16 (by decide) rfl ?_
    refine x_sub [1, 2, 3, 4, 0] rfl ?_
    exact wX9_airsMore_L18 X hr hl F F _ _ _ _ _ h
  · have h := xif hc h
    refine x_iconst (pc := 13) (v := 0) X dX9_airsMore_13 (by decide) ?_
    exact x_iret (pc := 14) X hr hl h dX9_airsMore_14
set_option maxRecDepth 100000 in
set_option maxHeartbeats 4000000 in
theorem kX9_airOf (l : Launch) {D : va_G} {A : Nat → Prop} {ad : Nat → Nat} {cI cX : ClassId} (hD : ∀ σ, va_D A ((wM ad cI cX) σ)) (F : Nat) (v1 : Int32) (v2 : Int32) (v3 : Int32) (v4 : Int32) (σ : xSt) (r : Int32) (σ' : xSt) (h : mX9_airOf F v1 v2 v3 v4 σ = some (r, σ')) : xM l yX9_airOf cX9_airOf 5 (some .int) ({ frames := 7, cells := 0, slots := 0, locals := 165 }) D (tyM cI cX) A (wM ad cI cX) [.ref (ad 0), .int v1, .int v2, .int v3, .int v4] σ (xQi D A (wM ad cI cX) r σ') := by
  refine xM_of (lv := [(0, .ref (ad 0)), (1, .int v1), (2, .int v2), (3, .int v3), (4, .int v4)]) [.ref (ad 0), .int v1, .int v2, .int v3, .int v4] (by decide) hD rfl (Nat.le_of_ble_eq_true rfl) ?_
  intro p e s m args below meth c X hr hl
  unfold mX9_airOf at h
  refine x_aload_n (pc := 0) X dX9_airOf_0 rfl 0 rfl ?_
  obtain ⟨σ1, hq1, h⟩ := xb1_some h
  refine x_callvV (pc := 1) (As := []) (rest := []) X (kX9_reads l X.2.2.2.2.2.2.2 F _ _ hq1) kvX9_127 rfl (qX9) ⟨rfl, rfl, Nat.le_of_ble_eq_true rfl, Nat.le_of_ble_eq_true rfl⟩ rfl rfl (Nat.le_of_ble_eq_true rfl) dX9_airOf_1 ?_
  refine x_aload_n (pc := 4) X dX9_airOf_4 rfl 0 rfl ?_
  refine x_aload_n (pc := 5) X dX9_airOf_5 rfl 0 rfl ?_
  refine x_iload_n (pc := 6) X dX9_airOf_6 rfl 1 rfl ?_
  refine x_iload_n (pc := 7) X dX9_airOf_7 rfl 2 rfl ?_
  refine x_iload_n (pc := 8) X dX9_airOf_8 rfl 3 rfl ?_
  obtain ⟨r9, σ9, hq9, h⟩ := xb2_some h
  refine x_calliV (pc := 9) (As := [.int v1, .int v2, .int v3]) (rest := [.ref (ad 0)]) X (kX9_airsMore l X.2.2.2.2.2.2.2 F _ _ _ _ _ _ hq9) kvX9_270 rfl (qX9) ⟨rfl, rfl, Nat.le_of_ble_eq_true rfl, Nat.le_of_ble_eq_true rfl⟩ rfl rfl (Nat.le_of_ble_eq_true rfl) dX9_airOf_9 ?_
  refine x_iload (pc := 12) X dX9_airOf_12 4 rfl ?_
  obtain ⟨r14, σ14, hq14, h⟩ := xb2_some h
  refine x_calliV (pc := 14) (As := [.int r9, .int v4]) (rest := []) X (kX9_ofRow l X.2.2.2.2.2.2.2 F _ _ _ _ _ hq14) kvX9_254 rfl (qX9) ⟨rfl, rfl, Nat.le_of_ble_eq_true rfl, Nat.le_of_ble_eq_true rfl⟩ rfl rfl (Nat.le_of_ble_eq_true rfl) dX9_airOf_14 ?_
  exact x_iret (pc := 17) X hr hl h dX9_airOf_17
set_option maxRecDepth 100000 in
set_option maxHeartbeats 4000000 in
theorem wX9_air_L48 {p : Program} {l : Launch} {e : Env} {s : State} {m : MethodId} {args : Array Value} {below : List Frame} {meth : Method} {c : Code} {D : va_G} {A : Nat → Prop} {ad : Nat → Nat} {cI cX : ClassId} {r : Int32} {σ' : xSt} (X : xX p s m args c cX9_air 5 RX9 D (tyM cI cX) A (wM ad cI cX)) (hr : meth.sig.returnType = (some .int)) (hl : meth.locks = false) (F : Nat) (t0 : Int32) (σ : xSt) (h : mX9_air_L48 F t0 σ = some (r, σ')) : xG p l e ({ frames := 8, cells := 0, slots := 0, locals := 189 }) s m args below meth c (MQ below (xQi D A (wM ad cI cX) r σ') args s 0 0 A) 5 D A (wM ad cI cX) σ 48 [] [.int t0] := by
  unfold mX9_air_L48 at h
  exact x_iret (pc := 48) X hr hl h dX9_air_48
set_option maxRecDepth 100000 in
set_option maxHeartbeats 4000000 in
theorem wX9_air_L46 {p : Program} {l : Launch} {e : Env} {s : State} {m : MethodId} {args : Array Value} {below : List Frame} {meth : Method} {c : Code} {D : va_G} {A : Nat → Prop} {ad : Nat → Nat} {cI cX : ClassId} {r : Int32} {σ' : xSt} (X : xX p s m args c cX9_air 5 RX9 D (tyM cI cX) A (wM ad cI cX)) (hr : meth.sig.returnType = (some .int)) (hl : meth.locks = false) (F : Nat) (σ : xSt) (h : mX9_air_L46 F σ = some (r, σ')) : xG p l e ({ frames := 8, cells := 0, slots := 0, locals := 189 }) s m args below meth c (MQ below (xQi D A (wM ad cI cX) r σ') args s 0 0 A) 5 D A (wM ad cI cX) σ 46 [] [] := by
  unfold mX9_air_L46 at h
  refine x_bipush (pc := 46) (v := (-2)) X dX9_air_46 (by decide) ?_
  refine x_sub [] rfl ?_
  exact wX9_air_L48 X hr hl F _ _ h
set_option maxRecDepth 100000 in
set_option maxHeartbeats 4000000 in
theorem kX9_air (l : Launch) {D : va_G} {A : Nat → Prop} {ad : Nat → Nat} {cI cX : ClassId} (hD : ∀ σ, va_D A ((wM ad cI cX) σ)) (F : Nat) (v1 : Int32) (v2 : Int32) (v3 : Int32) (v4 : Int32) (σ : xSt) (r : Int32) (σ' : xSt) (h : mX9_air F v1 v2 v3 v4 σ = some (r, σ')) : xM l yX9_air cX9_air 5 (some .int) ({ frames := 8, cells := 0, slots := 0, locals := 189 }) D (tyM cI cX) A (wM ad cI cX) [.ref (ad 0), .int v1, .int v2, .int v3, .int v4] σ (xQi D A (wM ad cI cX) r σ') := by
  refine xM_of (lv := [(0, .ref (ad 0)), (1, .int v1), (2, .int v2), (3, .int v3), (4, .int v4)]) [.ref (ad 0), .int v1, .int v2, .int v3, .int v4] (by decide) hD rfl (Nat.le_of_ble_eq_true rfl) ?_
  intro p e s m args below meth c X hr hl
  unfold mX9_air at h
  refine x_iload_n (pc := 0) X dX9_air_0 rfl 1 rfl ?_
  refine x_iconst (pc := 1) (v := 0) X dX9_air_1 (by decide) ?_
  refine x_bipush (pc := 2) (v := 63) X dX9_air_2 (by decide) ?_
  obtain ⟨r4, σ4, hq4, h⟩ := xb2_some h
  refine x_calliS (pc := 4) (As := [.int v1, .int 0, .int 63]) (rest := []) X (kX9_in l X.2.2.2.2.2.2.2 F _ _ _ _ _ _ hq4) kvX9_97 ⟨rfl, rfl, Nat.le_of_ble_eq_true rfl, Nat.le_of_ble_eq_true rfl⟩ rfl rfl (Nat.le_of_ble_eq_true rfl) dX9_air_4 ?_
  refine x_if_eq (pc := 7) X 46 dX9_air_7 (by decide) (fun hc => ?_) (fun hc => ?_)
  · have h := xit hc h
    refine x_sub [] rfl ?_
    exact wX9_air_L46 X hr hl F _ h
  · have h := xif hc h
    refine x_iload_n (pc := 10) X dX9_air_10 rfl 2 rfl ?_
    obtain ⟨r11, σ11, hq11, h⟩ := xb2_some h
    refine x_calliS (pc := 11) (As := [.int v2]) (rest := []) X (kX9_isHour l X.2.2.2.2.2.2.2 F _ _ _ _ hq11) kvX9_142 ⟨rfl, rfl, Nat.le_of_ble_eq_true rfl, Nat.le_of_ble_eq_true rfl⟩ rfl rfl (Nat.le_of_ble_eq_true rfl) dX9_air_11 ?_
    refine x_if_eq (pc := 14) X 46 dX9_air_14 (by decide) (fun hc => ?_) (fun hc => ?_)
    · have h := xit hc h
      refine x_sub [] rfl ?_
      exact wX9_air_L46 X hr hl F _ h
    · have h := xif hc h
      refine x_iload_n (pc := 17) X dX9_air_17 rfl 3 rfl ?_
      obtain ⟨r18, σ18, hq18, h⟩ := xb2_some h
      refine x_calliS (pc := 18) (As := [.int v3]) (rest := []) X (kX9_isHour l X.2.2.2.2.2.2.2 F _ _ _ _ hq18) kvX9_142 ⟨rfl, rfl, Nat.le_of_ble_eq_true rfl, Nat.le_of_ble_eq_true rfl⟩ rfl rfl (Nat.le_of_ble_eq_true rfl) dX9_air_18 ?_
      refine x_if_eq (pc := 21) X 46 dX9_air_21 (by decide) (fun hc => ?_) (fun hc => ?_)
      · have h := xit hc h
        refine x_sub [] rfl ?_
        exact wX9_air_L46 X hr hl F _ h
      · have h := xif hc h
        refine x_iload (pc := 24) X dX9_air_24 4 rfl ?_
        refine x_iconst (pc := 26) (v := (-1)) X dX9_air_26 (by decide) ?_
        refine x_iconst (pc := 27) (v := 2) X dX9_air_27 (by decide) ?_
        obtain ⟨r28, σ28, hq28, h⟩ := xb2_some h
        refine x_calliS (pc := 28) (As := [.int v4, .int (-1), .int 2]) (rest := []) X (kX9_in l X.2.2.2.2.2.2.2 F _ _ _ _ _ _ hq28) kvX9_97 ⟨rfl, rfl, Nat.le_of_ble_eq_true rfl, Nat.le_of_ble_eq_true rfl⟩ rfl rfl (Nat.le_of_ble_eq_true rfl) dX9_air_28 ?_
        refine x_if_eq (pc := 31) X 46 dX9_air_31 (by decide) (fun hc => ?_) (fun hc => ?_)
        · have h := xit hc h
          refine x_sub [] rfl ?_
          exact wX9_air_L46 X hr hl F _ h
        · have h := xif hc h
          refine x_aload_n (pc := 34) X dX9_air_34 rfl 0 rfl ?_
          refine x_iload_n (pc := 35) X dX9_air_35 rfl 1 rfl ?_
          refine x_iload_n (pc := 36) X dX9_air_36 rfl 2 rfl ?_
          refine x_iload_n (pc := 37) X dX9_air_37 rfl 3 rfl ?_
          refine x_iload (pc := 38) X dX9_air_38 4 rfl ?_
          obtain ⟨r40, σ40, hq40, h⟩ := xb2_some h
          refine x_calliV (pc := 40) (As := [.int v1, .int v2, .int v3, .int v4]) (rest := []) X (kX9_airOf l X.2.2.2.2.2.2.2 F _ _ _ _ _ _ _ hq40) kvX9_273 rfl (qX9) ⟨rfl, rfl, Nat.le_of_ble_eq_true rfl, Nat.le_of_ble_eq_true rfl⟩ rfl rfl (Nat.le_of_ble_eq_true rfl) dX9_air_40 ?_
          refine x_goto (pc := 43) X 48 dX9_air_43 (by decide) ?_
          refine x_sub [] rfl ?_
          exact wX9_air_L48 X hr hl F _ _ h
