set_option maxRecDepth 100000 in
set_option maxHeartbeats 4000000 in
theorem kX8_finding (l : Launch) {D : va_G} {A : Nat → Prop} {ad : Nat → Nat} {cI cX : ClassId} (hD : ∀ σ, va_D A ((wC ad cI cX) σ)) (F : Nat) (v1 : Int32) (σ : xSt) (r : Int32) (σ' : xSt) (h : mX8_finding F v1 σ = some (r, σ')) : xM l yX8_finding cX8_finding 2 (some .int) ({ frames := 0, cells := 0, slots := 0, locals := 0 }) D (tyC cI cX) A (wC ad cI cX) [.ref (ad 0), .int v1] σ (xQi D A (wC ad cI cX) r σ') := by
  refine xM_of (lv := [(0, .ref (ad 0)), (1, .int v1)]) [.ref (ad 0), .int v1] (by decide) hD rfl (Nat.le_of_ble_eq_true rfl) ?_
  intro p e s m args below meth c X hr hl
  unfold mX8_finding at h
  refine x_aload_n (pc := 0) X dX8_finding_0 rfl 0 rfl ?_
  refine x_iload_n (pc := 1) X dX8_finding_1 rfl 1 rfl ?_
  refine uX8_57 (pc := 2) X dX8_finding_2 ?_
  refine x_bipush (pc := 5) (v := (-10)) X dX8_finding_5 (by decide) ?_
  refine x_iload_n (pc := 7) X dX8_finding_7 rfl 1 rfl ?_
  refine x_isub (pc := 8) X dX8_finding_8 ?_
  exact x_iret (pc := 9) X hr hl h dX8_finding_9
set_option maxRecDepth 100000 in
set_option maxHeartbeats 4000000 in
theorem wX8_read_L87 {p : Program} {l : Launch} {e : Env} {s : State} {m : MethodId} {args : Array Value} {below : List Frame} {meth : Method} {c : Code} {D : va_G} {A : Nat → Prop} {ad : Nat → Nat} {cI cX : ClassId} {r : Int32} {σ' : xSt} (X : xX p s m args c cX8_read 5 RX8 D (tyC cI cX) A (wC ad cI cX)) (hr : meth.sig.returnType = (some .int)) (hl : meth.locks = false) (F : Nat) (v3 : Int32) (σ : xSt) (h : mX8_read_L87 F v3 σ = some (r, σ')) : xG p l e ({ frames := 2, cells := 0, slots := 0, locals := 47 }) s m args below meth c (MQ below (xQi D A (wC ad cI cX) r σ') args s 0 0 A) 5 D A (wC ad cI cX) σ 87 [(3, .int v3)] [] := by
  unfold mX8_read_L87 at h
  refine x_iload_n (pc := 87) X dX8_read_87 rfl 0 rfl ?_
  exact x_iret (pc := 88) X hr hl h dX8_read_88
set_option maxRecDepth 100000 in
set_option maxHeartbeats 4000000 in
theorem wX8_read_L75 {p : Program} {l : Launch} {e : Env} {s : State} {m : MethodId} {args : Array Value} {below : List Frame} {meth : Method} {c : Code} {D : va_G} {A : Nat → Prop} {ad : Nat → Nat} {cI cX : ClassId} {r : Int32} {σ' : xSt} (X : xX p s m args c cX8_read 5 RX8 D (tyC cI cX) A (wC ad cI cX)) (hr : meth.sig.returnType = (some .int)) (hl : meth.locks = false) (F : Nat) (v3 : Int32) (σ : xSt) (h : mX8_read_L75 F v3 σ = some (r, σ')) : xG p l e ({ frames := 2, cells := 0, slots := 0, locals := 47 }) s m args below meth c (MQ below (xQi D A (wC ad cI cX) r σ') args s 0 0 A) 5 D A (wC ad cI cX) σ 75 [(3, .int v3)] [] := by
  unfold mX8_read_L75 at h
  refine x_goto (pc := 75) X 87 dX8_read_75 (by decide) ?_
  refine x_sub [0] rfl ?_
  exact wX8_read_L87 X hr hl F _ _ h
set_option maxRecDepth 100000 in
set_option maxHeartbeats 4000000 in
theorem wX8_read_S35 {p : Program} {l : Launch} {e : Env} {s : State} {m : MethodId} {args : Array Value} {below : List Frame} {meth : Method} {c : Code} {D : va_G} {A : Nat → Prop} {ad : Nat → Nat} {cI cX : ClassId} {r : Int32} {σ' : xSt} {c35 : Nat → Int32 → Int32 → xSt → Option (Int32 × xSt)} (X : xX p s m args c cX8_read 5 RX8 D (tyC cI cX) A (wC ad cI cX)) (hr : meth.sig.returnType = (some .int)) (hl : meth.locks = false) (F : Nat) (hc35 : ∀ (kv2 : Nat) (v3 : Int32) (v4 : Int32) (σ : xSt), c35 kv2 v3 v4 σ = some (r, σ') → xG p l e ({ frames := 2, cells := 0, slots := 0, locals := 47 }) s m args below meth c (MQ below (xQi D A (wC ad cI cX) r σ') args s 0 0 A) 5 D A (wC ad cI cX) σ 35 [(0, .ref (ad 0)), (2, .ref (ad (37 + kv2))), (3, .int v3), (4, .int v4)] []) (kv2 : Nat) (v3 : Int32) (v4 : Int32) (σ : xSt) (h : mX8_read_S35 F c35 kv2 v3 v4 σ = some (r, σ')) : xG p l e ({ frames := 2, cells := 0, slots := 0, locals := 47 }) s m args below meth c (MQ below (xQi D A (wC ad cI cX) r σ') args s 0 0 A) 5 D A (wC ad cI cX) σ 35 [(0, .ref (ad 0)), (2, .ref (ad (37 + kv2))), (3, .int v3), (4, .int v4)] [] := by
  unfold mX8_read_S35 at h
  obtain ⟨hkv2, h⟩ := xck_some h
  have hkv2 := of_decide_eq_true hkv2
  refine x_iload (pc := 35) X dX8_read_35 3 rfl ?_
  refine x_iconst (pc := 37) (v := 2) X dX8_read_37 (by decide) ?_
  refine x_iadd (pc := 38) X dX8_read_38 ?_
  refine x_aload_n (pc := 39) X dX8_read_39 rfl 1 rfl ?_
  refine gX8_136 (pc := 40) X kv2 hkv2 dX8_read_40 ?_
  refine x_icmp_ge (pc := 43) X 87 dX8_read_43 (by decide) (fun hc => ?_) (fun hc => ?_)
  · have h := xit hc h
    refine x_sub [2] rfl ?_
    exact wX8_read_L87 X hr hl F _ _ h
  · have h := xif hc h
    refine x_aload_n (pc := 46) X dX8_read_46 rfl 0 rfl ?_
    refine x_aload_n (pc := 47) X dX8_read_47 rfl 1 rfl ?_
    refine x_iload (pc := 48) X dX8_read_48 3 rfl ?_
    obtain ⟨r50, σ50, hq50, h⟩ := xb2_some h
    refine x_calliV (pc := 50) (As := [.int v4]) (rest := [.ref (ad 0)]) X (kX5_item l X.2.2.2.2.2.2.2 F kv2 hkv2 _ _ _ _ hq50) kvX8_137 rfl (qX5 kv2 hkv2) ⟨rfl, rfl, Nat.le_of_ble_eq_true rfl, Nat.le_of_ble_eq_true rfl⟩ rfl rfl (Nat.le_of_ble_eq_true rfl) dX8_read_50 ?_
    refine x_aload_n (pc := 53) X dX8_read_53 rfl 1 rfl ?_
    refine x_iload (pc := 54) X dX8_read_54 3 rfl ?_
    refine x_iconst (pc := 56) (v := 1) X dX8_read_56 (by decide) ?_
    refine x_iadd (pc := 57) X dX8_read_57 ?_
    obtain ⟨r58, σ58, hq58, h⟩ := xb2_some h
    refine x_calliV (pc := 58) (As := [.int (v4 + 1)]) (rest := [.int r50, .ref (ad 0)]) X (kX5_item l X.2.2.2.2.2.2.2 F kv2 hkv2 _ _ _ _ hq58) kvX8_137 rfl (qX5 kv2 hkv2) ⟨rfl, rfl, Nat.le_of_ble_eq_true rfl, Nat.le_of_ble_eq_true rfl⟩ rfl rfl (Nat.le_of_ble_eq_true rfl) dX8_read_58 ?_
    refine x_aload_n (pc := 61) X dX8_read_61 rfl 1 rfl ?_
    refine x_iload (pc := 62) X dX8_read_62 3 rfl ?_
    refine x_iconst (pc := 64) (v := 2) X dX8_read_64 (by decide) ?_
    refine x_iadd (pc := 65) X dX8_read_65 ?_
    obtain ⟨r66, σ66, hq66, h⟩ := xb2_some h
    refine x_calliV (pc := 66) (As := [.int (v4 + 2)]) (rest := [.int r58, .int r50, .ref (ad 0)]) X (kX5_item l X.2.2.2.2.2.2.2 F kv2 hkv2 _ _ _ _ hq66) kvX8_137 rfl (qX5 kv2 hkv2) ⟨rfl, rfl, Nat.le_of_ble_eq_true rfl, Nat.le_of_ble_eq_true rfl⟩ rfl rfl (Nat.le_of_ble_eq_true rfl) dX8_read_66 ?_
    obtain ⟨r69, σ69, hq69, h⟩ := xb2_some h
    refine x_calliV (pc := 69) (As := [.int r50, .int r58, .int r66]) (rest := []) X (kX8_sit l X.2.2.2.2.2.2.2 F _ _ _ _ _ _ hq69) kvX8_140 rfl (qX8) ⟨rfl, rfl, Nat.le_of_ble_eq_true rfl, Nat.le_of_ble_eq_true rfl⟩ rfl rfl (Nat.le_of_ble_eq_true rfl) dX8_read_69 ?_
    refine x_if_ge (pc := 72) X 78 dX8_read_72 (by decide) (fun hc => ?_) (fun hc => ?_)
    · have h := xit hc h
      refine x_iinc (pc := 78) (v := (v3 + 1)) (lv' := [(3, .int (v3 + 1)), (0, .ref (ad 0)), (2, .ref (ad (37 + kv2))), (4, .int v4)]) X dX8_read_78 2 rfl rfl (by decide) rfl ?_
      refine x_iinc (pc := 81) (v := (v4 + 3)) (lv' := [(4, .int (v4 + 3)), (3, .int (v3 + 1)), (0, .ref (ad 0)), (2, .ref (ad (37 + kv2)))]) X dX8_read_81 3 rfl rfl (by decide) rfl ?_
      refine x_goto (pc := 84) X 35 dX8_read_84 (by decide) ?_
      refine x_sub [2, 3, 1, 0] rfl ?_
      exact hc35 _ _ _ _ h
    · have h := xif hc h
      refine x_sub [2] rfl ?_
      exact wX8_read_L75 X hr hl F _ _ h
theorem wX8_read_L35 {p : Program} {l : Launch} {e : Env} {s : State} {m : MethodId} {args : Array Value} {below : List Frame} {meth : Method} {c : Code} {D : va_G} {A : Nat → Prop} {ad : Nat → Nat} {cI cX : ClassId} {r : Int32} {σ' : xSt} (X : xX p s m args c cX8_read 5 RX8 D (tyC cI cX) A (wC ad cI cX)) (hr : meth.sig.returnType = (some .int)) (hl : meth.locks = false) (F : Nat) : ∀ (n : Nat) (kv2 : Nat) (v3 : Int32) (v4 : Int32) (σ : xSt), mX8_read_L35 F n kv2 v3 v4 σ = some (r, σ') → xG p l e ({ frames := 2, cells := 0, slots := 0, locals := 47 }) s m args below meth c (MQ below (xQi D A (wC ad cI cX) r σ') args s 0 0 A) 5 D A (wC ad cI cX) σ 35 [(0, .ref (ad 0)), (2, .ref (ad (37 + kv2))), (3, .int v3), (4, .int v4)] [] := by
  intro n
  induction n with
  | zero => intro kv2 v3 v4 σ h; cases h
  | succ n ih => intro kv2 v3 v4 σ h; exact wX8_read_S35 X hr hl F ih kv2 v3 v4 σ h
set_option maxRecDepth 100000 in
set_option maxHeartbeats 4000000 in
theorem kX8_read (l : Launch) {D : va_G} {A : Nat → Prop} {ad : Nat → Nat} {cI cX : ClassId} (hD : ∀ σ, va_D A ((wC ad cI cX) σ)) (F : Nat) (v1 : Int32) (σ : xSt) (r : Int32) (σ' : xSt) (h : mX8_read F v1 σ = some (r, σ')) : xM l yX8_read cX8_read 5 (some .int) ({ frames := 2, cells := 0, slots := 0, locals := 47 }) D (tyC cI cX) A (wC ad cI cX) [.ref (ad 0), .int v1] σ (xQi D A (wC ad cI cX) r σ') := by
  refine xM_of (lv := [(0, .ref (ad 0)), (1, .int v1)]) [.ref (ad 0), .int v1] (by decide) hD rfl (Nat.le_of_ble_eq_true rfl) ?_
  intro p e s m args below meth c X hr hl
  unfold mX8_read at h
  refine x_iload_n (pc := 0) X dX8_read_0 rfl 1 rfl ?_
  obtain ⟨r1, σ1, hq1, h⟩ := xb2_some h
  refine x_calliS (pc := 1) (As := [.int v1]) (rest := []) X (kX8_noSheet l X.2.2.2.2.2.2.2 F _ _ _ _ hq1) kvX8_126 ⟨rfl, rfl, Nat.le_of_ble_eq_true rfl, Nat.le_of_ble_eq_true rfl⟩ rfl rfl (Nat.le_of_ble_eq_true rfl) dX8_read_1 ?_
  refine x_if_eq (pc := 4) X 10 dX8_read_4 (by decide) (fun hc => ?_) (fun hc => ?_)
  · have h := xit hc h
    refine x_aload_n (pc := 10) X dX8_read_10 rfl 0 rfl ?_
    refine gX8_53 (pc := 11) X dX8_read_11 ?_
    refine x_iload_n (pc := 14) X dX8_read_14 rfl 1 rfl ?_
    obtain ⟨hb15, h⟩ := xck_some h
    refine x_aald (pc := 15) X hb15 dX8_read_15 ?_
    refine x_astore_n (pc := 16) (lv' := [(2, .ref (ad (37 + (Int32.toNatClampNeg v1)))), (0, .ref (ad 0)), (1, .int v1)]) X dX8_read_16 rfl (by decide) rfl ?_
    refine x_aload_n (pc := 17) X dX8_read_17 rfl 0 rfl ?_
    obtain ⟨r18, σ18, hq18, h⟩ := xb2_some h
    refine x_calliV (pc := 18) (As := []) (rest := []) X (kX5_isLost l X.2.2.2.2.2.2.2 F (Int32.toNatClampNeg v1) (xin_lt hb15) _ _ _ hq18) kvX8_129 rfl (qX5 (Int32.toNatClampNeg v1) (xin_lt hb15)) ⟨rfl, rfl, Nat.le_of_ble_eq_true rfl, Nat.le_of_ble_eq_true rfl⟩ rfl rfl (Nat.le_of_ble_eq_true rfl) dX8_read_18 ?_
    refine x_if_eq (pc := 21) X 30 dX8_read_21 (by decide) (fun hc => ?_) (fun hc => ?_)
    · have h := xit hc h
      refine x_iconst (pc := 30) (v := 0) X dX8_read_30 (by decide) ?_
      refine x_istore_n (pc := 31) (lv' := [(3, .int 0), (2, .ref (ad (37 + (Int32.toNatClampNeg v1)))), (0, .ref (ad 0)), (1, .int v1)]) X dX8_read_31 rfl (by decide) rfl ?_
      refine x_iconst (pc := 32) (v := 0) X dX8_read_32 (by decide) ?_
      refine x_istore (pc := 33) (lv' := [(4, .int 0), (3, .int 0), (2, .ref (ad (37 + (Int32.toNatClampNeg v1)))), (0, .ref (ad 0)), (1, .int v1)]) X dX8_read_33 (by decide) rfl ?_
      refine x_sub [3, 2, 1, 0] rfl ?_
      exact wX8_read_L35 X hr hl F F _ _ _ _ h
    · have h := xif hc h
      refine x_aload_n (pc := 24) X dX8_read_24 rfl 1 rfl ?_
      refine x_iconst (pc := 25) (v := 1) X dX8_read_25 (by decide) ?_
      obtain ⟨r26, σ26, hq26, h⟩ := xb2_some h
      refine x_calliV (pc := 26) (As := [.int 1]) (rest := []) X (kX8_finding l X.2.2.2.2.2.2.2 F _ _ _ _ hq26) kvX8_132 rfl (qX8) ⟨rfl, rfl, Nat.le_of_ble_eq_true rfl, Nat.le_of_ble_eq_true rfl⟩ rfl rfl (Nat.le_of_ble_eq_true rfl) dX8_read_26 ?_
      exact x_iret (pc := 29) X hr hl h dX8_read_29
  · have h := xif hc h
    refine x_bipush (pc := 7) (v := (-2)) X dX8_read_7 (by decide) ?_
    exact x_iret (pc := 9) X hr hl h dX8_read_9
set_option maxRecDepth 100000 in
set_option maxHeartbeats 4000000 in
theorem wX8_layers_L71 {p : Program} {l : Launch} {e : Env} {s : State} {m : MethodId} {args : Array Value} {below : List Frame} {meth : Method} {c : Code} {D : va_G} {A : Nat → Prop} {ad : Nat → Nat} {cI cX : ClassId} {r : Int32} {σ' : xSt} (X : xX p s m args c cX8_layers 4 RX8 D (tyC cI cX) A (wC ad cI cX)) (hr : meth.sig.returnType = (some .int)) (hl : meth.locks = false) (F : Nat) (t0 : Int32) (σ : xSt) (h : mX8_layers_L71 F t0 σ = some (r, σ')) : xG p l e ({ frames := 2, cells := 0, slots := 0, locals := 55 }) s m args below meth c (MQ below (xQi D A (wC ad cI cX) r σ') args s 0 0 A) 4 D A (wC ad cI cX) σ 71 [] [.int t0] := by
  unfold mX8_layers_L71 at h
  exact x_iret (pc := 71) X hr hl h dX8_layers_71
set_option maxRecDepth 100000 in
set_option maxHeartbeats 4000000 in
theorem wX8_layers_L28 {p : Program} {l : Launch} {e : Env} {s : State} {m : MethodId} {args : Array Value} {below : List Frame} {meth : Method} {c : Code} {D : va_G} {A : Nat → Prop} {ad : Nat → Nat} {cI cX : ClassId} {r : Int32} {σ' : xSt} (X : xX p s m args c cX8_layers 4 RX8 D (tyC cI cX) A (wC ad cI cX)) (hr : meth.sig.returnType = (some .int)) (hl : meth.locks = false) (F : Nat) (σ : xSt) (h : mX8_layers_L28 F σ = some (r, σ')) : xG p l e ({ frames := 2, cells := 0, slots := 0, locals := 55 }) s m args below meth c (MQ below (xQi D A (wC ad cI cX) r σ') args s 0 0 A) 4 D A (wC ad cI cX) σ 28 [] [] := by
  unfold mX8_layers_L28 at h
  refine x_bipush (pc := 28) (v := (-2)) X dX8_layers_28 (by decide) ?_
  exact x_iret (pc := 30) X hr hl h dX8_layers_30
set_option maxRecDepth 100000 in
set_option maxHeartbeats 4000000 in
theorem kX8_layers (l : Launch) {D : va_G} {A : Nat → Prop} {ad : Nat → Nat} {cI cX : ClassId} (hD : ∀ σ, va_D A ((wC ad cI cX) σ)) (F : Nat) (v1 : Int32) (v2 : Int32) (v3 : Int32) (σ : xSt) (r : Int32) (σ' : xSt) (h : mX8_layers F v1 v2 v3 σ = some (r, σ')) : xM l yX8_layers cX8_layers 4 (some .int) ({ frames := 2, cells := 0, slots := 0, locals := 55 }) D (tyC cI cX) A (wC ad cI cX) [.ref (ad 0), .int v1, .int v2, .int v3] σ (xQi D A (wC ad cI cX) r σ') := by
  refine xM_of (lv := [(0, .ref (ad 0)), (1, .int v1), (2, .int v2), (3, .int v3)]) [.ref (ad 0), .int v1, .int v2, .int v3] (by decide) hD rfl (Nat.le_of_ble_eq_true rfl) ?_
  intro p e s m args below meth c X hr hl
  unfold mX8_layers at h
  refine x_iload_n (pc := 0) X dX8_layers_0 rfl 1 rfl ?_
  obtain ⟨r1, σ1, hq1, h⟩ := xb2_some h
  refine x_calliS (pc := 1) (As := [.int v1]) (rest := []) X (kX8_noHour l X.2.2.2.2.2.2.2 F _ _ _ _ hq1) kvX8_100 ⟨rfl, rfl, Nat.le_of_ble_eq_true rfl, Nat.le_of_ble_eq_true rfl⟩ rfl rfl (Nat.le_of_ble_eq_true rfl) dX8_layers_1 ?_
  refine x_if_ne (pc := 4) X 28 dX8_layers_4 (by decide) (fun hc => ?_) (fun hc => ?_)
  · have h := xif hc h
    refine x_sub [] rfl ?_
    exact wX8_layers_L28 X hr hl F _ h
  · have h := xit hc h
    refine x_aload_n (pc := 7) X dX8_layers_7 rfl 0 rfl ?_
    refine gX8_12 (pc := 8) X dX8_layers_8 ?_
    refine x_iload_n (pc := 11) X dX8_layers_11 rfl 2 rfl ?_
    obtain ⟨r12, σ12, hq12, h⟩ := xb2_some h
    refine x_calliV (pc := 12) (As := [.int v2]) (rest := []) X (kX2_lacksThing l X.2.2.2.2.2.2.2 F _ _ _ _ hq12) kvX8_144 rfl (qX2) ⟨rfl, rfl, Nat.le_of_ble_eq_true rfl, Nat.le_of_ble_eq_true rfl⟩ rfl rfl (Nat.le_of_ble_eq_true rfl) dX8_layers_12 ?_
    refine x_if_ne (pc := 15) X 28 dX8_layers_15 (by decide) (fun hc => ?_) (fun hc => ?_)
    · have h := xif hc h
      refine x_sub [] rfl ?_
      exact wX8_layers_L28 X hr hl F _ h
    · have h := xit hc h
      refine x_iload_n (pc := 18) X dX8_layers_18 rfl 3 rfl ?_
      refine x_iconst (pc := 19) (v := (-1)) X dX8_layers_19 (by decide) ?_
      refine x_icmp_lt (pc := 20) X 28 dX8_layers_20 (by decide) (fun hc => ?_) (fun hc => ?_)
      · have h := xit hc h
        refine x_sub [] rfl ?_
        exact wX8_layers_L28 X hr hl F _ h
      · have h := xif hc h
        refine x_iload_n (pc := 23) X dX8_layers_23 rfl 3 rfl ?_
        refine x_iconst (pc := 24) (v := 5) X dX8_layers_24 (by decide) ?_
        refine x_icmp_lt (pc := 25) X 31 dX8_layers_25 (by decide) (fun hc => ?_) (fun hc => ?_)
        · have h := xit hc h
          refine x_aload_n (pc := 31) X dX8_layers_31 rfl 0 rfl ?_
          refine gX8_12 (pc := 32) X dX8_layers_32 ?_
          refine x_iload_n (pc := 35) X dX8_layers_35 rfl 2 rfl ?_
          refine x_iload_n (pc := 36) X dX8_layers_36 rfl 1 rfl ?_
          refine x_iconst (pc := 37) (v := 0) X dX8_layers_37 (by decide) ?_
          obtain ⟨r38, σ38, hq38, h⟩ := xb2_some h
          refine x_calliV (pc := 38) (As := [.int v2, .int v1, .int 0]) (rest := []) X (kX2_tellsBehind l X.2.2.2.2.2.2.2 F _ _ _ _ _ _ hq38) kvX8_147 rfl (qX2) ⟨rfl, rfl, Nat.le_of_ble_eq_true rfl, Nat.le_of_ble_eq_true rfl⟩ rfl rfl (Nat.le_of_ble_eq_true rfl) dX8_layers_38 ?_
          refine x_pop (pc := 41) X dX8_layers_41 rfl ?_
          refine x_iload_n (pc := 42) X dX8_layers_42 rfl 3 rfl ?_
          refine x_iconst (pc := 43) (v := (-1)) X dX8_layers_43 (by decide) ?_
          refine x_icmp_ne (pc := 44) X 60 dX8_layers_44 (by decide) (fun hc => ?_) (fun hc => ?_)
          · have h := xif hc h
            refine x_aload_n (pc := 60) X dX8_layers_60 rfl 0 rfl ?_
            refine gX8_12 (pc := 61) X dX8_layers_61 ?_
            refine gX8_150 (pc := 64) X dX8_layers_64 ?_
            refine x_iload_n (pc := 67) X dX8_layers_67 rfl 3 rfl ?_
            obtain ⟨r68, σ68, hq68, h⟩ := xb2_some h
            refine x_calliV (pc := 68) (As := [.int v3]) (rest := []) X (kX3_smellAt l X.2.2.2.2.2.2.2 F _ _ _ _ hq68) kvX8_157 rfl (qX3) ⟨rfl, rfl, Nat.le_of_ble_eq_true rfl, Nat.le_of_ble_eq_true rfl⟩ rfl rfl (Nat.le_of_ble_eq_true rfl) dX8_layers_68 ?_
            refine x_sub [] rfl ?_
            exact wX8_layers_L71 X hr hl F _ _ h
          · have h := xit hc h
            refine x_aload_n (pc := 47) X dX8_layers_47 rfl 0 rfl ?_
            refine gX8_12 (pc := 48) X dX8_layers_48 ?_
            refine gX8_150 (pc := 51) X dX8_layers_51 ?_
            refine gX8_154 (pc := 54) X dX8_layers_54 ?_
            refine x_goto (pc := 57) X 71 dX8_layers_57 (by decide) ?_
            refine x_sub [] rfl ?_
            exact wX8_layers_L71 X hr hl F _ _ h
        · have h := xif hc h
          refine x_sub [] rfl ?_
          exact wX8_layers_L28 X hr hl F _ h
set_option maxRecDepth 100000 in
set_option maxHeartbeats 4000000 in
theorem wX8_strong_L27 {p : Program} {l : Launch} {e : Env} {s : State} {m : MethodId} {args : Array Value} {below : List Frame} {meth : Method} {c : Code} {D : va_G} {A : Nat → Prop} {ad : Nat → Nat} {cI cX : ClassId} {r : Int32} {σ' : xSt} (X : xX p s m args c cX8_strong 4 RX8 D (tyC cI cX) A (wC ad cI cX)) (hr : meth.sig.returnType = (some .int)) (hl : meth.locks = false) (F : Nat) (σ : xSt) (h : mX8_strong_L27 F σ = some (r, σ')) : xG p l e ({ frames := 2, cells := 0, slots := 0, locals := 55 }) s m args below meth c (MQ below (xQi D A (wC ad cI cX) r σ') args s 0 0 A) 4 D A (wC ad cI cX) σ 27 [] [] := by
  unfold mX8_strong_L27 at h
  refine x_bipush (pc := 27) (v := (-2)) X dX8_strong_27 (by decide) ?_
  exact x_iret (pc := 29) X hr hl h dX8_strong_29
set_option maxRecDepth 100000 in
set_option maxHeartbeats 4000000 in
theorem kX8_strong (l : Launch) {D : va_G} {A : Nat → Prop} {ad : Nat → Nat} {cI cX : ClassId} (hD : ∀ σ, va_D A ((wC ad cI cX) σ)) (F : Nat) (v1 : Int32) (v2 : Int32) (v3 : Int32) (σ : xSt) (r : Int32) (σ' : xSt) (h : mX8_strong F v1 v2 v3 σ = some (r, σ')) : xM l yX8_strong cX8_strong 4 (some .int) ({ frames := 2, cells := 0, slots := 0, locals := 55 }) D (tyC cI cX) A (wC ad cI cX) [.ref (ad 0), .int v1, .int v2, .int v3] σ (xQi D A (wC ad cI cX) r σ') := by
  refine xM_of (lv := [(0, .ref (ad 0)), (1, .int v1), (2, .int v2), (3, .int v3)]) [.ref (ad 0), .int v1, .int v2, .int v3] (by decide) hD rfl (Nat.le_of_ble_eq_true rfl) ?_
  intro p e s m args below meth c X hr hl
  unfold mX8_strong at h
  refine x_iload_n (pc := 0) X dX8_strong_0 rfl 1 rfl ?_
  obtain ⟨r1, σ1, hq1, h⟩ := xb2_some h
  refine x_calliS (pc := 1) (As := [.int v1]) (rest := []) X (kX8_noHour l X.2.2.2.2.2.2.2 F _ _ _ _ hq1) kvX8_100 ⟨rfl, rfl, Nat.le_of_ble_eq_true rfl, Nat.le_of_ble_eq_true rfl⟩ rfl rfl (Nat.le_of_ble_eq_true rfl) dX8_strong_1 ?_
  refine x_if_ne (pc := 4) X 27 dX8_strong_4 (by decide) (fun hc => ?_) (fun hc => ?_)
  · have h := xif hc h
    refine x_sub [] rfl ?_
    exact wX8_strong_L27 X hr hl F _ h
  · have h := xit hc h
    refine x_aload_n (pc := 7) X dX8_strong_7 rfl 0 rfl ?_
    refine gX8_12 (pc := 8) X dX8_strong_8 ?_
    refine x_iload_n (pc := 11) X dX8_strong_11 rfl 2 rfl ?_
    obtain ⟨r12, σ12, hq12, h⟩ := xb2_some h
    refine x_calliV (pc := 12) (As := [.int v2]) (rest := []) X (kX2_lacksThing l X.2.2.2.2.2.2.2 F _ _ _ _ hq12) kvX8_144 rfl (qX2) ⟨rfl, rfl, Nat.le_of_ble_eq_true rfl, Nat.le_of_ble_eq_true rfl⟩ rfl rfl (Nat.le_of_ble_eq_true rfl) dX8_strong_12 ?_
    refine x_if_ne (pc := 15) X 27 dX8_strong_15 (by decide) (fun hc => ?_) (fun hc => ?_)
    · have h := xif hc h
      refine x_sub [] rfl ?_
      exact wX8_strong_L27 X hr hl F _ h
    · have h := xit hc h
      refine x_iload_n (pc := 18) X dX8_strong_18 rfl 3 rfl ?_
      refine x_if_lt (pc := 19) X 27 dX8_strong_19 (by decide) (fun hc => ?_) (fun hc => ?_)
      · have h := xit hc h
        refine x_sub [] rfl ?_
        exact wX8_strong_L27 X hr hl F _ h
      · have h := xif hc h
        refine x_iload_n (pc := 22) X dX8_strong_22 rfl 3 rfl ?_
        refine x_iconst (pc := 23) (v := 5) X dX8_strong_23 (by decide) ?_
        refine x_icmp_lt (pc := 24) X 30 dX8_strong_24 (by decide) (fun hc => ?_) (fun hc => ?_)
        · have h := xit hc h
          refine x_aload_n (pc := 30) X dX8_strong_30 rfl 0 rfl ?_
          refine gX8_12 (pc := 31) X dX8_strong_31 ?_
          refine x_iload_n (pc := 34) X dX8_strong_34 rfl 2 rfl ?_
          refine x_iload_n (pc := 35) X dX8_strong_35 rfl 1 rfl ?_
          refine x_iconst (pc := 36) (v := 0) X dX8_strong_36 (by decide) ?_
          obtain ⟨r37, σ37, hq37, h⟩ := xb2_some h
          refine x_calliV (pc := 37) (As := [.int v2, .int v1, .int 0]) (rest := []) X (kX2_tellsBehind l X.2.2.2.2.2.2.2 F _ _ _ _ _ _ hq37) kvX8_147 rfl (qX2) ⟨rfl, rfl, Nat.le_of_ble_eq_true rfl, Nat.le_of_ble_eq_true rfl⟩ rfl rfl (Nat.le_of_ble_eq_true rfl) dX8_strong_37 ?_
          refine x_pop (pc := 40) X dX8_strong_40 rfl ?_
          refine x_aload_n (pc := 41) X dX8_strong_41 rfl 0 rfl ?_
          refine gX8_12 (pc := 42) X dX8_strong_42 ?_
          refine gX8_150 (pc := 45) X dX8_strong_45 ?_
          refine x_iload_n (pc := 48) X dX8_strong_48 rfl 3 rfl ?_
          obtain ⟨r49, σ49, hq49, h⟩ := xb2_some h
          refine x_calliV (pc := 49) (As := [.int v3]) (rest := []) X (kX3_strengthAt l X.2.2.2.2.2.2.2 F _ _ _ _ hq49) kvX8_160 rfl (qX3) ⟨rfl, rfl, Nat.le_of_ble_eq_true rfl, Nat.le_of_ble_eq_true rfl⟩ rfl rfl (Nat.le_of_ble_eq_true rfl) dX8_strong_49 ?_
          exact x_iret (pc := 52) X hr hl h dX8_strong_52
        · have h := xif hc h
          refine x_sub [] rfl ?_
          exact wX8_strong_L27 X hr hl F _ h
set_option maxRecDepth 100000 in
set_option maxHeartbeats 4000000 in
theorem wX8_tells_L54 {p : Program} {l : Launch} {e : Env} {s : State} {m : MethodId} {args : Array Value} {below : List Frame} {meth : Method} {c : Code} {D : va_G} {A : Nat → Prop} {ad : Nat → Nat} {cI cX : ClassId} {r : Int32} {σ' : xSt} (X : xX p s m args c cX8_tells 3 RX8 D (tyC cI cX) A (wC ad cI cX)) (hr : meth.sig.returnType = (some .int)) (hl : meth.locks = false) (F : Nat) (t0 : Int32) (σ : xSt) (h : mX8_tells_L54 F t0 σ = some (r, σ')) : xG p l e ({ frames := 3, cells := 0, slots := 0, locals := 79 }) s m args below meth c (MQ below (xQi D A (wC ad cI cX) r σ') args s 0 0 A) 3 D A (wC ad cI cX) σ 54 [] [.int t0] := by
  unfold mX8_tells_L54 at h
  exact x_iret (pc := 54) X hr hl h dX8_tells_54
set_option maxRecDepth 100000 in
set_option maxHeartbeats 4000000 in
theorem wX8_tells_L26 {p : Program} {l : Launch} {e : Env} {s : State} {m : MethodId} {args : Array Value} {below : List Frame} {meth : Method} {c : Code} {D : va_G} {A : Nat → Prop} {ad : Nat → Nat} {cI cX : ClassId} {r : Int32} {σ' : xSt} (X : xX p s m args c cX8_tells 3 RX8 D (tyC cI cX) A (wC ad cI cX)) (hr : meth.sig.returnType = (some .int)) (hl : meth.locks = false) (F : Nat) (v1 : Int32) (v2 : Int32) (σ : xSt) (h : mX8_tells_L26 F v1 v2 σ = some (r, σ')) : xG p l e ({ frames := 3, cells := 0, slots := 0, locals := 79 }) s m args below meth c (MQ below (xQi D A (wC ad cI cX) r σ') args s 0 0 A) 3 D A (wC ad cI cX) σ 26 [(0, .ref (ad 0)), (1, .int v1), (2, .int v2)] [] := by
  unfold mX8_tells_L26 at h
  refine x_iload_n (pc := 26) X dX8_tells_26 rfl 2 rfl ?_
  refine x_iconst (pc := 27) (v := (-1)) X dX8_tells_27 (by decide) ?_
  refine x_icmp_ne (pc := 28) X 44 dX8_tells_28 (by decide) (fun hc => ?_) (fun hc => ?_)
  · have h := xif hc h
    refine x_aload_n (pc := 44) X dX8_tells_44 rfl 0 rfl ?_
    refine gX8_12 (pc := 45) X dX8_tells_45 ?_
    refine x_iload_n (pc := 48) X dX8_tells_48 rfl 2 rfl ?_
    refine x_iload_n (pc := 49) X dX8_tells_49 rfl 1 rfl ?_
    refine x_iconst (pc := 50) (v := 0) X dX8_tells_50 (by decide) ?_
    obtain ⟨r51, σ51, hq51, h⟩ := xb2_some h
    refine x_calliV (pc := 51) (As := [.int v2, .int v1, .int 0]) (rest := []) X (kX2_tellsBehind l X.2.2.2.2.2.2.2 F _ _ _ _ _ _ hq51) kvX8_147 rfl (qX2) ⟨rfl, rfl, Nat.le_of_ble_eq_true rfl, Nat.le_of_ble_eq_true rfl⟩ rfl rfl (Nat.le_of_ble_eq_true rfl) dX8_tells_51 ?_
    refine x_sub [] rfl ?_
    exact wX8_tells_L54 X hr hl F _ _ h
  · have h := xit hc h
    refine x_aload_n (pc := 31) X dX8_tells_31 rfl 0 rfl ?_
    refine gX8_12 (pc := 32) X dX8_tells_32 ?_
    refine x_iload_n (pc := 35) X dX8_tells_35 rfl 1 rfl ?_
    refine x_bipush (pc := 36) (v := 63) X dX8_tells_36 (by decide) ?_
    obtain ⟨r38, σ38, hq38, h⟩ := xb2_some h
    refine x_calliV (pc := 38) (As := [.int v1, .int 63]) (rest := []) X (kX2_allTell l X.2.2.2.2.2.2.2 F _ _ _ _ _ hq38) kvX8_163 rfl (qX2) ⟨rfl, rfl, Nat.le_of_ble_eq_true rfl, Nat.le_of_ble_eq_true rfl⟩ rfl rfl (Nat.le_of_ble_eq_true rfl) dX8_tells_38 ?_
    refine x_goto (pc := 41) X 54 dX8_tells_41 (by decide) ?_
    refine x_sub [] rfl ?_
    exact wX8_tells_L54 X hr hl F _ _ h
set_option maxRecDepth 100000 in
set_option maxHeartbeats 4000000 in
theorem wX8_tells_L23 {p : Program} {l : Launch} {e : Env} {s : State} {m : MethodId} {args : Array Value} {below : List Frame} {meth : Method} {c : Code} {D : va_G} {A : Nat → Prop} {ad : Nat → Nat} {cI cX : ClassId} {r : Int32} {σ' : xSt} (X : xX p s m args c cX8_tells 3 RX8 D (tyC cI cX) A (wC ad cI cX)) (hr : meth.sig.returnType = (some .int)) (hl : meth.locks = false) (F : Nat) (σ : xSt) (h : mX8_tells_L23 F σ = some (r, σ')) : xG p l e ({ frames := 3, cells := 0, slots := 0, locals := 79 }) s m args below meth c (MQ below (xQi D A (wC ad cI cX) r σ') args s 0 0 A) 3 D A (wC ad cI cX) σ 23 [] [] := by
  unfold mX8_tells_L23 at h
  refine x_bipush (pc := 23) (v := (-2)) X dX8_tells_23 (by decide) ?_
  exact x_iret (pc := 25) X hr hl h dX8_tells_25
set_option maxRecDepth 100000 in
set_option maxHeartbeats 4000000 in
theorem kX8_tells (l : Launch) {D : va_G} {A : Nat → Prop} {ad : Nat → Nat} {cI cX : ClassId} (hD : ∀ σ, va_D A ((wC ad cI cX) σ)) (F : Nat) (v1 : Int32) (v2 : Int32) (σ : xSt) (r : Int32) (σ' : xSt) (h : mX8_tells F v1 v2 σ = some (r, σ')) : xM l yX8_tells cX8_tells 3 (some .int) ({ frames := 3, cells := 0, slots := 0, locals := 79 }) D (tyC cI cX) A (wC ad cI cX) [.ref (ad 0), .int v1, .int v2] σ (xQi D A (wC ad cI cX) r σ') := by
  refine xM_of (lv := [(0, .ref (ad 0)), (1, .int v1), (2, .int v2)]) [.ref (ad 0), .int v1, .int v2] (by decide) hD rfl (Nat.le_of_ble_eq_true rfl) ?_
  intro p e s m args below meth c X hr hl
  unfold mX8_tells at h
  refine x_iload_n (pc := 0) X dX8_tells_0 rfl 1 rfl ?_
  obtain ⟨r1, σ1, hq1, h⟩ := xb2_some h
  refine x_calliS (pc := 1) (As := [.int v1]) (rest := []) X (kX8_noHour l X.2.2.2.2.2.2.2 F _ _ _ _ hq1) kvX8_100 ⟨rfl, rfl, Nat.le_of_ble_eq_true rfl, Nat.le_of_ble_eq_true rfl⟩ rfl rfl (Nat.le_of_ble_eq_true rfl) dX8_tells_1 ?_
  refine x_if_ne (pc := 4) X 23 dX8_tells_4 (by decide) (fun hc => ?_) (fun hc => ?_)
  · have h := xif hc h
    refine x_sub [] rfl ?_
    exact wX8_tells_L23 X hr hl F _ h
  · have h := xit hc h
    refine x_iload_n (pc := 7) X dX8_tells_7 rfl 2 rfl ?_
    refine x_iconst (pc := 8) (v := (-1)) X dX8_tells_8 (by decide) ?_
    refine x_icmp_eq (pc := 9) X 26 dX8_tells_9 (by decide) (fun hc => ?_) (fun hc => ?_)
    · have h := xit hc h
      refine x_sub [0, 1, 2] rfl ?_
      exact wX8_tells_L26 X hr hl F _ _ _ h
    · have h := xif hc h
      refine x_aload_n (pc := 12) X dX8_tells_12 rfl 0 rfl ?_
      refine gX8_12 (pc := 13) X dX8_tells_13 ?_
      refine x_iload_n (pc := 16) X dX8_tells_16 rfl 2 rfl ?_
      obtain ⟨r17, σ17, hq17, h⟩ := xb2_some h
      refine x_calliV (pc := 17) (As := [.int v2]) (rest := []) X (kX2_lacksThing l X.2.2.2.2.2.2.2 F _ _ _ _ hq17) kvX8_144 rfl (qX2) ⟨rfl, rfl, Nat.le_of_ble_eq_true rfl, Nat.le_of_ble_eq_true rfl⟩ rfl rfl (Nat.le_of_ble_eq_true rfl) dX8_tells_17 ?_
      refine x_if_eq (pc := 20) X 26 dX8_tells_20 (by decide) (fun hc => ?_) (fun hc => ?_)
      · have h := xit hc h
        refine x_sub [0, 1, 2] rfl ?_
        exact wX8_tells_L26 X hr hl F _ _ _ h
      · have h := xif hc h
        refine x_sub [] rfl ?_
        exact wX8_tells_L23 X hr hl F _ h
set_option maxRecDepth 100000 in
set_option maxHeartbeats 4000000 in
theorem wX8_nowhere_L144 {p : Program} {l : Launch} {e : Env} {s : State} {m : MethodId} {args : Array Value} {below : List Frame} {meth : Method} {c : Code} {D : va_G} {A : Nat → Prop} {ad : Nat → Nat} {cI cX : ClassId} {r : Int32} {σ' : xSt} (X : xX p s m args c cX8_nowhere 6 RX8 D (tyC cI cX) A (wC ad cI cX)) (hr : meth.sig.returnType = (some .int)) (hl : meth.locks = false) (F : Nat) (v3 : Int32) (σ : xSt) (h : mX8_nowhere_L144 F v3 σ = some (r, σ')) : xG p l e ({ frames := 3, cells := 0, slots := 0, locals := 79 }) s m args below meth c (MQ below (xQi D A (wC ad cI cX) r σ') args s 0 0 A) 6 D A (wC ad cI cX) σ 144 [(3, .int v3)] [] := by
  unfold mX8_nowhere_L144 at h
  refine x_iload_n (pc := 144) X dX8_nowhere_144 rfl 0 rfl ?_
  exact x_iret (pc := 145) X hr hl h dX8_nowhere_145
set_option maxRecDepth 100000 in
set_option maxHeartbeats 4000000 in
theorem wX8_nowhere_L138 {p : Program} {l : Launch} {e : Env} {s : State} {m : MethodId} {args : Array Value} {below : List Frame} {meth : Method} {c : Code} {D : va_G} {A : Nat → Prop} {ad : Nat → Nat} {cI cX : ClassId} {r : Int32} {σ' : xSt} {c26 : Int32 → Int32 → Int32 → Int32 → xSt → Option (Int32 × xSt)} (X : xX p s m args c cX8_nowhere 6 RX8 D (tyC cI cX) A (wC ad cI cX)) (hr : meth.sig.returnType = (some .int)) (hl : meth.locks = false) (F : Nat) (hc26 : ∀ (v1 : Int32) (v2 : Int32) (v3 : Int32) (v4 : Int32) (σ : xSt), c26 v1 v2 v3 v4 σ = some (r, σ') → xG p l e ({ frames := 3, cells := 0, slots := 0, locals := 79 }) s m args below meth c (MQ below (xQi D A (wC ad cI cX) r σ') args s 0 0 A) 6 D A (wC ad cI cX) σ 26 [(0, .ref (ad 0)), (1, .int v1), (2, .int v2), (3, .int v3), (4, .int v4)] []) (v1 : Int32) (v2 : Int32) (v3 : Int32) (v4 : Int32) (σ : xSt) (h : mX8_nowhere_L138 F c26 v1 v2 v3 v4 σ = some (r, σ')) : xG p l e ({ frames := 3, cells := 0, slots := 0, locals := 79 }) s m args below meth c (MQ below (xQi D A (wC ad cI cX) r σ') args s 0 0 A) 6 D A (wC ad cI cX) σ 138 [(0, .ref (ad 0)), (1, .int v1), (2, .int v2), (3, .int v3), (4, .int v4)] [] := by
  unfold mX8_nowhere_L138 at h
  refine x_iinc (pc := 138) (v := (v4 + 1)) (lv' := [(4, .int (v4 + 1)), (0, .ref (ad 0)), (1, .int v1), (2, .int v2), (3, .int v3)]) X dX8_nowhere_138 4 rfl rfl (by decide) rfl ?_
  refine x_goto (pc := 141) X 26 dX8_nowhere_141 (by decide) ?_
  refine x_sub [1, 2, 3, 4, 0] rfl ?_
  exact hc26 _ _ _ _ _ h
set_option maxRecDepth 100000 in
set_option maxHeartbeats 4000000 in
theorem wX8_nowhere_S26 {p : Program} {l : Launch} {e : Env} {s : State} {m : MethodId} {args : Array Value} {below : List Frame} {meth : Method} {c : Code} {D : va_G} {A : Nat → Prop} {ad : Nat → Nat} {cI cX : ClassId} {r : Int32} {σ' : xSt} {c26 : Int32 → Int32 → Int32 → Int32 → xSt → Option (Int32 × xSt)} (X : xX p s m args c cX8_nowhere 6 RX8 D (tyC cI cX) A (wC ad cI cX)) (hr : meth.sig.returnType = (some .int)) (hl : meth.locks = false) (F : Nat) (hc26 : ∀ (v1 : Int32) (v2 : Int32) (v3 : Int32) (v4 : Int32) (σ : xSt), c26 v1 v2 v3 v4 σ = some (r, σ') → xG p l e ({ frames := 3, cells := 0, slots := 0, locals := 79 }) s m args below meth c (MQ below (xQi D A (wC ad cI cX) r σ') args s 0 0 A) 6 D A (wC ad cI cX) σ 26 [(0, .ref (ad 0)), (1, .int v1), (2, .int v2), (3, .int v3), (4, .int v4)] []) (v1 : Int32) (v2 : Int32) (v3 : Int32) (v4 : Int32) (σ : xSt) (h : mX8_nowhere_S26 F c26 v1 v2 v3 v4 σ = some (r, σ')) : xG p l e ({ frames := 3, cells := 0, slots := 0, locals := 79 }) s m args below meth c (MQ below (xQi D A (wC ad cI cX) r σ') args s 0 0 A) 6 D A (wC ad cI cX) σ 26 [(0, .ref (ad 0)), (1, .int v1), (2, .int v2), (3, .int v3), (4, .int v4)] [] := by
  unfold mX8_nowhere_S26 at h
  refine x_iload (pc := 26) X dX8_nowhere_26 4 rfl ?_
  refine x_aload_n (pc := 28) X dX8_nowhere_28 rfl 0 rfl ?_
  refine gX8_12 (pc := 29) X dX8_nowhere_29 ?_
  refine gX8_109 (pc := 32) X dX8_nowhere_32 ?_
  refine gX8_117 (pc := 35) X 0 (by decide) dX8_nowhere_35 ?_
  refine x_icmp_ge (pc := 38) X 144 dX8_nowhere_38 (by decide) (fun hc => ?_) (fun hc => ?_)
  · have h := xit hc h
    refine x_sub [3] rfl ?_
    exact wX8_nowhere_L144 X hr hl F _ _ h
  · have h := xif hc h
    refine x_aload_n (pc := 41) X dX8_nowhere_41 rfl 0 rfl ?_
    refine gX8_12 (pc := 42) X dX8_nowhere_42 ?_
    refine gX8_109 (pc := 45) X dX8_nowhere_45 ?_
    refine gX8_166 (pc := 48) X 0 (by decide) dX8_nowhere_48 ?_
    refine x_iload (pc := 51) X dX8_nowhere_51 4 rfl ?_
    obtain ⟨hb53, h⟩ := xck_some h
    refine x_iald (pc := 53) X (31 + 0) 0 (qaX7_others 0 (by decide)) rfl hb53 dX8_nowhere_53 ?_
    refine x_istore (pc := 54) (lv' := [(5, .int (xA σ (21 + 0) (Int32.toNatClampNeg v4))), (0, .ref (ad 0)), (1, .int v1), (2, .int v2), (3, .int v3), (4, .int v4)]) X dX8_nowhere_54 (by decide) rfl ?_
    refine x_aload_n (pc := 56) X dX8_nowhere_56 rfl 1 rfl ?_
    refine gX8_12 (pc := 57) X dX8_nowhere_57 ?_
    refine gX8_109 (pc := 60) X dX8_nowhere_60 ?_
    refine gX8_170 (pc := 63) X 0 (by decide) dX8_nowhere_63 ?_
    refine x_iload (pc := 66) X dX8_nowhere_66 5 rfl ?_
    obtain ⟨hb68, h⟩ := xck_some h
    refine x_iald (pc := 68) X (25 + 0) 0 (qaX7_hours 0 (by decide)) rfl hb68 dX8_nowhere_68 ?_
    refine x_iload_n (pc := 69) X dX8_nowhere_69 rfl 2 rfl ?_
    refine x_icmp_gt (pc := 70) X 138 dX8_nowhere_70 (by decide) (fun hc => ?_) (fun hc => ?_)
    · have h := xit hc h
      refine x_sub [1, 2, 3, 4, 5] rfl ?_
      exact wX8_nowhere_L138 X hr hl F hc26 _ _ _ _ _ h
    · have h := xif hc h
      refine x_aload_n (pc := 73) X dX8_nowhere_73 rfl 1 rfl ?_
      refine gX8_12 (pc := 74) X dX8_nowhere_74 ?_
      refine x_aload_n (pc := 77) X dX8_nowhere_77 rfl 1 rfl ?_
      refine gX8_12 (pc := 78) X dX8_nowhere_78 ?_
      refine gX8_109 (pc := 81) X dX8_nowhere_81 ?_
      refine gX8_173 (pc := 84) X 0 (by decide) dX8_nowhere_84 ?_
      refine x_iload (pc := 87) X dX8_nowhere_87 5 rfl ?_
      obtain ⟨hb89, h⟩ := xck_some h
      refine x_iald (pc := 89) X (28 + 0) 0 (qaX7_things 0 (by decide)) rfl hb89 dX8_nowhere_89 ?_
      obtain ⟨r90, σ90, hq90, h⟩ := xb2_some h
      refine x_calliV (pc := 90) (As := [.int (xA σ (18 + 0) (Int32.toNatClampNeg v4))]) (rest := []) X (kX2_lacksThing l X.2.2.2.2.2.2.2 F _ _ _ _ hq90) kvX8_144 rfl (qX2) ⟨rfl, rfl, Nat.le_of_ble_eq_true rfl, Nat.le_of_ble_eq_true rfl⟩ rfl rfl (Nat.le_of_ble_eq_true rfl) dX8_nowhere_90 ?_
      refine x_if_ne (pc := 93) X 138 dX8_nowhere_93 (by decide) (fun hc => ?_) (fun hc => ?_)
      · have h := xif hc h
        refine x_sub [1, 2, 3, 4, 5] rfl ?_
        exact wX8_nowhere_L138 X hr hl F hc26 _ _ _ _ _ h
      · have h := xit hc h
        refine x_aload_n (pc := 96) X dX8_nowhere_96 rfl 1 rfl ?_
        refine gX8_12 (pc := 97) X dX8_nowhere_97 ?_
        refine x_iload (pc := 100) X dX8_nowhere_100 0 rfl ?_
        obtain ⟨r102, σ102, hq102, h⟩ := xb2_some h
        refine x_calliV (pc := 102) (As := [.int (xA σ (21 + 0) (Int32.toNatClampNeg v4))]) (rest := []) X (kX2_lacksPerson l X.2.2.2.2.2.2.2 F _ _ _ _ hq102) kvX8_175 rfl (qX2) ⟨rfl, rfl, Nat.le_of_ble_eq_true rfl, Nat.le_of_ble_eq_true rfl⟩ rfl rfl (Nat.le_of_ble_eq_true rfl) dX8_nowhere_102 ?_
        refine x_if_eq (pc := 105) X 111 dX8_nowhere_105 (by decide) (fun hc => ?_) (fun hc => ?_)
        · have h := xit hc h
          refine x_iload_n (pc := 111) X dX8_nowhere_111 rfl 3 rfl ?_
          refine x_aload_n (pc := 112) X dX8_nowhere_112 rfl 1 rfl ?_
          refine gX8_12 (pc := 113) X dX8_nowhere_113 ?_
          refine gX8_97 (pc := 116) X dX8_nowhere_116 ?_
          refine gX8_178 (pc := 119) X 1 (by decide) dX8_nowhere_119 ?_
          refine x_iload (pc := 122) X dX8_nowhere_122 0 rfl ?_
          obtain ⟨hb124, h⟩ := xck_some h
          refine x_iald (pc := 124) X (20 + 1) 0 (qaX6_third 1 (by decide)) rfl hb124 dX8_nowhere_124 ?_
          obtain ⟨r125, σ125, hq125, h⟩ := xb2_some h
          refine x_calliS (pc := 125) (As := [.int v2, .int (xA σ102 (12 + 1) (Int32.toNatClampNeg (xA σ (21 + 0) (Int32.toNatClampNeg v4))))]) (rest := []) X (kX8_holds l X.2.2.2.2.2.2.2 F _ _ _ _ _ hq125) kvX8_181 ⟨rfl, rfl, Nat.le_of_ble_eq_true rfl, Nat.le_of_ble_eq_true rfl⟩ rfl rfl (Nat.le_of_ble_eq_true rfl) dX8_nowhere_125 ?_
          refine x_if_ne (pc := 128) X 138 dX8_nowhere_128 (by decide) (fun hc => ?_) (fun hc => ?_)
          · have h := xif hc h
            refine x_sub [1, 2, 3, 4, 5] rfl ?_
            exact wX8_nowhere_L138 X hr hl F hc26 _ _ _ _ _ h
          · have h := xit hc h
            refine x_iload_n (pc := 131) X dX8_nowhere_131 rfl 4 rfl ?_
            refine x_iconst (pc := 132) (v := 1) X dX8_nowhere_132 (by decide) ?_
            refine x_iload (pc := 133) X dX8_nowhere_133 0 rfl ?_
            refine x_ishl (pc := 135) X dX8_nowhere_135 ?_
            refine x_ior (pc := 136) X dX8_nowhere_136 ?_
            refine x_istore_n (pc := 137) (lv' := [(3, .int (v3 ||| (1 <<< ((xA σ (21 + 0) (Int32.toNatClampNeg v4)) &&& 31)))), (5, .int (xA σ (21 + 0) (Int32.toNatClampNeg v4))), (0, .ref (ad 0)), (1, .int v1), (2, .int v2), (4, .int v4)]) X dX8_nowhere_137 rfl (by decide) rfl ?_
            refine x_sub [2, 3, 4, 0, 5] rfl ?_
            exact wX8_nowhere_L138 X hr hl F hc26 _ _ _ _ _ h
        · have h := xif hc h
          refine x_goto (pc := 108) X 138 dX8_nowhere_108 (by decide) ?_
          refine x_sub [1, 2, 3, 4, 5] rfl ?_
          exact wX8_nowhere_L138 X hr hl F hc26 _ _ _ _ _ h
theorem wX8_nowhere_L26 {p : Program} {l : Launch} {e : Env} {s : State} {m : MethodId} {args : Array Value} {below : List Frame} {meth : Method} {c : Code} {D : va_G} {A : Nat → Prop} {ad : Nat → Nat} {cI cX : ClassId} {r : Int32} {σ' : xSt} (X : xX p s m args c cX8_nowhere 6 RX8 D (tyC cI cX) A (wC ad cI cX)) (hr : meth.sig.returnType = (some .int)) (hl : meth.locks = false) (F : Nat) : ∀ (n : Nat) (v1 : Int32) (v2 : Int32) (v3 : Int32) (v4 : Int32) (σ : xSt), mX8_nowhere_L26 F n v1 v2 v3 v4 σ = some (r, σ') → xG p l e ({ frames := 3, cells := 0, slots := 0, locals := 79 }) s m args below meth c (MQ below (xQi D A (wC ad cI cX) r σ') args s 0 0 A) 6 D A (wC ad cI cX) σ 26 [(0, .ref (ad 0)), (1, .int v1), (2, .int v2), (3, .int v3), (4, .int v4)] [] := by
  intro n
  induction n with
  | zero => intro v1 v2 v3 v4 σ h; cases h
  | succ n ih => intro v1 v2 v3 v4 σ h; exact wX8_nowhere_S26 X hr hl F ih v1 v2 v3 v4 σ h
set_option maxRecDepth 100000 in
set_option maxHeartbeats 4000000 in
theorem kX8_nowhere (l : Launch) {D : va_G} {A : Nat → Prop} {ad : Nat → Nat} {cI cX : ClassId} (hD : ∀ σ, va_D A ((wC ad cI cX) σ)) (F : Nat) (v1 : Int32) (σ : xSt) (r : Int32) (σ' : xSt) (h : mX8_nowhere F v1 σ = some (r, σ')) : xM l yX8_nowhere cX8_nowhere 6 (some .int) ({ frames := 3, cells := 0, slots := 0, locals := 79 }) D (tyC cI cX) A (wC ad cI cX) [.ref (ad 0), .int v1] σ (xQi D A (wC ad cI cX) r σ') := by
  refine xM_of (lv := [(0, .ref (ad 0)), (1, .int v1)]) [.ref (ad 0), .int v1] (by decide) hD rfl (Nat.le_of_ble_eq_true rfl) ?_
  intro p e s m args below meth c X hr hl
  unfold mX8_nowhere at h
  refine x_iload_n (pc := 0) X dX8_nowhere_0 rfl 1 rfl ?_
  obtain ⟨r1, σ1, hq1, h⟩ := xb2_some h
  refine x_calliS (pc := 1) (As := [.int v1]) (rest := []) X (kX8_noHour l X.2.2.2.2.2.2.2 F _ _ _ _ hq1) kvX8_100 ⟨rfl, rfl, Nat.le_of_ble_eq_true rfl, Nat.le_of_ble_eq_true rfl⟩ rfl rfl (Nat.le_of_ble_eq_true rfl) dX8_nowhere_1 ?_
  refine x_if_eq (pc := 4) X 10 dX8_nowhere_4 (by decide) (fun hc => ?_) (fun hc => ?_)
  · have h := xit hc h
    refine x_aload_n (pc := 10) X dX8_nowhere_10 rfl 0 rfl ?_
    refine gX8_12 (pc := 11) X dX8_nowhere_11 ?_
    refine x_iload_n (pc := 14) X dX8_nowhere_14 rfl 1 rfl ?_
    refine x_bipush (pc := 15) (v := 63) X dX8_nowhere_15 (by decide) ?_
    obtain ⟨r17, σ17, hq17, h⟩ := xb2_some h
    refine x_calliV (pc := 17) (As := [.int v1, .int 63]) (rest := []) X (kX2_allTell l X.2.2.2.2.2.2.2 F _ _ _ _ _ hq17) kvX8_163 rfl (qX2) ⟨rfl, rfl, Nat.le_of_ble_eq_true rfl, Nat.le_of_ble_eq_true rfl⟩ rfl rfl (Nat.le_of_ble_eq_true rfl) dX8_nowhere_17 ?_
    refine x_istore_n (pc := 20) (lv' := [(2, .int r17), (0, .ref (ad 0)), (1, .int v1)]) X dX8_nowhere_20 rfl (by decide) rfl ?_
    refine x_iconst (pc := 21) (v := 0) X dX8_nowhere_21 (by decide) ?_
    refine x_istore_n (pc := 22) (lv' := [(3, .int 0), (2, .int r17), (0, .ref (ad 0)), (1, .int v1)]) X dX8_nowhere_22 rfl (by decide) rfl ?_
    refine x_iconst (pc := 23) (v := 0) X dX8_nowhere_23 (by decide) ?_
    refine x_istore (pc := 24) (lv' := [(4, .int 0), (3, .int 0), (2, .int r17), (0, .ref (ad 0)), (1, .int v1)]) X dX8_nowhere_24 (by decide) rfl ?_
    refine x_sub [3, 4, 2, 1, 0] rfl ?_
    exact wX8_nowhere_L26 X hr hl F F _ _ _ _ _ h
  · have h := xif hc h
    refine x_bipush (pc := 7) (v := (-2)) X dX8_nowhere_7 (by decide) ?_
    exact x_iret (pc := 9) X hr hl h dX8_nowhere_9
set_option maxRecDepth 100000 in
set_option maxHeartbeats 4000000 in
theorem wX8_last_L57 {p : Program} {l : Launch} {e : Env} {s : State} {m : MethodId} {args : Array Value} {below : List Frame} {meth : Method} {c : Code} {D : va_G} {A : Nat → Prop} {ad : Nat → Nat} {cI cX : ClassId} {r : Int32} {σ' : xSt} (X : xX p s m args c cX8_last 4 RX8 D (tyC cI cX) A (wC ad cI cX)) (hr : meth.sig.returnType = (some .int)) (hl : meth.locks = false) (F : Nat) (σ : xSt) (h : mX8_last_L57 F σ = some (r, σ')) : xG p l e ({ frames := 2, cells := 0, slots := 0, locals := 55 }) s m args below meth c (MQ below (xQi D A (wC ad cI cX) r σ') args s 0 0 A) 4 D A (wC ad cI cX) σ 57 [] [] := by
  unfold mX8_last_L57 at h
  refine x_iconst (pc := 57) (v := (-1)) X dX8_last_57 (by decide) ?_
  exact x_iret (pc := 58) X hr hl h dX8_last_58
set_option maxRecDepth 100000 in
set_option maxHeartbeats 4000000 in
theorem wX8_last_L49 {p : Program} {l : Launch} {e : Env} {s : State} {m : MethodId} {args : Array Value} {below : List Frame} {meth : Method} {c : Code} {D : va_G} {A : Nat → Prop} {ad : Nat → Nat} {cI cX : ClassId} {r : Int32} {σ' : xSt} (X : xX p s m args c cX8_last 4 RX8 D (tyC cI cX) A (wC ad cI cX)) (hr : meth.sig.returnType = (some .int)) (hl : meth.locks = false) (F : Nat) (v3 : Int32) (σ : xSt) (h : mX8_last_L49 F v3 σ = some (r, σ')) : xG p l e ({ frames := 2, cells := 0, slots := 0, locals := 55 }) s m args below meth c (MQ below (xQi D A (wC ad cI cX) r σ') args s 0 0 A) 4 D A (wC ad cI cX) σ 49 [(3, .int v3)] [] := by
  unfold mX8_last_L49 at h
  refine x_iload_n (pc := 49) X dX8_last_49 rfl 0 rfl ?_
  exact x_iret (pc := 50) X hr hl h dX8_last_50
set_option maxRecDepth 100000 in
set_option maxHeartbeats 4000000 in
theorem wX8_last_S28 {p : Program} {l : Launch} {e : Env} {s : State} {m : MethodId} {args : Array Value} {below : List Frame} {meth : Method} {c : Code} {D : va_G} {A : Nat → Prop} {ad : Nat → Nat} {cI cX : ClassId} {r : Int32} {σ' : xSt} {c28 : Int32 → Int32 → Int32 → xSt → Option (Int32 × xSt)} (X : xX p s m args c cX8_last 4 RX8 D (tyC cI cX) A (wC ad cI cX)) (hr : meth.sig.returnType = (some .int)) (hl : meth.locks = false) (F : Nat) (hc28 : ∀ (v1 : Int32) (v2 : Int32) (v3 : Int32) (σ : xSt), c28 v1 v2 v3 σ = some (r, σ') → xG p l e ({ frames := 2, cells := 0, slots := 0, locals := 55 }) s m args below meth c (MQ below (xQi D A (wC ad cI cX) r σ') args s 0 0 A) 4 D A (wC ad cI cX) σ 28 [(0, .ref (ad 0)), (1, .int v1), (2, .int v2), (3, .int v3)] []) (v1 : Int32) (v2 : Int32) (v3 : Int32) (σ : xSt) (h : mX8_last_S28 F c28 v1 v2 v3 σ = some (r, σ')) : xG p l e ({ frames := 2, cells := 0, slots := 0, locals := 55 }) s m args below meth c (MQ below (xQi D A (wC ad cI cX) r σ') args s 0 0 A) 4 D A (wC ad cI cX) σ 28 [(0, .ref (ad 0)), (1, .int v1), (2, .int v2), (3, .int v3)] [] := by
  unfold mX8_last_S28 at h
  refine x_iload_n (pc := 28) X dX8_last_28 rfl 3 rfl ?_
  refine x_if_lt (pc := 29) X 57 dX8_last_29 (by decide) (fun hc => ?_) (fun hc => ?_)
  · have h := xit hc h
    refine x_sub [] rfl ?_
    exact wX8_last_L57 X hr hl F _ h
  · have h := xif hc h
    refine x_aload_n (pc := 32) X dX8_last_32 rfl 0 rfl ?_
    refine gX8_12 (pc := 33) X dX8_last_33 ?_
    refine x_iload_n (pc := 36) X dX8_last_36 rfl 1 rfl ?_
    refine x_iload_n (pc := 37) X dX8_last_37 rfl 3 rfl ?_
    refine x_iconst (pc := 38) (v := 0) X dX8_last_38 (by decide) ?_
    obtain ⟨r39, σ39, hq39, h⟩ := xb2_some h
    refine x_calliV (pc := 39) (As := [.int v1, .int v3, .int 0]) (rest := []) X (kX2_tellsBehind l X.2.2.2.2.2.2.2 F _ _ _ _ _ _ hq39) kvX8_147 rfl (qX2) ⟨rfl, rfl, Nat.le_of_ble_eq_true rfl, Nat.le_of_ble_eq_true rfl⟩ rfl rfl (Nat.le_of_ble_eq_true rfl) dX8_last_39 ?_
    refine x_iload_n (pc := 42) X dX8_last_42 rfl 2 rfl ?_
    obtain ⟨r43, σ43, hq43, h⟩ := xb2_some h
    refine x_calliS (pc := 43) (As := [.int r39, .int v2]) (rest := []) X (kX8_holds l X.2.2.2.2.2.2.2 F _ _ _ _ _ hq43) kvX8_181 ⟨rfl, rfl, Nat.le_of_ble_eq_true rfl, Nat.le_of_ble_eq_true rfl⟩ rfl rfl (Nat.le_of_ble_eq_true rfl) dX8_last_43 ?_
    refine x_if_eq (pc := 46) X 51 dX8_last_46 (by decide) (fun hc => ?_) (fun hc => ?_)
    · have h := xit hc h
      refine x_iinc (pc := 51) (v := (v3 + (-1))) (lv' := [(3, .int (v3 + (-1))), (0, .ref (ad 0)), (1, .int v1), (2, .int v2)]) X dX8_last_51 3 rfl rfl (by decide) rfl ?_
      refine x_goto (pc := 54) X 28 dX8_last_54 (by decide) ?_
      refine x_sub [1, 2, 3, 0] rfl ?_
      exact hc28 _ _ _ _ h
    · have h := xif hc h
      refine x_sub [3] rfl ?_
      exact wX8_last_L49 X hr hl F _ _ h
theorem wX8_last_L28 {p : Program} {l : Launch} {e : Env} {s : State} {m : MethodId} {args : Array Value} {below : List Frame} {meth : Method} {c : Code} {D : va_G} {A : Nat → Prop} {ad : Nat → Nat} {cI cX : ClassId} {r : Int32} {σ' : xSt} (X : xX p s m args c cX8_last 4 RX8 D (tyC cI cX) A (wC ad cI cX)) (hr : meth.sig.returnType = (some .int)) (hl : meth.locks = false) (F : Nat) : ∀ (n : Nat) (v1 : Int32) (v2 : Int32) (v3 : Int32) (σ : xSt), mX8_last_L28 F n v1 v2 v3 σ = some (r, σ') → xG p l e ({ frames := 2, cells := 0, slots := 0, locals := 55 }) s m args below meth c (MQ below (xQi D A (wC ad cI cX) r σ') args s 0 0 A) 4 D A (wC ad cI cX) σ 28 [(0, .ref (ad 0)), (1, .int v1), (2, .int v2), (3, .int v3)] [] := by
  intro n
  induction n with
  | zero => intro v1 v2 v3 σ h; cases h
  | succ n ih => intro v1 v2 v3 σ h; exact wX8_last_S28 X hr hl F ih v1 v2 v3 σ h
set_option maxRecDepth 100000 in
set_option maxHeartbeats 4000000 in
theorem wX8_last_L22 {p : Program} {l : Launch} {e : Env} {s : State} {m : MethodId} {args : Array Value} {below : List Frame} {meth : Method} {c : Code} {D : va_G} {A : Nat → Prop} {ad : Nat → Nat} {cI cX : ClassId} {r : Int32} {σ' : xSt} (X : xX p s m args c cX8_last 4 RX8 D (tyC cI cX) A (wC ad cI cX)) (hr : meth.sig.returnType = (some .int)) (hl : meth.locks = false) (F : Nat) (σ : xSt) (h : mX8_last_L22 F σ = some (r, σ')) : xG p l e ({ frames := 2, cells := 0, slots := 0, locals := 55 }) s m args below meth c (MQ below (xQi D A (wC ad cI cX) r σ') args s 0 0 A) 4 D A (wC ad cI cX) σ 22 [] [] := by
  unfold mX8_last_L22 at h
  refine x_bipush (pc := 22) (v := (-2)) X dX8_last_22 (by decide) ?_
  exact x_iret (pc := 24) X hr hl h dX8_last_24
set_option maxRecDepth 100000 in
set_option maxHeartbeats 4000000 in
theorem kX8_last (l : Launch) {D : va_G} {A : Nat → Prop} {ad : Nat → Nat} {cI cX : ClassId} (hD : ∀ σ, va_D A ((wC ad cI cX) σ)) (F : Nat) (v1 : Int32) (v2 : Int32) (σ : xSt) (r : Int32) (σ' : xSt) (h : mX8_last F v1 v2 σ = some (r, σ')) : xM l yX8_last cX8_last 4 (some .int) ({ frames := 2, cells := 0, slots := 0, locals := 55 }) D (tyC cI cX) A (wC ad cI cX) [.ref (ad 0), .int v1, .int v2] σ (xQi D A (wC ad cI cX) r σ') := by
  refine xM_of (lv := [(0, .ref (ad 0)), (1, .int v1), (2, .int v2)]) [.ref (ad 0), .int v1, .int v2] (by decide) hD rfl (Nat.le_of_ble_eq_true rfl) ?_
  intro p e s m args below meth c X hr hl
  unfold mX8_last at h
  refine x_aload_n (pc := 0) X dX8_last_0 rfl 0 rfl ?_
  refine gX8_12 (pc := 1) X dX8_last_1 ?_
  refine x_iload_n (pc := 4) X dX8_last_4 rfl 1 rfl ?_
  obtain ⟨r5, σ5, hq5, h⟩ := xb2_some h
  refine x_calliV (pc := 5) (As := [.int v1]) (rest := []) X (kX2_lacksThing l X.2.2.2.2.2.2.2 F _ _ _ _ hq5) kvX8_144 rfl (qX2) ⟨rfl, rfl, Nat.le_of_ble_eq_true rfl, Nat.le_of_ble_eq_true rfl⟩ rfl rfl (Nat.le_of_ble_eq_true rfl) dX8_last_5 ?_
  refine x_if_ne (pc := 8) X 22 dX8_last_8 (by decide) (fun hc => ?_) (fun hc => ?_)
  · have h := xif hc h
    refine x_sub [] rfl ?_
    exact wX8_last_L22 X hr hl F _ h
  · have h := xit hc h
    refine x_aload_n (pc := 11) X dX8_last_11 rfl 0 rfl ?_
    refine gX8_12 (pc := 12) X dX8_last_12 ?_
    refine x_iload_n (pc := 15) X dX8_last_15 rfl 2 rfl ?_
    obtain ⟨r16, σ16, hq16, h⟩ := xb2_some h
    refine x_calliV (pc := 16) (As := [.int v2]) (rest := []) X (kX2_lacksPerson l X.2.2.2.2.2.2.2 F _ _ _ _ hq16) kvX8_175 rfl (qX2) ⟨rfl, rfl, Nat.le_of_ble_eq_true rfl, Nat.le_of_ble_eq_true rfl⟩ rfl rfl (Nat.le_of_ble_eq_true rfl) dX8_last_16 ?_
    refine x_if_eq (pc := 19) X 25 dX8_last_19 (by decide) (fun hc => ?_) (fun hc => ?_)
    · have h := xit hc h
      refine x_bipush (pc := 25) (v := 23) X dX8_last_25 (by decide) ?_
      refine x_istore_n (pc := 27) (lv' := [(3, .int 23), (0, .ref (ad 0)), (1, .int v1), (2, .int v2)]) X dX8_last_27 rfl (by decide) rfl ?_
      refine x_sub [1, 2, 3, 0] rfl ?_
      exact wX8_last_L28 X hr hl F F _ _ _ _ h
    · have h := xif hc h
      refine x_sub [] rfl ?_
      exact wX8_last_L22 X hr hl F _ h
set_option maxRecDepth 100000 in
set_option maxHeartbeats 4000000 in
theorem kJ13_bitCount_95d88 (l : Launch) {D : va_G} {A : Nat → Prop} {ad : Nat → Nat} {cI cX : ClassId} (hD : ∀ σ, va_D A ((wC ad cI cX) σ)) (F : Nat) (v0 : Int64) (σ : xSt) (r : Int32) (σ' : xSt) (h : mJ13_bitCount_95d88 F v0 σ = some (r, σ')) : xM l yJ13_bitCount_95d88 cJ13_bitCount_95d88 2 (some .int) ({ frames := 0, cells := 0, slots := 0, locals := 0 }) D (tyC cI cX) A (wC ad cI cX) [.long v0] σ (xQi D A (wC ad cI cX) r σ') := by
  refine xM_of (lv := [(0, .long v0)]) [.long v0] (by decide) hD rfl (Nat.le_of_ble_eq_true rfl) ?_
  intro p e s m args below meth c X hr hl
  unfold mJ13_bitCount_95d88 at h
  refine x_lload_n (pc := 0) X dJ13_bitCount_95d88_0 rfl 0 rfl ?_
  refine x_lload_n (pc := 1) X dJ13_bitCount_95d88_1 rfl 0 rfl ?_
  refine x_iconst (pc := 2) (v := 1) X dJ13_bitCount_95d88_2 (by decide) ?_
  refine x_lushr (pc := 3) X dJ13_bitCount_95d88_3 ?_
  refine x_ldc2 (pc := 4) X kcJ13_314 dJ13_bitCount_95d88_4 ?_
  refine x_land (pc := 7) X dJ13_bitCount_95d88_7 ?_
  refine x_lsub (pc := 8) X dJ13_bitCount_95d88_8 ?_
  refine x_lstore_n (pc := 9) (lv' := [(0, .long (v0 - ((Int64.toUInt64 v0 >>> (Int64.toUInt64 (Int32.toInt64 1) &&& Int64.toUInt64 63)).toInt64 &&& 6148914691236517205)))]) X dJ13_bitCount_95d88_9 rfl (by decide) rfl ?_
  refine x_lload_n (pc := 10) X dJ13_bitCount_95d88_10 rfl 0 rfl ?_
  refine x_ldc2 (pc := 11) X kcJ13_316 dJ13_bitCount_95d88_11 ?_
  refine x_land (pc := 14) X dJ13_bitCount_95d88_14 ?_
  refine x_lload_n (pc := 15) X dJ13_bitCount_95d88_15 rfl 0 rfl ?_
  refine x_iconst (pc := 16) (v := 2) X dJ13_bitCount_95d88_16 (by decide) ?_
  refine x_lushr (pc := 17) X dJ13_bitCount_95d88_17 ?_
  refine x_ldc2 (pc := 18) X kcJ13_316 dJ13_bitCount_95d88_18 ?_
  refine x_land (pc := 21) X dJ13_bitCount_95d88_21 ?_
  refine x_ladd (pc := 22) X dJ13_bitCount_95d88_22 ?_
  refine x_lstore_n (pc := 23) (lv' := [(0, .long (((v0 - ((Int64.toUInt64 v0 >>> (Int64.toUInt64 (Int32.toInt64 1) &&& Int64.toUInt64 63)).toInt64 &&& 6148914691236517205)) &&& 3689348814741910323) + ((Int64.toUInt64 (v0 - ((Int64.toUInt64 v0 >>> (Int64.toUInt64 (Int32.toInt64 1) &&& Int64.toUInt64 63)).toInt64 &&& 6148914691236517205)) >>> (Int64.toUInt64 (Int32.toInt64 2) &&& Int64.toUInt64 63)).toInt64 &&& 3689348814741910323)))]) X dJ13_bitCount_95d88_23 rfl (by decide) rfl ?_
  refine x_lload_n (pc := 24) X dJ13_bitCount_95d88_24 rfl 0 rfl ?_
  refine x_lload_n (pc := 25) X dJ13_bitCount_95d88_25 rfl 0 rfl ?_
  refine x_iconst (pc := 26) (v := 4) X dJ13_bitCount_95d88_26 (by decide) ?_
  refine x_lushr (pc := 27) X dJ13_bitCount_95d88_27 ?_
  refine x_ladd (pc := 28) X dJ13_bitCount_95d88_28 ?_
  refine x_ldc2 (pc := 29) X kcJ13_318 dJ13_bitCount_95d88_29 ?_
  refine x_land (pc := 32) X dJ13_bitCount_95d88_32 ?_
  refine x_lstore_n (pc := 33) (lv' := [(0, .long (((((v0 - ((Int64.toUInt64 v0 >>> (Int64.toUInt64 (Int32.toInt64 1) &&& Int64.toUInt64 63)).toInt64 &&& 6148914691236517205)) &&& 3689348814741910323) + ((Int64.toUInt64 (v0 - ((Int64.toUInt64 v0 >>> (Int64.toUInt64 (Int32.toInt64 1) &&& Int64.toUInt64 63)).toInt64 &&& 6148914691236517205)) >>> (Int64.toUInt64 (Int32.toInt64 2) &&& Int64.toUInt64 63)).toInt64 &&& 3689348814741910323)) + (Int64.toUInt64 (((v0 - ((Int64.toUInt64 v0 >>> (Int64.toUInt64 (Int32.toInt64 1) &&& Int64.toUInt64 63)).toInt64 &&& 6148914691236517205)) &&& 3689348814741910323) + ((Int64.toUInt64 (v0 - ((Int64.toUInt64 v0 >>> (Int64.toUInt64 (Int32.toInt64 1) &&& Int64.toUInt64 63)).toInt64 &&& 6148914691236517205)) >>> (Int64.toUInt64 (Int32.toInt64 2) &&& Int64.toUInt64 63)).toInt64 &&& 3689348814741910323)) >>> (Int64.toUInt64 (Int32.toInt64 4) &&& Int64.toUInt64 63)).toInt64) &&& 1085102592571150095))]) X dJ13_bitCount_95d88_33 rfl (by decide) rfl ?_
  refine x_lload_n (pc := 34) X dJ13_bitCount_95d88_34 rfl 0 rfl ?_
  refine x_lload_n (pc := 35) X dJ13_bitCount_95d88_35 rfl 0 rfl ?_
  refine x_bipush (pc := 36) (v := 8) X dJ13_bitCount_95d88_36 (by decide) ?_
  refine x_lushr (pc := 38) X dJ13_bitCount_95d88_38 ?_
  refine x_ladd (pc := 39) X dJ13_bitCount_95d88_39 ?_
  refine x_lstore_n (pc := 40) (lv' := [(0, .long ((((((v0 - ((Int64.toUInt64 v0 >>> (Int64.toUInt64 (Int32.toInt64 1) &&& Int64.toUInt64 63)).toInt64 &&& 6148914691236517205)) &&& 3689348814741910323) + ((Int64.toUInt64 (v0 - ((Int64.toUInt64 v0 >>> (Int64.toUInt64 (Int32.toInt64 1) &&& Int64.toUInt64 63)).toInt64 &&& 6148914691236517205)) >>> (Int64.toUInt64 (Int32.toInt64 2) &&& Int64.toUInt64 63)).toInt64 &&& 3689348814741910323)) + (Int64.toUInt64 (((v0 - ((Int64.toUInt64 v0 >>> (Int64.toUInt64 (Int32.toInt64 1) &&& Int64.toUInt64 63)).toInt64 &&& 6148914691236517205)) &&& 3689348814741910323) + ((Int64.toUInt64 (v0 - ((Int64.toUInt64 v0 >>> (Int64.toUInt64 (Int32.toInt64 1) &&& Int64.toUInt64 63)).toInt64 &&& 6148914691236517205)) >>> (Int64.toUInt64 (Int32.toInt64 2) &&& Int64.toUInt64 63)).toInt64 &&& 3689348814741910323)) >>> (Int64.toUInt64 (Int32.toInt64 4) &&& Int64.toUInt64 63)).toInt64) &&& 1085102592571150095) + (Int64.toUInt64 (((((v0 - ((Int64.toUInt64 v0 >>> (Int64.toUInt64 (Int32.toInt64 1) &&& Int64.toUInt64 63)).toInt64 &&& 6148914691236517205)) &&& 3689348814741910323) + ((Int64.toUInt64 (v0 - ((Int64.toUInt64 v0 >>> (Int64.toUInt64 (Int32.toInt64 1) &&& Int64.toUInt64 63)).toInt64 &&& 6148914691236517205)) >>> (Int64.toUInt64 (Int32.toInt64 2) &&& Int64.toUInt64 63)).toInt64 &&& 3689348814741910323)) + (Int64.toUInt64 (((v0 - ((Int64.toUInt64 v0 >>> (Int64.toUInt64 (Int32.toInt64 1) &&& Int64.toUInt64 63)).toInt64 &&& 6148914691236517205)) &&& 3689348814741910323) + ((Int64.toUInt64 (v0 - ((Int64.toUInt64 v0 >>> (Int64.toUInt64 (Int32.toInt64 1) &&& Int64.toUInt64 63)).toInt64 &&& 6148914691236517205)) >>> (Int64.toUInt64 (Int32.toInt64 2) &&& Int64.toUInt64 63)).toInt64 &&& 3689348814741910323)) >>> (Int64.toUInt64 (Int32.toInt64 4) &&& Int64.toUInt64 63)).toInt64) &&& 1085102592571150095) >>> (Int64.toUInt64 (Int32.toInt64 8) &&& Int64.toUInt64 63)).toInt64))]) X dJ13_bitCount_95d88_40 rfl (by decide) rfl ?_
  refine x_lload_n (pc := 41) X dJ13_bitCount_95d88_41 rfl 0 rfl ?_
  refine x_lload_n (pc := 42) X dJ13_bitCount_95d88_42 rfl 0 rfl ?_
  refine x_bipush (pc := 43) (v := 16) X dJ13_bitCount_95d88_43 (by decide) ?_
  refine x_lushr (pc := 45) X dJ13_bitCount_95d88_45 ?_
  refine x_ladd (pc := 46) X dJ13_bitCount_95d88_46 ?_
  refine x_lstore_n (pc := 47) (lv' := [(0, .long (((((((v0 - ((Int64.toUInt64 v0 >>> (Int64.toUInt64 (Int32.toInt64 1) &&& Int64.toUInt64 63)).toInt64 &&& 6148914691236517205)) &&& 3689348814741910323) + ((Int64.toUInt64 (v0 - ((Int64.toUInt64 v0 >>> (Int64.toUInt64 (Int32.toInt64 1) &&& Int64.toUInt64 63)).toInt64 &&& 6148914691236517205)) >>> (Int64.toUInt64 (Int32.toInt64 2) &&& Int64.toUInt64 63)).toInt64 &&& 3689348814741910323)) + (Int64.toUInt64 (((v0 - ((Int64.toUInt64 v0 >>> (Int64.toUInt64 (Int32.toInt64 1) &&& Int64.toUInt64 63)).toInt64 &&& 6148914691236517205)) &&& 3689348814741910323) + ((Int64.toUInt64 (v0 - ((Int64.toUInt64 v0 >>> (Int64.toUInt64 (Int32.toInt64 1) &&& Int64.toUInt64 63)).toInt64 &&& 6148914691236517205)) >>> (Int64.toUInt64 (Int32.toInt64 2) &&& Int64.toUInt64 63)).toInt64 &&& 3689348814741910323)) >>> (Int64.toUInt64 (Int32.toInt64 4) &&& Int64.toUInt64 63)).toInt64) &&& 1085102592571150095) + (Int64.toUInt64 (((((v0 - ((Int64.toUInt64 v0 >>> (Int64.toUInt64 (Int32.toInt64 1) &&& Int64.toUInt64 63)).toInt64 &&& 6148914691236517205)) &&& 3689348814741910323) + ((Int64.toUInt64 (v0 - ((Int64.toUInt64 v0 >>> (Int64.toUInt64 (Int32.toInt64 1) &&& Int64.toUInt64 63)).toInt64 &&& 6148914691236517205)) >>> (Int64.toUInt64 (Int32.toInt64 2) &&& Int64.toUInt64 63)).toInt64 &&& 3689348814741910323)) + (Int64.toUInt64 (((v0 - ((Int64.toUInt64 v0 >>> (Int64.toUInt64 (Int32.toInt64 1) &&& Int64.toUInt64 63)).toInt64 &&& 6148914691236517205)) &&& 3689348814741910323) + ((Int64.toUInt64 (v0 - ((Int64.toUInt64 v0 >>> (Int64.toUInt64 (Int32.toInt64 1) &&& Int64.toUInt64 63)).toInt64 &&& 6148914691236517205)) >>> (Int64.toUInt64 (Int32.toInt64 2) &&& Int64.toUInt64 63)).toInt64 &&& 3689348814741910323)) >>> (Int64.toUInt64 (Int32.toInt64 4) &&& Int64.toUInt64 63)).toInt64) &&& 1085102592571150095) >>> (Int64.toUInt64 (Int32.toInt64 8) &&& Int64.toUInt64 63)).toInt64) + (Int64.toUInt64 ((((((v0 - ((Int64.toUInt64 v0 >>> (Int64.toUInt64 (Int32.toInt64 1) &&& Int64.toUInt64 63)).toInt64 &&& 6148914691236517205)) &&& 3689348814741910323) + ((Int64.toUInt64 (v0 - ((Int64.toUInt64 v0 >>> (Int64.toUInt64 (Int32.toInt64 1) &&& Int64.toUInt64 63)).toInt64 &&& 6148914691236517205)) >>> (Int64.toUInt64 (Int32.toInt64 2) &&& Int64.toUInt64 63)).toInt64 &&& 3689348814741910323)) + (Int64.toUInt64 (((v0 - ((Int64.toUInt64 v0 >>> (Int64.toUInt64 (Int32.toInt64 1) &&& Int64.toUInt64 63)).toInt64 &&& 6148914691236517205)) &&& 3689348814741910323) + ((Int64.toUInt64 (v0 - ((Int64.toUInt64 v0 >>> (Int64.toUInt64 (Int32.toInt64 1) &&& Int64.toUInt64 63)).toInt64 &&& 6148914691236517205)) >>> (Int64.toUInt64 (Int32.toInt64 2) &&& Int64.toUInt64 63)).toInt64 &&& 3689348814741910323)) >>> (Int64.toUInt64 (Int32.toInt64 4) &&& Int64.toUInt64 63)).toInt64) &&& 1085102592571150095) + (Int64.toUInt64 (((((v0 - ((Int64.toUInt64 v0 >>> (Int64.toUInt64 (Int32.toInt64 1) &&& Int64.toUInt64 63)).toInt64 &&& 6148914691236517205)) &&& 3689348814741910323) + ((Int64.toUInt64 (v0 - ((Int64.toUInt64 v0 >>> (Int64.toUInt64 (Int32.toInt64 1) &&& Int64.toUInt64 63)).toInt64 &&& 6148914691236517205)) >>> (Int64.toUInt64 (Int32.toInt64 2) &&& Int64.toUInt64 63)).toInt64 &&& 3689348814741910323)) + (Int64.toUInt64 (((v0 - ((Int64.toUInt64 v0 >>> (Int64.toUInt64 (Int32.toInt64 1) &&& Int64.toUInt64 63)).toInt64 &&& 6148914691236517205)) &&& 3689348814741910323) + ((Int64.toUInt64 (v0 - ((Int64.toUInt64 v0 >>> (Int64.toUInt64 (Int32.toInt64 1) &&& Int64.toUInt64 63)).toInt64 &&& 6148914691236517205)) >>> (Int64.toUInt64 (Int32.toInt64 2) &&& Int64.toUInt64 63)).toInt64 &&& 3689348814741910323)) >>> (Int64.toUInt64 (Int32.toInt64 4) &&& Int64.toUInt64 63)).toInt64) &&& 1085102592571150095) >>> (Int64.toUInt64 (Int32.toInt64 8) &&& Int64.toUInt64 63)).toInt64) >>> (Int64.toUInt64 (Int32.toInt64 16) &&& Int64.toUInt64 63)).toInt64))]) X dJ13_bitCount_95d88_47 rfl (by decide) rfl ?_
  refine x_lload_n (pc := 48) X dJ13_bitCount_95d88_48 rfl 0 rfl ?_
  refine x_lload_n (pc := 49) X dJ13_bitCount_95d88_49 rfl 0 rfl ?_
  refine x_bipush (pc := 50) (v := 32) X dJ13_bitCount_95d88_50 (by decide) ?_
  refine x_lushr (pc := 52) X dJ13_bitCount_95d88_52 ?_
  refine x_ladd (pc := 53) X dJ13_bitCount_95d88_53 ?_
  refine x_lstore_n (pc := 54) (lv' := [(0, .long ((((((((v0 - ((Int64.toUInt64 v0 >>> (Int64.toUInt64 (Int32.toInt64 1) &&& Int64.toUInt64 63)).toInt64 &&& 6148914691236517205)) &&& 3689348814741910323) + ((Int64.toUInt64 (v0 - ((Int64.toUInt64 v0 >>> (Int64.toUInt64 (Int32.toInt64 1) &&& Int64.toUInt64 63)).toInt64 &&& 6148914691236517205)) >>> (Int64.toUInt64 (Int32.toInt64 2) &&& Int64.toUInt64 63)).toInt64 &&& 3689348814741910323)) + (Int64.toUInt64 (((v0 - ((Int64.toUInt64 v0 >>> (Int64.toUInt64 (Int32.toInt64 1) &&& Int64.toUInt64 63)).toInt64 &&& 6148914691236517205)) &&& 3689348814741910323) + ((Int64.toUInt64 (v0 - ((Int64.toUInt64 v0 >>> (Int64.toUInt64 (Int32.toInt64 1) &&& Int64.toUInt64 63)).toInt64 &&& 6148914691236517205)) >>> (Int64.toUInt64 (Int32.toInt64 2) &&& Int64.toUInt64 63)).toInt64 &&& 3689348814741910323)) >>> (Int64.toUInt64 (Int32.toInt64 4) &&& Int64.toUInt64 63)).toInt64) &&& 1085102592571150095) + (Int64.toUInt64 (((((v0 - ((Int64.toUInt64 v0 >>> (Int64.toUInt64 (Int32.toInt64 1) &&& Int64.toUInt64 63)).toInt64 &&& 6148914691236517205)) &&& 3689348814741910323) + ((Int64.toUInt64 (v0 - ((Int64.toUInt64 v0 >>> (Int64.toUInt64 (Int32.toInt64 1) &&& Int64.toUInt64 63)).toInt64 &&& 6148914691236517205)) >>> (Int64.toUInt64 (Int32.toInt64 2) &&& Int64.toUInt64 63)).toInt64 &&& 3689348814741910323)) + (Int64.toUInt64 (((v0 - ((Int64.toUInt64 v0 >>> (Int64.toUInt64 (Int32.toInt64 1) &&& Int64.toUInt64 63)).toInt64 &&& 6148914691236517205)) &&& 3689348814741910323) + ((Int64.toUInt64 (v0 - ((Int64.toUInt64 v0 >>> (Int64.toUInt64 (Int32.toInt64 1) &&& Int64.toUInt64 63)).toInt64 &&& 6148914691236517205)) >>> (Int64.toUInt64 (Int32.toInt64 2) &&& Int64.toUInt64 63)).toInt64 &&& 3689348814741910323)) >>> (Int64.toUInt64 (Int32.toInt64 4) &&& Int64.toUInt64 63)).toInt64) &&& 1085102592571150095) >>> (Int64.toUInt64 (Int32.toInt64 8) &&& Int64.toUInt64 63)).toInt64) + (Int64.toUInt64 ((((((v0 - ((Int64.toUInt64 v0 >>> (Int64.toUInt64 (Int32.toInt64 1) &&& Int64.toUInt64 63)).toInt64 &&& 6148914691236517205)) &&& 3689348814741910323) + ((Int64.toUInt64 (v0 - ((Int64.toUInt64 v0 >>> (Int64.toUInt64 (Int32.toInt64 1) &&& Int64.toUInt64 63)).toInt64 &&& 6148914691236517205)) >>> (Int64.toUInt64 (Int32.toInt64 2) &&& Int64.toUInt64 63)).toInt64 &&& 3689348814741910323)) + (Int64.toUInt64 (((v0 - ((Int64.toUInt64 v0 >>> (Int64.toUInt64 (Int32.toInt64 1) &&& Int64.toUInt64 63)).toInt64 &&& 6148914691236517205)) &&& 3689348814741910323) + ((Int64.toUInt64 (v0 - ((Int64.toUInt64 v0 >>> (Int64.toUInt64 (Int32.toInt64 1) &&& Int64.toUInt64 63)).toInt64 &&& 6148914691236517205)) >>> (Int64.toUInt64 (Int32.toInt64 2) &&& Int64.toUInt64 63)).toInt64 &&& 3689348814741910323)) >>> (Int64.toUInt64 (Int32.toInt64 4) &&& Int64.toUInt64 63)).toInt64) &&& 1085102592571150095) + (Int64.toUInt64 (((((v0 - ((Int64.toUInt64 v0 >>> (Int64.toUInt64 (Int32.toInt64 1) &&& Int64.toUInt64 63)).toInt64 &&& 6148914691236517205)) &&& 3689348814741910323) + ((Int64.toUInt64 (v0 - ((Int64.toUInt64 v0 >>> (Int64.toUInt64 (Int32.toInt64 1) &&& Int64.toUInt64 63)).toInt64 &&& 6148914691236517205)) >>> (Int64.toUInt64 (Int32.toInt64 2) &&& Int64.toUInt64 63)).toInt64 &&& 3689348814741910323)) + (Int64.toUInt64 (((v0 - ((Int64.toUInt64 v0 >>> (Int64.toUInt64 (Int32.toInt64 1) &&& Int64.toUInt64 63)).toInt64 &&& 6148914691236517205)) &&& 3689348814741910323) + ((Int64.toUInt64 (v0 - ((Int64.toUInt64 v0 >>> (Int64.toUInt64 (Int32.toInt64 1) &&& Int64.toUInt64 63)).toInt64 &&& 6148914691236517205)) >>> (Int64.toUInt64 (Int32.toInt64 2) &&& Int64.toUInt64 63)).toInt64 &&& 3689348814741910323)) >>> (Int64.toUInt64 (Int32.toInt64 4) &&& Int64.toUInt64 63)).toInt64) &&& 1085102592571150095) >>> (Int64.toUInt64 (Int32.toInt64 8) &&& Int64.toUInt64 63)).toInt64) >>> (Int64.toUInt64 (Int32.toInt64 16) &&& Int64.toUInt64 63)).toInt64) + (Int64.toUInt64 (((((((v0 - ((Int64.toUInt64 v0 >>> (Int64.toUInt64 (Int32.toInt64 1) &&& Int64.toUInt64 63)).toInt64 &&& 6148914691236517205)) &&& 3689348814741910323) + ((Int64.toUInt64 (v0 - ((Int64.toUInt64 v0 >>> (Int64.toUInt64 (Int32.toInt64 1) &&& Int64.toUInt64 63)).toInt64 &&& 6148914691236517205)) >>> (Int64.toUInt64 (Int32.toInt64 2) &&& Int64.toUInt64 63)).toInt64 &&& 3689348814741910323)) + (Int64.toUInt64 (((v0 - ((Int64.toUInt64 v0 >>> (Int64.toUInt64 (Int32.toInt64 1) &&& Int64.toUInt64 63)).toInt64 &&& 6148914691236517205)) &&& 3689348814741910323) + ((Int64.toUInt64 (v0 - ((Int64.toUInt64 v0 >>> (Int64.toUInt64 (Int32.toInt64 1) &&& Int64.toUInt64 63)).toInt64 &&& 6148914691236517205)) >>> (Int64.toUInt64 (Int32.toInt64 2) &&& Int64.toUInt64 63)).toInt64 &&& 3689348814741910323)) >>> (Int64.toUInt64 (Int32.toInt64 4) &&& Int64.toUInt64 63)).toInt64) &&& 1085102592571150095) + (Int64.toUInt64 (((((v0 - ((Int64.toUInt64 v0 >>> (Int64.toUInt64 (Int32.toInt64 1) &&& Int64.toUInt64 63)).toInt64 &&& 6148914691236517205)) &&& 3689348814741910323) + ((Int64.toUInt64 (v0 - ((Int64.toUInt64 v0 >>> (Int64.toUInt64 (Int32.toInt64 1) &&& Int64.toUInt64 63)).toInt64 &&& 6148914691236517205)) >>> (Int64.toUInt64 (Int32.toInt64 2) &&& Int64.toUInt64 63)).toInt64 &&& 3689348814741910323)) + (Int64.toUInt64 (((v0 - ((Int64.toUInt64 v0 >>> (Int64.toUInt64 (Int32.toInt64 1) &&& Int64.toUInt64 63)).toInt64 &&& 6148914691236517205)) &&& 3689348814741910323) + ((Int64.toUInt64 (v0 - ((Int64.toUInt64 v0 >>> (Int64.toUInt64 (Int32.toInt64 1) &&& Int64.toUInt64 63)).toInt64 &&& 6148914691236517205)) >>> (Int64.toUInt64 (Int32.toInt64 2) &&& Int64.toUInt64 63)).toInt64 &&& 3689348814741910323)) >>> (Int64.toUInt64 (Int32.toInt64 4) &&& Int64.toUInt64 63)).toInt64) &&& 1085102592571150095) >>> (Int64.toUInt64 (Int32.toInt64 8) &&& Int64.toUInt64 63)).toInt64) + (Int64.toUInt64 ((((((v0 - ((Int64.toUInt64 v0 >>> (Int64.toUInt64 (Int32.toInt64 1) &&& Int64.toUInt64 63)).toInt64 &&& 6148914691236517205)) &&& 3689348814741910323) + ((Int64.toUInt64 (v0 - ((Int64.toUInt64 v0 >>> (Int64.toUInt64 (Int32.toInt64 1) &&& Int64.toUInt64 63)).toInt64 &&& 6148914691236517205)) >>> (Int64.toUInt64 (Int32.toInt64 2) &&& Int64.toUInt64 63)).toInt64 &&& 3689348814741910323)) + (Int64.toUInt64 (((v0 - ((Int64.toUInt64 v0 >>> (Int64.toUInt64 (Int32.toInt64 1) &&& Int64.toUInt64 63)).toInt64 &&& 6148914691236517205)) &&& 3689348814741910323) + ((Int64.toUInt64 (v0 - ((Int64.toUInt64 v0 >>> (Int64.toUInt64 (Int32.toInt64 1) &&& Int64.toUInt64 63)).toInt64 &&& 6148914691236517205)) >>> (Int64.toUInt64 (Int32.toInt64 2) &&& Int64.toUInt64 63)).toInt64 &&& 3689348814741910323)) >>> (Int64.toUInt64 (Int32.toInt64 4) &&& Int64.toUInt64 63)).toInt64) &&& 1085102592571150095) + (Int64.toUInt64 (((((v0 - ((Int64.toUInt64 v0 >>> (Int64.toUInt64 (Int32.toInt64 1) &&& Int64.toUInt64 63)).toInt64 &&& 6148914691236517205)) &&& 3689348814741910323) + ((Int64.toUInt64 (v0 - ((Int64.toUInt64 v0 >>> (Int64.toUInt64 (Int32.toInt64 1) &&& Int64.toUInt64 63)).toInt64 &&& 6148914691236517205)) >>> (Int64.toUInt64 (Int32.toInt64 2) &&& Int64.toUInt64 63)).toInt64 &&& 3689348814741910323)) + (Int64.toUInt64 (((v0 - ((Int64.toUInt64 v0 >>> (Int64.toUInt64 (Int32.toInt64 1) &&& Int64.toUInt64 63)).toInt64 &&& 6148914691236517205)) &&& 3689348814741910323) + ((Int64.toUInt64 (v0 - ((Int64.toUInt64 v0 >>> (Int64.toUInt64 (Int32.toInt64 1) &&& Int64.toUInt64 63)).toInt64 &&& 6148914691236517205)) >>> (Int64.toUInt64 (Int32.toInt64 2) &&& Int64.toUInt64 63)).toInt64 &&& 3689348814741910323)) >>> (Int64.toUInt64 (Int32.toInt64 4) &&& Int64.toUInt64 63)).toInt64) &&& 1085102592571150095) >>> (Int64.toUInt64 (Int32.toInt64 8) &&& Int64.toUInt64 63)).toInt64) >>> (Int64.toUInt64 (Int32.toInt64 16) &&& Int64.toUInt64 63)).toInt64) >>> (Int64.toUInt64 (Int32.toInt64 32) &&& Int64.toUInt64 63)).toInt64))]) X dJ13_bitCount_95d88_54 rfl (by decide) rfl ?_
  refine x_lload_n (pc := 55) X dJ13_bitCount_95d88_55 rfl 0 rfl ?_
  refine x_l2i (pc := 56) X dJ13_bitCount_95d88_56 ?_
  refine x_bipush (pc := 57) (v := 127) X dJ13_bitCount_95d88_57 (by decide) ?_
  refine x_iand (pc := 59) X dJ13_bitCount_95d88_59 ?_
  exact x_iret (pc := 60) X hr hl h dJ13_bitCount_95d88_60
set_option maxRecDepth 100000 in
set_option maxHeartbeats 4000000 in
theorem wX8_together_L73 {p : Program} {l : Launch} {e : Env} {s : State} {m : MethodId} {args : Array Value} {below : List Frame} {meth : Method} {c : Code} {D : va_G} {A : Nat → Prop} {ad : Nat → Nat} {cI cX : ClassId} {r : Int32} {σ' : xSt} (X : xX p s m args c cX8_together 6 RX8 D (tyC cI cX) A (wC ad cI cX)) (hr : meth.sig.returnType = (some .int)) (hl : meth.locks = false) (F : Nat) (σ : xSt) (h : mX8_together_L73 F σ = some (r, σ')) : xG p l e ({ frames := 3, cells := 0, slots := 0, locals := 86 }) s m args below meth c (MQ below (xQi D A (wC ad cI cX) r σ') args s 0 0 A) 6 D A (wC ad cI cX) σ 73 [] [] := by
  unfold mX8_together_L73 at h
  refine x_iconst (pc := 73) (v := (-1)) X dX8_together_73 (by decide) ?_
  exact x_iret (pc := 74) X hr hl h dX8_together_74
set_option maxRecDepth 100000 in
set_option maxHeartbeats 4000000 in
theorem wX8_together_L67 {p : Program} {l : Launch} {e : Env} {s : State} {m : MethodId} {args : Array Value} {below : List Frame} {meth : Method} {c : Code} {D : va_G} {A : Nat → Prop} {ad : Nat → Nat} {cI cX : ClassId} {r : Int32} {σ' : xSt} {c38 : Int64 → Int32 → Int32 → xSt → Option (Int32 × xSt)} (X : xX p s m args c cX8_together 6 RX8 D (tyC cI cX) A (wC ad cI cX)) (hr : meth.sig.returnType = (some .int)) (hl : meth.locks = false) (F : Nat) (hc38 : ∀ (v2 : Int64) (v4 : Int32) (v5 : Int32) (σ : xSt), c38 v2 v4 v5 σ = some (r, σ') → xG p l e ({ frames := 3, cells := 0, slots := 0, locals := 86 }) s m args below meth c (MQ below (xQi D A (wC ad cI cX) r σ') args s 0 0 A) 6 D A (wC ad cI cX) σ 38 [(2, .long v2), (4, .int v4), (5, .int v5)] []) (v2 : Int64) (v4 : Int32) (v5 : Int32) (σ : xSt) (h : mX8_together_L67 F c38 v2 v4 v5 σ = some (r, σ')) : xG p l e ({ frames := 3, cells := 0, slots := 0, locals := 86 }) s m args below meth c (MQ below (xQi D A (wC ad cI cX) r σ') args s 0 0 A) 6 D A (wC ad cI cX) σ 67 [(2, .long v2), (4, .int v4), (5, .int v5)] [] := by
  unfold mX8_together_L67 at h
  refine x_iinc (pc := 67) (v := (v5 + 1)) (lv' := [(5, .int (v5 + 1)), (2, .long v2), (4, .int v4)]) X dX8_together_67 2 rfl rfl (by decide) rfl ?_
  refine x_goto (pc := 70) X 38 dX8_together_70 (by decide) ?_
  refine x_sub [1, 2, 0] rfl ?_
  exact hc38 _ _ _ _ h
set_option maxRecDepth 100000 in
set_option maxHeartbeats 4000000 in
theorem wX8_together_L61 {p : Program} {l : Launch} {e : Env} {s : State} {m : MethodId} {args : Array Value} {below : List Frame} {meth : Method} {c : Code} {D : va_G} {A : Nat → Prop} {ad : Nat → Nat} {cI cX : ClassId} {r : Int32} {σ' : xSt} (X : xX p s m args c cX8_together 6 RX8 D (tyC cI cX) A (wC ad cI cX)) (hr : meth.sig.returnType = (some .int)) (hl : meth.locks = false) (F : Nat) (v5 : Int32) (σ : xSt) (h : mX8_together_L61 F v5 σ = some (r, σ')) : xG p l e ({ frames := 3, cells := 0, slots := 0, locals := 86 }) s m args below meth c (MQ below (xQi D A (wC ad cI cX) r σ') args s 0 0 A) 6 D A (wC ad cI cX) σ 61 [(5, .int v5)] [] := by
  unfold mX8_together_L61 at h
  refine x_iload (pc := 61) X dX8_together_61 0 rfl ?_
  exact x_iret (pc := 63) X hr hl h dX8_together_63
set_option maxRecDepth 100000 in
set_option maxHeartbeats 4000000 in
theorem wX8_together_S38 {p : Program} {l : Launch} {e : Env} {s : State} {m : MethodId} {args : Array Value} {below : List Frame} {meth : Method} {c : Code} {D : va_G} {A : Nat → Prop} {ad : Nat → Nat} {cI cX : ClassId} {r : Int32} {σ' : xSt} {c38 : Int64 → Int32 → Int32 → xSt → Option (Int32 × xSt)} (X : xX p s m args c cX8_together 6 RX8 D (tyC cI cX) A (wC ad cI cX)) (hr : meth.sig.returnType = (some .int)) (hl : meth.locks = false) (F : Nat) (hc38 : ∀ (v2 : Int64) (v4 : Int32) (v5 : Int32) (σ : xSt), c38 v2 v4 v5 σ = some (r, σ') → xG p l e ({ frames := 3, cells := 0, slots := 0, locals := 86 }) s m args below meth c (MQ below (xQi D A (wC ad cI cX) r σ') args s 0 0 A) 6 D A (wC ad cI cX) σ 38 [(2, .long v2), (4, .int v4), (5, .int v5)] []) (v2 : Int64) (v4 : Int32) (v5 : Int32) (σ : xSt) (h : mX8_together_S38 F c38 v2 v4 v5 σ = some (r, σ')) : xG p l e ({ frames := 3, cells := 0, slots := 0, locals := 86 }) s m args below meth c (MQ below (xQi D A (wC ad cI cX) r σ') args s 0 0 A) 6 D A (wC ad cI cX) σ 38 [(2, .long v2), (4, .int v4), (5, .int v5)] [] := by
  unfold mX8_together_S38 at h
  refine x_iload (pc := 38) X dX8_together_38 2 rfl ?_
  refine x_bipush (pc := 40) (v := 64) X dX8_together_40 (by decide) ?_
  refine x_icmp_ge (pc := 42) X 73 dX8_together_42 (by decide) (fun hc => ?_) (fun hc => ?_)
  · have h := xit hc h
    refine x_sub [] rfl ?_
    exact wX8_together_L73 X hr hl F _ h
  · have h := xif hc h
    refine x_lload_n (pc := 45) X dX8_together_45 rfl 0 rfl ?_
    refine x_iload (pc := 46) X dX8_together_46 2 rfl ?_
    refine x_lshr (pc := 48) X dX8_together_48 ?_
    refine x_lconst (pc := 49) (v := 1) X dX8_together_49 rfl ?_
    refine x_land (pc := 50) X dX8_together_50 ?_
    refine x_lconst (pc := 51) (v := 1) X dX8_together_51 rfl ?_
    refine x_lcmp (pc := 52) X dX8_together_52 ?_
    refine x_if_ne (pc := 53) X 67 dX8_together_53 (by decide) (fun hc => ?_) (fun hc => ?_)
    · have h := xif hc h
      refine x_sub [0, 1, 2] rfl ?_
      exact wX8_together_L67 X hr hl F hc38 _ _ _ _ h
    · have h := xit hc h
      refine x_iload (pc := 56) X dX8_together_56 1 rfl ?_
      refine x_if_ne (pc := 58) X 64 dX8_together_58 (by decide) (fun hc => ?_) (fun hc => ?_)
      · have h := xif hc h
        refine x_iinc (pc := 64) (v := (v4 + (-1))) (lv' := [(4, .int (v4 + (-1))), (2, .long v2), (5, .int v5)]) X dX8_together_64 1 rfl rfl (by decide) rfl ?_
        refine x_sub [1, 0, 2] rfl ?_
        exact wX8_together_L67 X hr hl F hc38 _ _ _ _ h
      · have h := xit hc h
        refine x_sub [2] rfl ?_
        exact wX8_together_L61 X hr hl F _ _ h
theorem wX8_together_L38 {p : Program} {l : Launch} {e : Env} {s : State} {m : MethodId} {args : Array Value} {below : List Frame} {meth : Method} {c : Code} {D : va_G} {A : Nat → Prop} {ad : Nat → Nat} {cI cX : ClassId} {r : Int32} {σ' : xSt} (X : xX p s m args c cX8_together 6 RX8 D (tyC cI cX) A (wC ad cI cX)) (hr : meth.sig.returnType = (some .int)) (hl : meth.locks = false) (F : Nat) : ∀ (n : Nat) (v2 : Int64) (v4 : Int32) (v5 : Int32) (σ : xSt), mX8_together_L38 F n v2 v4 v5 σ = some (r, σ') → xG p l e ({ frames := 3, cells := 0, slots := 0, locals := 86 }) s m args below meth c (MQ below (xQi D A (wC ad cI cX) r σ') args s 0 0 A) 6 D A (wC ad cI cX) σ 38 [(2, .long v2), (4, .int v4), (5, .int v5)] [] := by
  intro n
  induction n with
  | zero => intro v2 v4 v5 σ h; cases h
  | succ n ih => intro v2 v4 v5 σ h; exact wX8_together_S38 X hr hl F ih v2 v4 v5 σ h
set_option maxRecDepth 100000 in
set_option maxHeartbeats 4000000 in
theorem wX8_together_L11 {p : Program} {l : Launch} {e : Env} {s : State} {m : MethodId} {args : Array Value} {below : List Frame} {meth : Method} {c : Code} {D : va_G} {A : Nat → Prop} {ad : Nat → Nat} {cI cX : ClassId} {r : Int32} {σ' : xSt} (X : xX p s m args c cX8_together 6 RX8 D (tyC cI cX) A (wC ad cI cX)) (hr : meth.sig.returnType = (some .int)) (hl : meth.locks = false) (F : Nat) (σ : xSt) (h : mX8_together_L11 F σ = some (r, σ')) : xG p l e ({ frames := 3, cells := 0, slots := 0, locals := 86 }) s m args below meth c (MQ below (xQi D A (wC ad cI cX) r σ') args s 0 0 A) 6 D A (wC ad cI cX) σ 11 [] [] := by
  unfold mX8_together_L11 at h
  refine x_bipush (pc := 11) (v := (-2)) X dX8_together_11 (by decide) ?_
  exact x_iret (pc := 13) X hr hl h dX8_together_13
set_option maxRecDepth 100000 in
set_option maxHeartbeats 4000000 in
theorem kX8_together (l : Launch) {D : va_G} {A : Nat → Prop} {ad : Nat → Nat} {cI cX : ClassId} (hD : ∀ σ, va_D A ((wC ad cI cX) σ)) (F : Nat) (v1 : Int32) (σ : xSt) (r : Int32) (σ' : xSt) (h : mX8_together F v1 σ = some (r, σ')) : xM l yX8_together cX8_together 6 (some .int) ({ frames := 3, cells := 0, slots := 0, locals := 86 }) D (tyC cI cX) A (wC ad cI cX) [.ref (ad 0), .int v1] σ (xQi D A (wC ad cI cX) r σ') := by
  refine xM_of (lv := [(0, .ref (ad 0)), (1, .int v1)]) [.ref (ad 0), .int v1] (by decide) hD rfl (Nat.le_of_ble_eq_true rfl) ?_
  intro p e s m args below meth c X hr hl
  unfold mX8_together at h
  refine x_iload_n (pc := 0) X dX8_together_0 rfl 1 rfl ?_
  refine x_iconst (pc := 1) (v := (-1)) X dX8_together_1 (by decide) ?_
  refine x_icmp_lt (pc := 2) X 11 dX8_together_2 (by decide) (fun hc => ?_) (fun hc => ?_)
  · have h := xit hc h
    refine x_sub [] rfl ?_
    exact wX8_together_L11 X hr hl F _ h
  · have h := xif hc h
    refine x_iload_n (pc := 5) X dX8_together_5 rfl 1 rfl ?_
    refine x_bipush (pc := 6) (v := 28) X dX8_together_6 (by decide) ?_
    refine x_icmp_lt (pc := 8) X 14 dX8_together_8 (by decide) (fun hc => ?_) (fun hc => ?_)
    · have h := xit hc h
      refine x_aload_n (pc := 14) X dX8_together_14 rfl 0 rfl ?_
      refine gX8_12 (pc := 15) X dX8_together_15 ?_
      obtain ⟨r18, σ18, hq18, h⟩ := xb2_some h
      refine x_calllV (pc := 18) (As := []) (rest := []) X (kX2_inseparable l X.2.2.2.2.2.2.2 F _ _ _ hq18) kvX8_185 rfl (qX2) ⟨rfl, rfl, Nat.le_of_ble_eq_true rfl, Nat.le_of_ble_eq_true rfl⟩ rfl rfl (Nat.le_of_ble_eq_true rfl) dX8_together_18 ?_
      refine x_lstore_n (pc := 21) (lv' := [(2, .long r18), (0, .ref (ad 0)), (1, .int v1)]) X dX8_together_21 rfl (by decide) rfl ?_
      refine x_iload_n (pc := 22) X dX8_together_22 rfl 2 rfl ?_
      refine x_iconst (pc := 23) (v := (-1)) X dX8_together_23 (by decide) ?_
      refine x_icmp_ne (pc := 24) X 32 dX8_together_24 (by decide) (fun hc => ?_) (fun hc => ?_)
      · have h := xif hc h
        refine x_iload_n (pc := 32) X dX8_together_32 rfl 2 rfl ?_
        refine x_istore (pc := 33) (lv' := [(4, .int v1), (2, .long r18), (0, .ref (ad 0)), (1, .int v1)]) X dX8_together_33 (by decide) rfl ?_
        refine x_iconst (pc := 35) (v := 0) X dX8_together_35 (by decide) ?_
        refine x_istore (pc := 36) (lv' := [(5, .int 0), (4, .int v1), (2, .long r18), (0, .ref (ad 0)), (1, .int v1)]) X dX8_together_36 (by decide) rfl ?_
        refine x_sub [2, 1, 0] rfl ?_
        exact wX8_together_L38 X hr hl F F _ _ _ _ h
      · have h := xit hc h
        refine x_lload_n (pc := 27) X dX8_together_27 rfl 0 rfl ?_
        obtain ⟨r28, σ28, hq28, h⟩ := xb2_some h
        refine x_calliS (pc := 28) (As := [.long r18]) (rest := []) X (kJ13_bitCount_95d88 l X.2.2.2.2.2.2.2 F _ _ _ _ hq28) kvX8_189 ⟨rfl, rfl, Nat.le_of_ble_eq_true rfl, Nat.le_of_ble_eq_true rfl⟩ rfl rfl (Nat.le_of_ble_eq_true rfl) dX8_together_28 ?_
        exact x_iret (pc := 31) X hr hl h dX8_together_31
    · have h := xif hc h
      refine x_sub [] rfl ?_
      exact wX8_together_L11 X hr hl F _ h
set_option maxRecDepth 100000 in
set_option maxHeartbeats 4000000 in
theorem wX8_hide_L37 {p : Program} {l : Launch} {e : Env} {s : State} {m : MethodId} {args : Array Value} {below : List Frame} {meth : Method} {c : Code} {D : va_G} {A : Nat → Prop} {ad : Nat → Nat} {cI cX : ClassId} {r : Int32} {σ' : xSt} (X : xX p s m args c cX8_hide 5 RX8 D (tyC cI cX) A (wC ad cI cX)) (hr : meth.sig.returnType = (some .int)) (hl : meth.locks = false) (F : Nat) (σ : xSt) (h : mX8_hide_L37 F σ = some (r, σ')) : xG p l e ({ frames := 5, cells := 0, slots := 0, locals := 126 }) s m args below meth c (MQ below (xQi D A (wC ad cI cX) r σ') args s 0 0 A) 5 D A (wC ad cI cX) σ 37 [] [] := by
  unfold mX8_hide_L37 at h
  refine x_bipush (pc := 37) (v := (-2)) X dX8_hide_37 (by decide) ?_
  exact x_iret (pc := 39) X hr hl h dX8_hide_39
set_option maxRecDepth 100000 in
set_option maxHeartbeats 4000000 in
theorem kX8_hide (l : Launch) {D : va_G} {A : Nat → Prop} {ad : Nat → Nat} {cI cX : ClassId} (hD : ∀ σ, va_D A ((wC ad cI cX) σ)) (F : Nat) (v1 : Int32) (v2 : Int32) (v3 : Int32) (v4 : Int32) (σ : xSt) (r : Int32) (σ' : xSt) (h : mX8_hide F v1 v2 v3 v4 σ = some (r, σ')) : xM l yX8_hide cX8_hide 5 (some .int) ({ frames := 5, cells := 0, slots := 0, locals := 126 }) D (tyC cI cX) A (wC ad cI cX) [.ref (ad 0), .int v1, .int v2, .int v3, .int v4] σ (xQi D A (wC ad cI cX) r σ') := by
  refine xM_of (lv := [(0, .ref (ad 0)), (1, .int v1), (2, .int v2), (3, .int v3), (4, .int v4)]) [.ref (ad 0), .int v1, .int v2, .int v3, .int v4] (by decide) hD rfl (Nat.le_of_ble_eq_true rfl) ?_
  intro p e s m args below meth c X hr hl
  unfold mX8_hide at h
  refine x_aload_n (pc := 0) X dX8_hide_0 rfl 0 rfl ?_
  refine gX8_12 (pc := 1) X dX8_hide_1 ?_
  refine x_iload_n (pc := 4) X dX8_hide_4 rfl 1 rfl ?_
  obtain ⟨r5, σ5, hq5, h⟩ := xb2_some h
  refine x_calliV (pc := 5) (As := [.int v1]) (rest := []) X (kX2_lacksPerson l X.2.2.2.2.2.2.2 F _ _ _ _ hq5) kvX8_175 rfl (qX2) ⟨rfl, rfl, Nat.le_of_ble_eq_true rfl, Nat.le_of_ble_eq_true rfl⟩ rfl rfl (Nat.le_of_ble_eq_true rfl) dX8_hide_5 ?_
  refine x_if_ne (pc := 8) X 37 dX8_hide_8 (by decide) (fun hc => ?_) (fun hc => ?_)
  · have h := xif hc h
    refine x_sub [] rfl ?_
    exact wX8_hide_L37 X hr hl F _ h
  · have h := xit hc h
    refine x_iload_n (pc := 11) X dX8_hide_11 rfl 2 rfl ?_
    obtain ⟨r12, σ12, hq12, h⟩ := xb2_some h
    refine x_calliS (pc := 12) (As := [.int v2]) (rest := []) X (kX8_noHour l X.2.2.2.2.2.2.2 F _ _ _ _ hq12) kvX8_100 ⟨rfl, rfl, Nat.le_of_ble_eq_true rfl, Nat.le_of_ble_eq_true rfl⟩ rfl rfl (Nat.le_of_ble_eq_true rfl) dX8_hide_12 ?_
    refine x_if_ne (pc := 15) X 37 dX8_hide_15 (by decide) (fun hc => ?_) (fun hc => ?_)
    · have h := xif hc h
      refine x_sub [] rfl ?_
      exact wX8_hide_L37 X hr hl F _ h
    · have h := xit hc h
      refine x_iload_n (pc := 18) X dX8_hide_18 rfl 3 rfl ?_
      obtain ⟨r19, σ19, hq19, h⟩ := xb2_some h
      refine x_calliS (pc := 19) (As := [.int v3]) (rest := []) X (kX8_noHour l X.2.2.2.2.2.2.2 F _ _ _ _ hq19) kvX8_100 ⟨rfl, rfl, Nat.le_of_ble_eq_true rfl, Nat.le_of_ble_eq_true rfl⟩ rfl rfl (Nat.le_of_ble_eq_true rfl) dX8_hide_19 ?_
      refine x_if_ne (pc := 22) X 37 dX8_hide_22 (by decide) (fun hc => ?_) (fun hc => ?_)
      · have h := xif hc h
        refine x_sub [] rfl ?_
        exact wX8_hide_L37 X hr hl F _ h
      · have h := xit hc h
        refine x_iload (pc := 25) X dX8_hide_25 4 rfl ?_
        refine x_iconst (pc := 27) (v := (-1)) X dX8_hide_27 (by decide) ?_
        refine x_icmp_lt (pc := 28) X 37 dX8_hide_28 (by decide) (fun hc => ?_) (fun hc => ?_)
        · have h := xit hc h
          refine x_sub [] rfl ?_
          exact wX8_hide_L37 X hr hl F _ h
        · have h := xif hc h
          refine x_iload (pc := 31) X dX8_hide_31 4 rfl ?_
          refine x_iconst (pc := 33) (v := 2) X dX8_hide_33 (by decide) ?_
          refine x_icmp_lt (pc := 34) X 40 dX8_hide_34 (by decide) (fun hc => ?_) (fun hc => ?_)
          · have h := xit hc h
            refine x_aload_n (pc := 40) X dX8_hide_40 rfl 0 rfl ?_
            refine gX8_30 (pc := 41) X dX8_hide_41 ?_
            refine x_iload_n (pc := 44) X dX8_hide_44 rfl 2 rfl ?_
            refine x_iload_n (pc := 45) X dX8_hide_45 rfl 3 rfl ?_
            refine x_iconst (pc := 46) (v := 1) X dX8_hide_46 (by decide) ?_
            refine x_aload_n (pc := 47) X dX8_hide_47 rfl 0 rfl ?_
            refine gX8_12 (pc := 48) X dX8_hide_48 ?_
            refine gX8_97 (pc := 51) X dX8_hide_51 ?_
            refine gX8_178 (pc := 54) X 1 (by decide) dX8_hide_54 ?_
            refine x_iload_n (pc := 57) X dX8_hide_57 rfl 1 rfl ?_
            obtain ⟨hb58, h⟩ := xck_some h
            refine x_iald (pc := 58) X (20 + 1) 0 (qaX6_third 1 (by decide)) rfl hb58 dX8_hide_58 ?_
            refine x_ishl (pc := 59) X dX8_hide_59 ?_
            refine x_iconst (pc := 60) (v := 0) X dX8_hide_60 (by decide) ?_
            obtain ⟨σ61, hq61, h⟩ := xb1_some h
            refine x_callvV (pc := 61) (As := [.int v2, .int v3, .int (1 <<< ((xA σ19 (12 + 1) (Int32.toNatClampNeg v1)) &&& 31)), .int 0]) (rest := []) X (kX4_aim l X.2.2.2.2.2.2.2 F _ _ _ _ _ _ hq61) kvX8_195 rfl (qX4) ⟨rfl, rfl, Nat.le_of_ble_eq_true rfl, Nat.le_of_ble_eq_true rfl⟩ rfl rfl (Nat.le_of_ble_eq_true rfl) dX8_hide_61 ?_
            refine x_aload_n (pc := 64) X dX8_hide_64 rfl 0 rfl ?_
            refine gX8_30 (pc := 65) X dX8_hide_65 ?_
            refine x_bipush (pc := 68) (v := 63) X dX8_hide_68 (by decide) ?_
            refine x_iload_n (pc := 70) X dX8_hide_70 rfl 1 rfl ?_
            obtain ⟨σ71, hq71, h⟩ := xb1_some h
            refine x_callvV (pc := 71) (As := [.int 63, .int v1]) (rest := []) X (kX4_seat l X.2.2.2.2.2.2.2 F _ _ _ _ hq71) kvX8_199 rfl (qX4) ⟨rfl, rfl, Nat.le_of_ble_eq_true rfl, Nat.le_of_ble_eq_true rfl⟩ rfl rfl (Nat.le_of_ble_eq_true rfl) dX8_hide_71 ?_
            refine x_aload_n (pc := 74) X dX8_hide_74 rfl 0 rfl ?_
            refine gX8_30 (pc := 75) X dX8_hide_75 ?_
            refine x_iload (pc := 78) X dX8_hide_78 4 rfl ?_
            obtain ⟨r80, σ80, hq80, h⟩ := xb2_some h
            refine x_calliV (pc := 80) (As := [.int v4]) (rest := []) X (kX4_answer l X.2.2.2.2.2.2.2 F _ _ _ _ hq80) kvX8_202 rfl (qX4) ⟨rfl, rfl, Nat.le_of_ble_eq_true rfl, Nat.le_of_ble_eq_true rfl⟩ rfl rfl (Nat.le_of_ble_eq_true rfl) dX8_hide_80 ?_
            exact x_iret (pc := 83) X hr hl h dX8_hide_83
          · have h := xif hc h
            refine x_sub [] rfl ?_
            exact wX8_hide_L37 X hr hl F _ h
set_option maxRecDepth 100000 in
set_option maxHeartbeats 4000000 in
theorem wX8_noSmells_L16 {p : Program} {l : Launch} {e : Env} {s : State} {m : MethodId} {args : Array Value} {below : List Frame} {meth : Method} {c : Code} {D : va_G} {A : Nat → Prop} {ad : Nat → Nat} {cI cX : ClassId} {r : Int32} {σ' : xSt} (X : xX p s m args c cX8_noSmells 1 RX8 D (tyC cI cX) A (wC ad cI cX)) (hr : meth.sig.returnType = (some .boolean)) (hl : meth.locks = false) (F : Nat) (t0 : Int32) (σ : xSt) (h : mX8_noSmells_L16 F t0 σ = some (r, σ')) : xG p l e ({ frames := 0, cells := 0, slots := 0, locals := 0 }) s m args below meth c (MQ below (xQi D A (wC ad cI cX) r σ') args s 0 0 A) 1 D A (wC ad cI cX) σ 16 [] [.int t0] := by
  unfold mX8_noSmells_L16 at h
  obtain ⟨hb16, h⟩ := xck_some h
  exact x_zret (pc := 16) X hr hl hb16 h dX8_noSmells_16
set_option maxRecDepth 100000 in
set_option maxHeartbeats 4000000 in
theorem wX8_noSmells_L11 {p : Program} {l : Launch} {e : Env} {s : State} {m : MethodId} {args : Array Value} {below : List Frame} {meth : Method} {c : Code} {D : va_G} {A : Nat → Prop} {ad : Nat → Nat} {cI cX : ClassId} {r : Int32} {σ' : xSt} (X : xX p s m args c cX8_noSmells 1 RX8 D (tyC cI cX) A (wC ad cI cX)) (hr : meth.sig.returnType = (some .boolean)) (hl : meth.locks = false) (F : Nat) (σ : xSt) (h : mX8_noSmells_L11 F σ = some (r, σ')) : xG p l e ({ frames := 0, cells := 0, slots := 0, locals := 0 }) s m args below meth c (MQ below (xQi D A (wC ad cI cX) r σ') args s 0 0 A) 1 D A (wC ad cI cX) σ 11 [] [] := by
  unfold mX8_noSmells_L11 at h
  refine x_iconst (pc := 11) (v := 1) X dX8_noSmells_11 (by decide) ?_
  refine x_goto (pc := 12) X 16 dX8_noSmells_12 (by decide) ?_
  refine x_sub [] rfl ?_
  exact wX8_noSmells_L16 X hr hl F _ _ h
set_option maxRecDepth 100000 in
set_option maxHeartbeats 4000000 in
theorem kX8_noSmells (l : Launch) {D : va_G} {A : Nat → Prop} {ad : Nat → Nat} {cI cX : ClassId} (hD : ∀ σ, va_D A ((wC ad cI cX) σ)) (F : Nat) (v0 : Int32) (σ : xSt) (r : Int32) (σ' : xSt) (h : mX8_noSmells F v0 σ = some (r, σ')) : xM l yX8_noSmells cX8_noSmells 1 (some .boolean) ({ frames := 0, cells := 0, slots := 0, locals := 0 }) D (tyC cI cX) A (wC ad cI cX) [.int v0] σ (xQi D A (wC ad cI cX) r σ') := by
  refine xM_of (lv := [(0, .int v0)]) [.int v0] (by decide) hD rfl (Nat.le_of_ble_eq_true rfl) ?_
  intro p e s m args below meth c X hr hl
  unfold mX8_noSmells at h
  refine x_iload_n (pc := 0) X dX8_noSmells_0 rfl 0 rfl ?_
  refine x_if_lt (pc := 1) X 11 dX8_noSmells_1 (by decide) (fun hc => ?_) (fun hc => ?_)
  · have h := xit hc h
    refine x_sub [] rfl ?_
    exact wX8_noSmells_L11 X hr hl F _ h
  · have h := xif hc h
    refine x_iload_n (pc := 4) X dX8_noSmells_4 rfl 0 rfl ?_
    refine x_sipush (pc := 5) (v := 255) X dX8_noSmells_5 (by decide) ?_
    refine x_icmp_le (pc := 8) X 15 dX8_noSmells_8 (by decide) (fun hc => ?_) (fun hc => ?_)
    · have h := xit hc h
      refine x_iconst (pc := 15) (v := 0) X dX8_noSmells_15 (by decide) ?_
      refine x_sub [] rfl ?_
      exact wX8_noSmells_L16 X hr hl F _ _ h
    · have h := xif hc h
      refine x_sub [] rfl ?_
      exact wX8_noSmells_L11 X hr hl F _ h
set_option maxRecDepth 100000 in
set_option maxHeartbeats 4000000 in
theorem wX8_frame_L45 {p : Program} {l : Launch} {e : Env} {s : State} {m : MethodId} {args : Array Value} {below : List Frame} {meth : Method} {c : Code} {D : va_G} {A : Nat → Prop} {ad : Nat → Nat} {cI cX : ClassId} {r : Int32} {σ' : xSt} (X : xX p s m args c cX8_frame 6 RX8 D (tyC cI cX) A (wC ad cI cX)) (hr : meth.sig.returnType = (some .int)) (hl : meth.locks = false) (F : Nat) (σ : xSt) (h : mX8_frame_L45 F σ = some (r, σ')) : xG p l e ({ frames := 5, cells := 0, slots := 0, locals := 126 }) s m args below meth c (MQ below (xQi D A (wC ad cI cX) r σ') args s 0 0 A) 6 D A (wC ad cI cX) σ 45 [] [] := by
  unfold mX8_frame_L45 at h
  refine x_bipush (pc := 45) (v := (-2)) X dX8_frame_45 (by decide) ?_
  exact x_iret (pc := 47) X hr hl h dX8_frame_47
set_option maxRecDepth 100000 in
set_option maxHeartbeats 4000000 in
theorem kX8_frame (l : Launch) {D : va_G} {A : Nat → Prop} {ad : Nat → Nat} {cI cX : ClassId} (hD : ∀ σ, va_D A ((wC ad cI cX) σ)) (F : Nat) (v1 : Int32) (v2 : Int32) (v3 : Int32) (v4 : Int32) (v5 : Int32) (σ : xSt) (r : Int32) (σ' : xSt) (h : mX8_frame F v1 v2 v3 v4 v5 σ = some (r, σ')) : xM l yX8_frame cX8_frame 6 (some .int) ({ frames := 5, cells := 0, slots := 0, locals := 126 }) D (tyC cI cX) A (wC ad cI cX) [.ref (ad 0), .int v1, .int v2, .int v3, .int v4, .int v5] σ (xQi D A (wC ad cI cX) r σ') := by
  refine xM_of (lv := [(0, .ref (ad 0)), (1, .int v1), (2, .int v2), (3, .int v3), (4, .int v4), (5, .int v5)]) [.ref (ad 0), .int v1, .int v2, .int v3, .int v4, .int v5] (by decide) hD rfl (Nat.le_of_ble_eq_true rfl) ?_
  intro p e s m args below meth c X hr hl
  unfold mX8_frame at h
  refine x_aload_n (pc := 0) X dX8_frame_0 rfl 0 rfl ?_
  refine gX8_12 (pc := 1) X dX8_frame_1 ?_
  refine x_iload_n (pc := 4) X dX8_frame_4 rfl 1 rfl ?_
  obtain ⟨r5, σ5, hq5, h⟩ := xb2_some h
  refine x_calliV (pc := 5) (As := [.int v1]) (rest := []) X (kX2_lacksThing l X.2.2.2.2.2.2.2 F _ _ _ _ hq5) kvX8_144 rfl (qX2) ⟨rfl, rfl, Nat.le_of_ble_eq_true rfl, Nat.le_of_ble_eq_true rfl⟩ rfl rfl (Nat.le_of_ble_eq_true rfl) dX8_frame_5 ?_
  refine x_if_ne (pc := 8) X 45 dX8_frame_8 (by decide) (fun hc => ?_) (fun hc => ?_)
  · have h := xif hc h
    refine x_sub [] rfl ?_
    exact wX8_frame_L45 X hr hl F _ h
  · have h := xit hc h
    refine x_iload_n (pc := 11) X dX8_frame_11 rfl 2 rfl ?_
    obtain ⟨r12, σ12, hq12, h⟩ := xb2_some h
    refine x_calliS (pc := 12) (As := [.int v2]) (rest := []) X (kX8_noSmells l X.2.2.2.2.2.2.2 F _ _ _ _ hq12) kvX8_205 ⟨rfl, rfl, Nat.le_of_ble_eq_true rfl, Nat.le_of_ble_eq_true rfl⟩ rfl rfl (Nat.le_of_ble_eq_true rfl) dX8_frame_12 ?_
    refine x_if_ne (pc := 15) X 45 dX8_frame_15 (by decide) (fun hc => ?_) (fun hc => ?_)
    · have h := xif hc h
      refine x_sub [] rfl ?_
      exact wX8_frame_L45 X hr hl F _ h
    · have h := xit hc h
      refine x_iload_n (pc := 18) X dX8_frame_18 rfl 3 rfl ?_
      obtain ⟨r19, σ19, hq19, h⟩ := xb2_some h
      refine x_calliS (pc := 19) (As := [.int v3]) (rest := []) X (kX8_noHour l X.2.2.2.2.2.2.2 F _ _ _ _ hq19) kvX8_100 ⟨rfl, rfl, Nat.le_of_ble_eq_true rfl, Nat.le_of_ble_eq_true rfl⟩ rfl rfl (Nat.le_of_ble_eq_true rfl) dX8_frame_19 ?_
      refine x_if_ne (pc := 22) X 45 dX8_frame_22 (by decide) (fun hc => ?_) (fun hc => ?_)
      · have h := xif hc h
        refine x_sub [] rfl ?_
        exact wX8_frame_L45 X hr hl F _ h
      · have h := xit hc h
        refine x_iload (pc := 25) X dX8_frame_25 4 rfl ?_
        obtain ⟨r27, σ27, hq27, h⟩ := xb2_some h
        refine x_calliS (pc := 27) (As := [.int v4]) (rest := []) X (kX8_noHour l X.2.2.2.2.2.2.2 F _ _ _ _ hq27) kvX8_100 ⟨rfl, rfl, Nat.le_of_ble_eq_true rfl, Nat.le_of_ble_eq_true rfl⟩ rfl rfl (Nat.le_of_ble_eq_true rfl) dX8_frame_27 ?_
        refine x_if_ne (pc := 30) X 45 dX8_frame_30 (by decide) (fun hc => ?_) (fun hc => ?_)
        · have h := xif hc h
          refine x_sub [] rfl ?_
          exact wX8_frame_L45 X hr hl F _ h
        · have h := xit hc h
          refine x_iload (pc := 33) X dX8_frame_33 5 rfl ?_
          refine x_iconst (pc := 35) (v := (-1)) X dX8_frame_35 (by decide) ?_
          refine x_icmp_lt (pc := 36) X 45 dX8_frame_36 (by decide) (fun hc => ?_) (fun hc => ?_)
          · have h := xit hc h
            refine x_sub [] rfl ?_
            exact wX8_frame_L45 X hr hl F _ h
          · have h := xif hc h
            refine x_iload (pc := 39) X dX8_frame_39 5 rfl ?_
            refine x_iconst (pc := 41) (v := 2) X dX8_frame_41 (by decide) ?_
            refine x_icmp_lt (pc := 42) X 48 dX8_frame_42 (by decide) (fun hc => ?_) (fun hc => ?_)
            · have h := xit hc h
              refine x_aload_n (pc := 48) X dX8_frame_48 rfl 0 rfl ?_
              refine gX8_30 (pc := 49) X dX8_frame_49 ?_
              refine x_iload_n (pc := 52) X dX8_frame_52 rfl 3 rfl ?_
              refine x_iload (pc := 53) X dX8_frame_53 4 rfl ?_
              refine x_sipush (pc := 55) (v := 255) X dX8_frame_55 (by decide) ?_
              refine x_iload_n (pc := 58) X dX8_frame_58 rfl 2 rfl ?_
              obtain ⟨σ59, hq59, h⟩ := xb1_some h
              refine x_callvV (pc := 59) (As := [.int v3, .int v4, .int 255, .int v2]) (rest := []) X (kX4_aim l X.2.2.2.2.2.2.2 F _ _ _ _ _ _ hq59) kvX8_195 rfl (qX4) ⟨rfl, rfl, Nat.le_of_ble_eq_true rfl, Nat.le_of_ble_eq_true rfl⟩ rfl rfl (Nat.le_of_ble_eq_true rfl) dX8_frame_59 ?_
              refine x_aload_n (pc := 62) X dX8_frame_62 rfl 0 rfl ?_
              refine gX8_30 (pc := 63) X dX8_frame_63 ?_
              refine x_iconst (pc := 66) (v := 1) X dX8_frame_66 (by decide) ?_
              refine x_iload_n (pc := 67) X dX8_frame_67 rfl 1 rfl ?_
              refine x_ishl (pc := 68) X dX8_frame_68 ?_
              refine x_iconst (pc := 69) (v := (-1)) X dX8_frame_69 (by decide) ?_
              obtain ⟨σ70, hq70, h⟩ := xb1_some h
              refine x_callvV (pc := 70) (As := [.int (1 <<< (v1 &&& 31)), .int (-1)]) (rest := []) X (kX4_seat l X.2.2.2.2.2.2.2 F _ _ _ _ hq70) kvX8_199 rfl (qX4) ⟨rfl, rfl, Nat.le_of_ble_eq_true rfl, Nat.le_of_ble_eq_true rfl⟩ rfl rfl (Nat.le_of_ble_eq_true rfl) dX8_frame_70 ?_
              refine x_aload_n (pc := 73) X dX8_frame_73 rfl 0 rfl ?_
              refine gX8_30 (pc := 74) X dX8_frame_74 ?_
              refine x_iload (pc := 77) X dX8_frame_77 5 rfl ?_
              obtain ⟨r79, σ79, hq79, h⟩ := xb2_some h
              refine x_calliV (pc := 79) (As := [.int v5]) (rest := []) X (kX4_answer l X.2.2.2.2.2.2.2 F _ _ _ _ hq79) kvX8_202 rfl (qX4) ⟨rfl, rfl, Nat.le_of_ble_eq_true rfl, Nat.le_of_ble_eq_true rfl⟩ rfl rfl (Nat.le_of_ble_eq_true rfl) dX8_frame_79 ?_
              exact x_iret (pc := 82) X hr hl h dX8_frame_82
            · have h := xif hc h
              refine x_sub [] rfl ?_
              exact wX8_frame_L45 X hr hl F _ h
set_option maxRecDepth 100000 in
set_option maxHeartbeats 4000000 in
theorem wX8_air_L36 {p : Program} {l : Launch} {e : Env} {s : State} {m : MethodId} {args : Array Value} {below : List Frame} {meth : Method} {c : Code} {D : va_G} {A : Nat → Prop} {ad : Nat → Nat} {cI cX : ClassId} {r : Int32} {σ' : xSt} (X : xX p s m args c cX8_air 5 RX8 D (tyC cI cX) A (wC ad cI cX)) (hr : meth.sig.returnType = (some .int)) (hl : meth.locks = false) (F : Nat) (σ : xSt) (h : mX8_air_L36 F σ = some (r, σ')) : xG p l e ({ frames := 5, cells := 0, slots := 0, locals := 122 }) s m args below meth c (MQ below (xQi D A (wC ad cI cX) r σ') args s 0 0 A) 5 D A (wC ad cI cX) σ 36 [] [] := by
  unfold mX8_air_L36 at h
  refine x_bipush (pc := 36) (v := (-2)) X dX8_air_36 (by decide) ?_
  exact x_iret (pc := 38) X hr hl h dX8_air_38
set_option maxRecDepth 100000 in
set_option maxHeartbeats 4000000 in
theorem kX8_air (l : Launch) {D : va_G} {A : Nat → Prop} {ad : Nat → Nat} {cI cX : ClassId} (hD : ∀ σ, va_D A ((wC ad cI cX) σ)) (F : Nat) (v1 : Int32) (v2 : Int32) (v3 : Int32) (v4 : Int32) (σ : xSt) (r : Int32) (σ' : xSt) (h : mX8_air F v1 v2 v3 v4 σ = some (r, σ')) : xM l yX8_air cX8_air 5 (some .int) ({ frames := 5, cells := 0, slots := 0, locals := 122 }) D (tyC cI cX) A (wC ad cI cX) [.ref (ad 0), .int v1, .int v2, .int v3, .int v4] σ (xQi D A (wC ad cI cX) r σ') := by
  refine xM_of (lv := [(0, .ref (ad 0)), (1, .int v1), (2, .int v2), (3, .int v3), (4, .int v4)]) [.ref (ad 0), .int v1, .int v2, .int v3, .int v4] (by decide) hD rfl (Nat.le_of_ble_eq_true rfl) ?_
  intro p e s m args below meth c X hr hl
  unfold mX8_air at h
  refine x_iload_n (pc := 0) X dX8_air_0 rfl 1 rfl ?_
  refine x_if_lt (pc := 1) X 36 dX8_air_1 (by decide) (fun hc => ?_) (fun hc => ?_)
  · have h := xit hc h
    refine x_sub [] rfl ?_
    exact wX8_air_L36 X hr hl F _ h
  · have h := xif hc h
    refine x_iload_n (pc := 4) X dX8_air_4 rfl 1 rfl ?_
    refine x_bipush (pc := 5) (v := 63) X dX8_air_5 (by decide) ?_
    refine x_icmp_gt (pc := 7) X 36 dX8_air_7 (by decide) (fun hc => ?_) (fun hc => ?_)
    · have h := xit hc h
      refine x_sub [] rfl ?_
      exact wX8_air_L36 X hr hl F _ h
    · have h := xif hc h
      refine x_iload_n (pc := 10) X dX8_air_10 rfl 2 rfl ?_
      obtain ⟨r11, σ11, hq11, h⟩ := xb2_some h
      refine x_calliS (pc := 11) (As := [.int v2]) (rest := []) X (kX8_noHour l X.2.2.2.2.2.2.2 F _ _ _ _ hq11) kvX8_100 ⟨rfl, rfl, Nat.le_of_ble_eq_true rfl, Nat.le_of_ble_eq_true rfl⟩ rfl rfl (Nat.le_of_ble_eq_true rfl) dX8_air_11 ?_
      refine x_if_ne (pc := 14) X 36 dX8_air_14 (by decide) (fun hc => ?_) (fun hc => ?_)
      · have h := xif hc h
        refine x_sub [] rfl ?_
        exact wX8_air_L36 X hr hl F _ h
      · have h := xit hc h
        refine x_iload_n (pc := 17) X dX8_air_17 rfl 3 rfl ?_
        obtain ⟨r18, σ18, hq18, h⟩ := xb2_some h
        refine x_calliS (pc := 18) (As := [.int v3]) (rest := []) X (kX8_noHour l X.2.2.2.2.2.2.2 F _ _ _ _ hq18) kvX8_100 ⟨rfl, rfl, Nat.le_of_ble_eq_true rfl, Nat.le_of_ble_eq_true rfl⟩ rfl rfl (Nat.le_of_ble_eq_true rfl) dX8_air_18 ?_
        refine x_if_ne (pc := 21) X 36 dX8_air_21 (by decide) (fun hc => ?_) (fun hc => ?_)
        · have h := xif hc h
          refine x_sub [] rfl ?_
          exact wX8_air_L36 X hr hl F _ h
        · have h := xit hc h
          refine x_iload (pc := 24) X dX8_air_24 4 rfl ?_
          refine x_iconst (pc := 26) (v := (-1)) X dX8_air_26 (by decide) ?_
          refine x_icmp_lt (pc := 27) X 36 dX8_air_27 (by decide) (fun hc => ?_) (fun hc => ?_)
          · have h := xit hc h
            refine x_sub [] rfl ?_
            exact wX8_air_L36 X hr hl F _ h
          · have h := xif hc h
            refine x_iload (pc := 30) X dX8_air_30 4 rfl ?_
            refine x_iconst (pc := 32) (v := 3) X dX8_air_32 (by decide) ?_
            refine x_icmp_lt (pc := 33) X 39 dX8_air_33 (by decide) (fun hc => ?_) (fun hc => ?_)
            · have h := xit hc h
              refine x_aload_n (pc := 39) X dX8_air_39 rfl 0 rfl ?_
              refine gX8_30 (pc := 40) X dX8_air_40 ?_
              refine x_iload_n (pc := 43) X dX8_air_43 rfl 2 rfl ?_
              refine x_iload_n (pc := 44) X dX8_air_44 rfl 3 rfl ?_
              refine x_sipush (pc := 45) (v := 255) X dX8_air_45 (by decide) ?_
              refine x_iconst (pc := 48) (v := 0) X dX8_air_48 (by decide) ?_
              obtain ⟨σ49, hq49, h⟩ := xb1_some h
              refine x_callvV (pc := 49) (As := [.int v2, .int v3, .int 255, .int 0]) (rest := []) X (kX4_aim l X.2.2.2.2.2.2.2 F _ _ _ _ _ _ hq49) kvX8_195 rfl (qX4) ⟨rfl, rfl, Nat.le_of_ble_eq_true rfl, Nat.le_of_ble_eq_true rfl⟩ rfl rfl (Nat.le_of_ble_eq_true rfl) dX8_air_49 ?_
              refine x_aload_n (pc := 52) X dX8_air_52 rfl 0 rfl ?_
              refine gX8_30 (pc := 53) X dX8_air_53 ?_
              refine x_iload_n (pc := 56) X dX8_air_56 rfl 1 rfl ?_
              obtain ⟨σ57, hq57, h⟩ := xb1_some h
              refine x_callvV (pc := 57) (As := [.int v1]) (rest := []) X (kX4_open l X.2.2.2.2.2.2.2 F _ _ _ hq57) kvX8_208 rfl (qX4) ⟨rfl, rfl, Nat.le_of_ble_eq_true rfl, Nat.le_of_ble_eq_true rfl⟩ rfl rfl (Nat.le_of_ble_eq_true rfl) dX8_air_57 ?_
              refine x_aload_n (pc := 60) X dX8_air_60 rfl 0 rfl ?_
              refine gX8_30 (pc := 61) X dX8_air_61 ?_
              refine x_iload (pc := 64) X dX8_air_64 4 rfl ?_
              obtain ⟨r66, σ66, hq66, h⟩ := xb2_some h
              refine x_calliV (pc := 66) (As := [.int v4]) (rest := []) X (kX4_answer l X.2.2.2.2.2.2.2 F _ _ _ _ hq66) kvX8_202 rfl (qX4) ⟨rfl, rfl, Nat.le_of_ble_eq_true rfl, Nat.le_of_ble_eq_true rfl⟩ rfl rfl (Nat.le_of_ble_eq_true rfl) dX8_air_66 ?_
              exact x_iret (pc := 69) X hr hl h dX8_air_69
            · have h := xif hc h
              refine x_sub [] rfl ?_
              exact wX8_air_L36 X hr hl F _ h
set_option maxRecDepth 100000 in
set_option maxHeartbeats 4000000 in
theorem kJ6_bitCount_0f7a4 (l : Launch) {D : va_G} {A : Nat → Prop} {ad : Nat → Nat} {cI cX : ClassId} (hD : ∀ σ, va_D A ((wC ad cI cX) σ)) (F : Nat) (v0 : Int32) (σ : xSt) (r : Int32) (σ' : xSt) (h : mJ6_bitCount_0f7a4 F v0 σ = some (r, σ')) : xM l yJ6_bitCount_0f7a4 cJ6_bitCount_0f7a4 1 (some .int) ({ frames := 0, cells := 0, slots := 0, locals := 0 }) D (tyC cI cX) A (wC ad cI cX) [.int v0] σ (xQi D A (wC ad cI cX) r σ') := by
  refine xM_of (lv := [(0, .int v0)]) [.int v0] (by decide) hD rfl (Nat.le_of_ble_eq_true rfl) ?_
  intro p e s m args below meth c X hr hl
  unfold mJ6_bitCount_0f7a4 at h
  refine x_iload_n (pc := 0) X dJ6_bitCount_0f7a4_0 rfl 0 rfl ?_
  refine x_iload_n (pc := 1) X dJ6_bitCount_0f7a4_1 rfl 0 rfl ?_
  refine x_iconst (pc := 2) (v := 1) X dJ6_bitCount_0f7a4_2 (by decide) ?_
  refine x_iushr (pc := 3) X dJ6_bitCount_0f7a4_3 ?_
  refine x_ldcw (pc := 4) X kcJ6_265 dJ6_bitCount_0f7a4_4 ?_
  refine x_iand (pc := 7) X dJ6_bitCount_0f7a4_7 ?_
  refine x_isub (pc := 8) X dJ6_bitCount_0f7a4_8 ?_
  refine x_istore_n (pc := 9) (lv' := [(0, .int (v0 - ((Int32.toUInt32 v0 >>> (Int32.toUInt32 1 &&& Int32.toUInt32 31)).toInt32 &&& 1431655765)))]) X dJ6_bitCount_0f7a4_9 rfl (by decide) rfl ?_
  refine x_iload_n (pc := 10) X dJ6_bitCount_0f7a4_10 rfl 0 rfl ?_
  refine x_ldcw (pc := 11) X kcJ6_266 dJ6_bitCount_0f7a4_11 ?_
  refine x_iand (pc := 14) X dJ6_bitCount_0f7a4_14 ?_
  refine x_iload_n (pc := 15) X dJ6_bitCount_0f7a4_15 rfl 0 rfl ?_
  refine x_iconst (pc := 16) (v := 2) X dJ6_bitCount_0f7a4_16 (by decide) ?_
  refine x_iushr (pc := 17) X dJ6_bitCount_0f7a4_17 ?_
  refine x_ldcw (pc := 18) X kcJ6_266 dJ6_bitCount_0f7a4_18 ?_
  refine x_iand (pc := 21) X dJ6_bitCount_0f7a4_21 ?_
  refine x_iadd (pc := 22) X dJ6_bitCount_0f7a4_22 ?_
  refine x_istore_n (pc := 23) (lv' := [(0, .int (((v0 - ((Int32.toUInt32 v0 >>> (Int32.toUInt32 1 &&& Int32.toUInt32 31)).toInt32 &&& 1431655765)) &&& 858993459) + ((Int32.toUInt32 (v0 - ((Int32.toUInt32 v0 >>> (Int32.toUInt32 1 &&& Int32.toUInt32 31)).toInt32 &&& 1431655765)) >>> (Int32.toUInt32 2 &&& Int32.toUInt32 31)).toInt32 &&& 858993459)))]) X dJ6_bitCount_0f7a4_23 rfl (by decide) rfl ?_
  refine x_iload_n (pc := 24) X dJ6_bitCount_0f7a4_24 rfl 0 rfl ?_
  refine x_iload_n (pc := 25) X dJ6_bitCount_0f7a4_25 rfl 0 rfl ?_
  refine x_iconst (pc := 26) (v := 4) X dJ6_bitCount_0f7a4_26 (by decide) ?_
  refine x_iushr (pc := 27) X dJ6_bitCount_0f7a4_27 ?_
  refine x_iadd (pc := 28) X dJ6_bitCount_0f7a4_28 ?_
  refine x_ldcw (pc := 29) X kcJ6_267 dJ6_bitCount_0f7a4_29 ?_
  refine x_iand (pc := 32) X dJ6_bitCount_0f7a4_32 ?_
  refine x_istore_n (pc := 33) (lv' := [(0, .int (((((v0 - ((Int32.toUInt32 v0 >>> (Int32.toUInt32 1 &&& Int32.toUInt32 31)).toInt32 &&& 1431655765)) &&& 858993459) + ((Int32.toUInt32 (v0 - ((Int32.toUInt32 v0 >>> (Int32.toUInt32 1 &&& Int32.toUInt32 31)).toInt32 &&& 1431655765)) >>> (Int32.toUInt32 2 &&& Int32.toUInt32 31)).toInt32 &&& 858993459)) + (Int32.toUInt32 (((v0 - ((Int32.toUInt32 v0 >>> (Int32.toUInt32 1 &&& Int32.toUInt32 31)).toInt32 &&& 1431655765)) &&& 858993459) + ((Int32.toUInt32 (v0 - ((Int32.toUInt32 v0 >>> (Int32.toUInt32 1 &&& Int32.toUInt32 31)).toInt32 &&& 1431655765)) >>> (Int32.toUInt32 2 &&& Int32.toUInt32 31)).toInt32 &&& 858993459)) >>> (Int32.toUInt32 4 &&& Int32.toUInt32 31)).toInt32) &&& 252645135))]) X dJ6_bitCount_0f7a4_33 rfl (by decide) rfl ?_
  refine x_iload_n (pc := 34) X dJ6_bitCount_0f7a4_34 rfl 0 rfl ?_
  refine x_iload_n (pc := 35) X dJ6_bitCount_0f7a4_35 rfl 0 rfl ?_
  refine x_bipush (pc := 36) (v := 8) X dJ6_bitCount_0f7a4_36 (by decide) ?_
  refine x_iushr (pc := 38) X dJ6_bitCount_0f7a4_38 ?_
  refine x_iadd (pc := 39) X dJ6_bitCount_0f7a4_39 ?_
  refine x_istore_n (pc := 40) (lv' := [(0, .int ((((((v0 - ((Int32.toUInt32 v0 >>> (Int32.toUInt32 1 &&& Int32.toUInt32 31)).toInt32 &&& 1431655765)) &&& 858993459) + ((Int32.toUInt32 (v0 - ((Int32.toUInt32 v0 >>> (Int32.toUInt32 1 &&& Int32.toUInt32 31)).toInt32 &&& 1431655765)) >>> (Int32.toUInt32 2 &&& Int32.toUInt32 31)).toInt32 &&& 858993459)) + (Int32.toUInt32 (((v0 - ((Int32.toUInt32 v0 >>> (Int32.toUInt32 1 &&& Int32.toUInt32 31)).toInt32 &&& 1431655765)) &&& 858993459) + ((Int32.toUInt32 (v0 - ((Int32.toUInt32 v0 >>> (Int32.toUInt32 1 &&& Int32.toUInt32 31)).toInt32 &&& 1431655765)) >>> (Int32.toUInt32 2 &&& Int32.toUInt32 31)).toInt32 &&& 858993459)) >>> (Int32.toUInt32 4 &&& Int32.toUInt32 31)).toInt32) &&& 252645135) + (Int32.toUInt32 (((((v0 - ((Int32.toUInt32 v0 >>> (Int32.toUInt32 1 &&& Int32.toUInt32 31)).toInt32 &&& 1431655765)) &&& 858993459) + ((Int32.toUInt32 (v0 - ((Int32.toUInt32 v0 >>> (Int32.toUInt32 1 &&& Int32.toUInt32 31)).toInt32 &&& 1431655765)) >>> (Int32.toUInt32 2 &&& Int32.toUInt32 31)).toInt32 &&& 858993459)) + (Int32.toUInt32 (((v0 - ((Int32.toUInt32 v0 >>> (Int32.toUInt32 1 &&& Int32.toUInt32 31)).toInt32 &&& 1431655765)) &&& 858993459) + ((Int32.toUInt32 (v0 - ((Int32.toUInt32 v0 >>> (Int32.toUInt32 1 &&& Int32.toUInt32 31)).toInt32 &&& 1431655765)) >>> (Int32.toUInt32 2 &&& Int32.toUInt32 31)).toInt32 &&& 858993459)) >>> (Int32.toUInt32 4 &&& Int32.toUInt32 31)).toInt32) &&& 252645135) >>> (Int32.toUInt32 8 &&& Int32.toUInt32 31)).toInt32))]) X dJ6_bitCount_0f7a4_40 rfl (by decide) rfl ?_
  refine x_iload_n (pc := 41) X dJ6_bitCount_0f7a4_41 rfl 0 rfl ?_
  refine x_iload_n (pc := 42) X dJ6_bitCount_0f7a4_42 rfl 0 rfl ?_
  refine x_bipush (pc := 43) (v := 16) X dJ6_bitCount_0f7a4_43 (by decide) ?_
  refine x_iushr (pc := 45) X dJ6_bitCount_0f7a4_45 ?_
  refine x_iadd (pc := 46) X dJ6_bitCount_0f7a4_46 ?_
  refine x_istore_n (pc := 47) (lv' := [(0, .int (((((((v0 - ((Int32.toUInt32 v0 >>> (Int32.toUInt32 1 &&& Int32.toUInt32 31)).toInt32 &&& 1431655765)) &&& 858993459) + ((Int32.toUInt32 (v0 - ((Int32.toUInt32 v0 >>> (Int32.toUInt32 1 &&& Int32.toUInt32 31)).toInt32 &&& 1431655765)) >>> (Int32.toUInt32 2 &&& Int32.toUInt32 31)).toInt32 &&& 858993459)) + (Int32.toUInt32 (((v0 - ((Int32.toUInt32 v0 >>> (Int32.toUInt32 1 &&& Int32.toUInt32 31)).toInt32 &&& 1431655765)) &&& 858993459) + ((Int32.toUInt32 (v0 - ((Int32.toUInt32 v0 >>> (Int32.toUInt32 1 &&& Int32.toUInt32 31)).toInt32 &&& 1431655765)) >>> (Int32.toUInt32 2 &&& Int32.toUInt32 31)).toInt32 &&& 858993459)) >>> (Int32.toUInt32 4 &&& Int32.toUInt32 31)).toInt32) &&& 252645135) + (Int32.toUInt32 (((((v0 - ((Int32.toUInt32 v0 >>> (Int32.toUInt32 1 &&& Int32.toUInt32 31)).toInt32 &&& 1431655765)) &&& 858993459) + ((Int32.toUInt32 (v0 - ((Int32.toUInt32 v0 >>> (Int32.toUInt32 1 &&& Int32.toUInt32 31)).toInt32 &&& 1431655765)) >>> (Int32.toUInt32 2 &&& Int32.toUInt32 31)).toInt32 &&& 858993459)) + (Int32.toUInt32 (((v0 - ((Int32.toUInt32 v0 >>> (Int32.toUInt32 1 &&& Int32.toUInt32 31)).toInt32 &&& 1431655765)) &&& 858993459) + ((Int32.toUInt32 (v0 - ((Int32.toUInt32 v0 >>> (Int32.toUInt32 1 &&& Int32.toUInt32 31)).toInt32 &&& 1431655765)) >>> (Int32.toUInt32 2 &&& Int32.toUInt32 31)).toInt32 &&& 858993459)) >>> (Int32.toUInt32 4 &&& Int32.toUInt32 31)).toInt32) &&& 252645135) >>> (Int32.toUInt32 8 &&& Int32.toUInt32 31)).toInt32) + (Int32.toUInt32 ((((((v0 - ((Int32.toUInt32 v0 >>> (Int32.toUInt32 1 &&& Int32.toUInt32 31)).toInt32 &&& 1431655765)) &&& 858993459) + ((Int32.toUInt32 (v0 - ((Int32.toUInt32 v0 >>> (Int32.toUInt32 1 &&& Int32.toUInt32 31)).toInt32 &&& 1431655765)) >>> (Int32.toUInt32 2 &&& Int32.toUInt32 31)).toInt32 &&& 858993459)) + (Int32.toUInt32 (((v0 - ((Int32.toUInt32 v0 >>> (Int32.toUInt32 1 &&& Int32.toUInt32 31)).toInt32 &&& 1431655765)) &&& 858993459) + ((Int32.toUInt32 (v0 - ((Int32.toUInt32 v0 >>> (Int32.toUInt32 1 &&& Int32.toUInt32 31)).toInt32 &&& 1431655765)) >>> (Int32.toUInt32 2 &&& Int32.toUInt32 31)).toInt32 &&& 858993459)) >>> (Int32.toUInt32 4 &&& Int32.toUInt32 31)).toInt32) &&& 252645135) + (Int32.toUInt32 (((((v0 - ((Int32.toUInt32 v0 >>> (Int32.toUInt32 1 &&& Int32.toUInt32 31)).toInt32 &&& 1431655765)) &&& 858993459) + ((Int32.toUInt32 (v0 - ((Int32.toUInt32 v0 >>> (Int32.toUInt32 1 &&& Int32.toUInt32 31)).toInt32 &&& 1431655765)) >>> (Int32.toUInt32 2 &&& Int32.toUInt32 31)).toInt32 &&& 858993459)) + (Int32.toUInt32 (((v0 - ((Int32.toUInt32 v0 >>> (Int32.toUInt32 1 &&& Int32.toUInt32 31)).toInt32 &&& 1431655765)) &&& 858993459) + ((Int32.toUInt32 (v0 - ((Int32.toUInt32 v0 >>> (Int32.toUInt32 1 &&& Int32.toUInt32 31)).toInt32 &&& 1431655765)) >>> (Int32.toUInt32 2 &&& Int32.toUInt32 31)).toInt32 &&& 858993459)) >>> (Int32.toUInt32 4 &&& Int32.toUInt32 31)).toInt32) &&& 252645135) >>> (Int32.toUInt32 8 &&& Int32.toUInt32 31)).toInt32) >>> (Int32.toUInt32 16 &&& Int32.toUInt32 31)).toInt32))]) X dJ6_bitCount_0f7a4_47 rfl (by decide) rfl ?_
  refine x_iload_n (pc := 48) X dJ6_bitCount_0f7a4_48 rfl 0 rfl ?_
  refine x_bipush (pc := 49) (v := 63) X dJ6_bitCount_0f7a4_49 (by decide) ?_
  refine x_iand (pc := 51) X dJ6_bitCount_0f7a4_51 ?_
  exact x_iret (pc := 52) X hr hl h dJ6_bitCount_0f7a4_52
set_option maxRecDepth 100000 in
set_option maxHeartbeats 4000000 in
theorem wX8_known_L85 {p : Program} {l : Launch} {e : Env} {s : State} {m : MethodId} {args : Array Value} {below : List Frame} {meth : Method} {c : Code} {D : va_G} {A : Nat → Prop} {ad : Nat → Nat} {cI cX : ClassId} {r : Int32} {σ' : xSt} (X : xX p s m args c cX8_known 6 RX8 D (tyC cI cX) A (wC ad cI cX)) (hr : meth.sig.returnType = (some .int)) (hl : meth.locks = false) (F : Nat) (v4 : Int32) (σ : xSt) (h : mX8_known_L85 F v4 σ = some (r, σ')) : xG p l e ({ frames := 3, cells := 0, slots := 0, locals := 79 }) s m args below meth c (MQ below (xQi D A (wC ad cI cX) r σ') args s 0 0 A) 6 D A (wC ad cI cX) σ 85 [(4, .int v4)] [] := by
  unfold mX8_known_L85 at h
  refine x_iload (pc := 85) X dX8_known_85 0 rfl ?_
  exact x_iret (pc := 87) X hr hl h dX8_known_87
set_option maxRecDepth 100000 in
set_option maxHeartbeats 4000000 in
theorem wX8_known_L79 {p : Program} {l : Launch} {e : Env} {s : State} {m : MethodId} {args : Array Value} {below : List Frame} {meth : Method} {c : Code} {D : va_G} {A : Nat → Prop} {ad : Nat → Nat} {cI cX : ClassId} {r : Int32} {σ' : xSt} {c42 : Int32 → Int32 → Int32 → Int32 → Int32 → xSt → Option (Int32 × xSt)} (X : xX p s m args c cX8_known 6 RX8 D (tyC cI cX) A (wC ad cI cX)) (hr : meth.sig.returnType = (some .int)) (hl : meth.locks = false) (F : Nat) (hc42 : ∀ (v1 : Int32) (v2 : Int32) (v3 : Int32) (v4 : Int32) (v5 : Int32) (σ : xSt), c42 v1 v2 v3 v4 v5 σ = some (r, σ') → xG p l e ({ frames := 3, cells := 0, slots := 0, locals := 79 }) s m args below meth c (MQ below (xQi D A (wC ad cI cX) r σ') args s 0 0 A) 6 D A (wC ad cI cX) σ 42 [(0, .ref (ad 0)), (1, .int v1), (2, .int v2), (3, .int v3), (4, .int v4), (5, .int v5)] []) (v1 : Int32) (v2 : Int32) (v3 : Int32) (v4 : Int32) (v5 : Int32) (σ : xSt) (h : mX8_known_L79 F c42 v1 v2 v3 v4 v5 σ = some (r, σ')) : xG p l e ({ frames := 3, cells := 0, slots := 0, locals := 79 }) s m args below meth c (MQ below (xQi D A (wC ad cI cX) r σ') args s 0 0 A) 6 D A (wC ad cI cX) σ 79 [(0, .ref (ad 0)), (1, .int v1), (2, .int v2), (3, .int v3), (4, .int v4), (5, .int v5)] [] := by
  unfold mX8_known_L79 at h
  refine x_iinc (pc := 79) (v := (v5 + 1)) (lv' := [(5, .int (v5 + 1)), (0, .ref (ad 0)), (1, .int v1), (2, .int v2), (3, .int v3), (4, .int v4)]) X dX8_known_79 5 rfl rfl (by decide) rfl ?_
  refine x_goto (pc := 82) X 42 dX8_known_82 (by decide) ?_
  refine x_sub [1, 2, 3, 4, 5, 0] rfl ?_
  exact hc42 _ _ _ _ _ _ h
set_option maxRecDepth 100000 in
set_option maxHeartbeats 4000000 in
theorem wX8_known_S42 {p : Program} {l : Launch} {e : Env} {s : State} {m : MethodId} {args : Array Value} {below : List Frame} {meth : Method} {c : Code} {D : va_G} {A : Nat → Prop} {ad : Nat → Nat} {cI cX : ClassId} {r : Int32} {σ' : xSt} {c42 : Int32 → Int32 → Int32 → Int32 → Int32 → xSt → Option (Int32 × xSt)} (X : xX p s m args c cX8_known 6 RX8 D (tyC cI cX) A (wC ad cI cX)) (hr : meth.sig.returnType = (some .int)) (hl : meth.locks = false) (F : Nat) (hc42 : ∀ (v1 : Int32) (v2 : Int32) (v3 : Int32) (v4 : Int32) (v5 : Int32) (σ : xSt), c42 v1 v2 v3 v4 v5 σ = some (r, σ') → xG p l e ({ frames := 3, cells := 0, slots := 0, locals := 79 }) s m args below meth c (MQ below (xQi D A (wC ad cI cX) r σ') args s 0 0 A) 6 D A (wC ad cI cX) σ 42 [(0, .ref (ad 0)), (1, .int v1), (2, .int v2), (3, .int v3), (4, .int v4), (5, .int v5)] []) (v1 : Int32) (v2 : Int32) (v3 : Int32) (v4 : Int32) (v5 : Int32) (σ : xSt) (h : mX8_known_S42 F c42 v1 v2 v3 v4 v5 σ = some (r, σ')) : xG p l e ({ frames := 3, cells := 0, slots := 0, locals := 79 }) s m args below meth c (MQ below (xQi D A (wC ad cI cX) r σ') args s 0 0 A) 6 D A (wC ad cI cX) σ 42 [(0, .ref (ad 0)), (1, .int v1), (2, .int v2), (3, .int v3), (4, .int v4), (5, .int v5)] [] := by
  unfold mX8_known_S42 at h
  refine x_iload (pc := 42) X dX8_known_42 5 rfl ?_
  refine x_iload_n (pc := 44) X dX8_known_44 rfl 3 rfl ?_
  refine x_icmp_ge (pc := 45) X 85 dX8_known_45 (by decide) (fun hc => ?_) (fun hc => ?_)
  · have h := xit hc h
    refine x_sub [4] rfl ?_
    exact wX8_known_L85 X hr hl F _ _ h
  · have h := xif hc h
    refine x_iload (pc := 48) X dX8_known_48 5 rfl ?_
    obtain ⟨r50, σ50, hq50, h⟩ := xb2_some h
    refine x_calliS (pc := 50) (As := [.int v5]) (rest := []) X (kJ6_bitCount_0f7a4 l X.2.2.2.2.2.2.2 F _ _ _ _ hq50) kvX8_214 ⟨rfl, rfl, Nat.le_of_ble_eq_true rfl, Nat.le_of_ble_eq_true rfl⟩ rfl rfl (Nat.le_of_ble_eq_true rfl) dX8_known_50 ?_
    refine x_iload (pc := 53) X dX8_known_53 4 rfl ?_
    obtain ⟨r55, σ55, hq55, h⟩ := xb2_some h
    refine x_calliS (pc := 55) (As := [.int v4]) (rest := [.int r50]) X (kJ6_bitCount_0f7a4 l X.2.2.2.2.2.2.2 F _ _ _ _ hq55) kvX8_214 ⟨rfl, rfl, Nat.le_of_ble_eq_true rfl, Nat.le_of_ble_eq_true rfl⟩ rfl rfl (Nat.le_of_ble_eq_true rfl) dX8_known_55 ?_
    refine x_icmp_ge (pc := 58) X 79 dX8_known_58 (by decide) (fun hc => ?_) (fun hc => ?_)
    · have h := xit hc h
      refine x_sub [0, 1, 2, 3, 4, 5] rfl ?_
      exact wX8_known_L79 X hr hl F hc42 _ _ _ _ _ _ h
    · have h := xif hc h
      refine x_aload_n (pc := 61) X dX8_known_61 rfl 0 rfl ?_
      refine gX8_12 (pc := 62) X dX8_known_62 ?_
      refine x_iload_n (pc := 65) X dX8_known_65 rfl 1 rfl ?_
      refine x_iload (pc := 66) X dX8_known_66 5 rfl ?_
      obtain ⟨r68, σ68, hq68, h⟩ := xb2_some h
      refine x_calliV (pc := 68) (As := [.int v1, .int v5]) (rest := []) X (kX2_allTell l X.2.2.2.2.2.2.2 F _ _ _ _ _ hq68) kvX8_163 rfl (qX2) ⟨rfl, rfl, Nat.le_of_ble_eq_true rfl, Nat.le_of_ble_eq_true rfl⟩ rfl rfl (Nat.le_of_ble_eq_true rfl) dX8_known_68 ?_
      refine x_iload_n (pc := 71) X dX8_known_71 rfl 2 rfl ?_
      refine x_icmp_ne (pc := 72) X 79 dX8_known_72 (by decide) (fun hc => ?_) (fun hc => ?_)
      · have h := xif hc h
        refine x_sub [0, 1, 2, 3, 4, 5] rfl ?_
        exact wX8_known_L79 X hr hl F hc42 _ _ _ _ _ _ h
      · have h := xit hc h
        refine x_iload (pc := 75) X dX8_known_75 5 rfl ?_
        refine x_istore (pc := 77) (lv' := [(4, .int v5), (0, .ref (ad 0)), (1, .int v1), (2, .int v2), (3, .int v3), (5, .int v5)]) X dX8_known_77 (by decide) rfl ?_
        refine x_sub [1, 2, 3, 4, 0, 5] rfl ?_
        exact wX8_known_L79 X hr hl F hc42 _ _ _ _ _ _ h
theorem wX8_known_L42 {p : Program} {l : Launch} {e : Env} {s : State} {m : MethodId} {args : Array Value} {below : List Frame} {meth : Method} {c : Code} {D : va_G} {A : Nat → Prop} {ad : Nat → Nat} {cI cX : ClassId} {r : Int32} {σ' : xSt} (X : xX p s m args c cX8_known 6 RX8 D (tyC cI cX) A (wC ad cI cX)) (hr : meth.sig.returnType = (some .int)) (hl : meth.locks = false) (F : Nat) : ∀ (n : Nat) (v1 : Int32) (v2 : Int32) (v3 : Int32) (v4 : Int32) (v5 : Int32) (σ : xSt), mX8_known_L42 F n v1 v2 v3 v4 v5 σ = some (r, σ') → xG p l e ({ frames := 3, cells := 0, slots := 0, locals := 79 }) s m args below meth c (MQ below (xQi D A (wC ad cI cX) r σ') args s 0 0 A) 6 D A (wC ad cI cX) σ 42 [(0, .ref (ad 0)), (1, .int v1), (2, .int v2), (3, .int v3), (4, .int v4), (5, .int v5)] [] := by
  intro n
  induction n with
  | zero => intro v1 v2 v3 v4 v5 σ h; cases h
  | succ n ih => intro v1 v2 v3 v4 v5 σ h; exact wX8_known_S42 X hr hl F ih v1 v2 v3 v4 v5 σ h
set_option maxRecDepth 100000 in
set_option maxHeartbeats 4000000 in
theorem kX8_known (l : Launch) {D : va_G} {A : Nat → Prop} {ad : Nat → Nat} {cI cX : ClassId} (hD : ∀ σ, va_D A ((wC ad cI cX) σ)) (F : Nat) (v1 : Int32) (σ : xSt) (r : Int32) (σ' : xSt) (h : mX8_known F v1 σ = some (r, σ')) : xM l yX8_known cX8_known 6 (some .int) ({ frames := 3, cells := 0, slots := 0, locals := 79 }) D (tyC cI cX) A (wC ad cI cX) [.ref (ad 0), .int v1] σ (xQi D A (wC ad cI cX) r σ') := by
  refine xM_of (lv := [(0, .ref (ad 0)), (1, .int v1)]) [.ref (ad 0), .int v1] (by decide) hD rfl (Nat.le_of_ble_eq_true rfl) ?_
  intro p e s m args below meth c X hr hl
  unfold mX8_known at h
  refine x_iload_n (pc := 0) X dX8_known_0 rfl 1 rfl ?_
  obtain ⟨r1, σ1, hq1, h⟩ := xb2_some h
  refine x_calliS (pc := 1) (As := [.int v1]) (rest := []) X (kX8_noHour l X.2.2.2.2.2.2.2 F _ _ _ _ hq1) kvX8_100 ⟨rfl, rfl, Nat.le_of_ble_eq_true rfl, Nat.le_of_ble_eq_true rfl⟩ rfl rfl (Nat.le_of_ble_eq_true rfl) dX8_known_1 ?_
  refine x_if_eq (pc := 4) X 10 dX8_known_4 (by decide) (fun hc => ?_) (fun hc => ?_)
  · have h := xit hc h
    refine x_aload_n (pc := 10) X dX8_known_10 rfl 0 rfl ?_
    refine gX8_12 (pc := 11) X dX8_known_11 ?_
    refine x_iload_n (pc := 14) X dX8_known_14 rfl 1 rfl ?_
    refine x_bipush (pc := 15) (v := 63) X dX8_known_15 (by decide) ?_
    obtain ⟨r17, σ17, hq17, h⟩ := xb2_some h
    refine x_calliV (pc := 17) (As := [.int v1, .int 63]) (rest := []) X (kX2_allTell l X.2.2.2.2.2.2.2 F _ _ _ _ _ hq17) kvX8_163 rfl (qX2) ⟨rfl, rfl, Nat.le_of_ble_eq_true rfl, Nat.le_of_ble_eq_true rfl⟩ rfl rfl (Nat.le_of_ble_eq_true rfl) dX8_known_17 ?_
    refine x_istore_n (pc := 20) (lv' := [(2, .int r17), (0, .ref (ad 0)), (1, .int v1)]) X dX8_known_20 rfl (by decide) rfl ?_
    refine x_iconst (pc := 21) (v := 1) X dX8_known_21 (by decide) ?_
    refine x_aload_n (pc := 22) X dX8_known_22 rfl 1 rfl ?_
    refine gX8_12 (pc := 23) X dX8_known_23 ?_
    refine gX8_89 (pc := 26) X dX8_known_26 ?_
    refine gX8_211 (pc := 29) X 0 (by decide) dX8_known_29 ?_
    refine x_ishl (pc := 32) X dX8_known_32 ?_
    refine x_iconst (pc := 33) (v := 1) X dX8_known_33 (by decide) ?_
    refine x_isub (pc := 34) X dX8_known_34 ?_
    refine x_istore_n (pc := 35) (lv' := [(3, .int ((1 <<< ((xI σ17 (12 + 0)) &&& 31)) - 1)), (2, .int r17), (0, .ref (ad 0)), (1, .int v1)]) X dX8_known_35 rfl (by decide) rfl ?_
    refine x_iload_n (pc := 36) X dX8_known_36 rfl 0 rfl ?_
    refine x_istore (pc := 37) (lv' := [(4, .int ((1 <<< ((xI σ17 (12 + 0)) &&& 31)) - 1)), (3, .int ((1 <<< ((xI σ17 (12 + 0)) &&& 31)) - 1)), (2, .int r17), (0, .ref (ad 0)), (1, .int v1)]) X dX8_known_37 (by decide) rfl ?_
    refine x_iconst (pc := 39) (v := 0) X dX8_known_39 (by decide) ?_
    refine x_istore (pc := 40) (lv' := [(5, .int 0), (4, .int ((1 <<< ((xI σ17 (12 + 0)) &&& 31)) - 1)), (3, .int ((1 <<< ((xI σ17 (12 + 0)) &&& 31)) - 1)), (2, .int r17), (0, .ref (ad 0)), (1, .int v1)]) X dX8_known_40 (by decide) rfl ?_
    refine x_sub [4, 5, 3, 2, 1, 0] rfl ?_
    exact wX8_known_L42 X hr hl F F _ _ _ _ _ _ h
  · have h := xif hc h
    refine x_bipush (pc := 7) (v := (-2)) X dX8_known_7 (by decide) ?_
    exact x_iret (pc := 9) X hr hl h dX8_known_9
set_option maxRecDepth 100000 in
set_option maxHeartbeats 4000000 in
theorem wX8_smelt_L21 {p : Program} {l : Launch} {e : Env} {s : State} {m : MethodId} {args : Array Value} {below : List Frame} {meth : Method} {c : Code} {D : va_G} {A : Nat → Prop} {ad : Nat → Nat} {cI cX : ClassId} {r : Int32} {σ' : xSt} (X : xX p s m args c cX8_smelt 4 RX8 D (tyC cI cX) A (wC ad cI cX)) (hr : meth.sig.returnType = (some .int)) (hl : meth.locks = false) (F : Nat) (σ : xSt) (h : mX8_smelt_L21 F σ = some (r, σ')) : xG p l e ({ frames := 1, cells := 0, slots := 0, locals := 24 }) s m args below meth c (MQ below (xQi D A (wC ad cI cX) r σ') args s 0 0 A) 4 D A (wC ad cI cX) σ 21 [] [] := by
  unfold mX8_smelt_L21 at h
  refine x_bipush (pc := 21) (v := (-2)) X dX8_smelt_21 (by decide) ?_
  exact x_iret (pc := 23) X hr hl h dX8_smelt_23
set_option maxRecDepth 100000 in
set_option maxHeartbeats 4000000 in
theorem kX8_smelt (l : Launch) {D : va_G} {A : Nat → Prop} {ad : Nat → Nat} {cI cX : ClassId} (hD : ∀ σ, va_D A ((wC ad cI cX) σ)) (F : Nat) (v1 : Int32) (v2 : Int32) (v3 : Int32) (σ : xSt) (r : Int32) (σ' : xSt) (h : mX8_smelt F v1 v2 v3 σ = some (r, σ')) : xM l yX8_smelt cX8_smelt 4 (some .int) ({ frames := 1, cells := 0, slots := 0, locals := 24 }) D (tyC cI cX) A (wC ad cI cX) [.ref (ad 0), .int v1, .int v2, .int v3] σ (xQi D A (wC ad cI cX) r σ') := by
  refine xM_of (lv := [(0, .ref (ad 0)), (1, .int v1), (2, .int v2), (3, .int v3)]) [.ref (ad 0), .int v1, .int v2, .int v3] (by decide) hD rfl (Nat.le_of_ble_eq_true rfl) ?_
  intro p e s m args below meth c X hr hl
  unfold mX8_smelt at h
  refine x_iload_n (pc := 0) X dX8_smelt_0 rfl 1 rfl ?_
  obtain ⟨r1, σ1, hq1, h⟩ := xb2_some h
  refine x_calliS (pc := 1) (As := [.int v1]) (rest := []) X (kX8_noHour l X.2.2.2.2.2.2.2 F _ _ _ _ hq1) kvX8_100 ⟨rfl, rfl, Nat.le_of_ble_eq_true rfl, Nat.le_of_ble_eq_true rfl⟩ rfl rfl (Nat.le_of_ble_eq_true rfl) dX8_smelt_1 ?_
  refine x_if_ne (pc := 4) X 21 dX8_smelt_4 (by decide) (fun hc => ?_) (fun hc => ?_)
  · have h := xif hc h
    refine x_sub [] rfl ?_
    exact wX8_smelt_L21 X hr hl F _ h
  · have h := xit hc h
    refine x_iload_n (pc := 7) X dX8_smelt_7 rfl 2 rfl ?_
    obtain ⟨r8, σ8, hq8, h⟩ := xb2_some h
    refine x_calliS (pc := 8) (As := [.int v2]) (rest := []) X (kX8_noThingNumber l X.2.2.2.2.2.2.2 F _ _ _ _ hq8) kvX8_106 ⟨rfl, rfl, Nat.le_of_ble_eq_true rfl, Nat.le_of_ble_eq_true rfl⟩ rfl rfl (Nat.le_of_ble_eq_true rfl) dX8_smelt_8 ?_
    refine x_if_ne (pc := 11) X 21 dX8_smelt_11 (by decide) (fun hc => ?_) (fun hc => ?_)
    · have h := xif hc h
      refine x_sub [] rfl ?_
      exact wX8_smelt_L21 X hr hl F _ h
    · have h := xit hc h
      refine x_iload_n (pc := 14) X dX8_smelt_14 rfl 3 rfl ?_
      obtain ⟨r15, σ15, hq15, h⟩ := xb2_some h
      refine x_calliS (pc := 15) (As := [.int v3]) (rest := []) X (kX8_noSmells l X.2.2.2.2.2.2.2 F _ _ _ _ hq15) kvX8_205 ⟨rfl, rfl, Nat.le_of_ble_eq_true rfl, Nat.le_of_ble_eq_true rfl⟩ rfl rfl (Nat.le_of_ble_eq_true rfl) dX8_smelt_15 ?_
      refine x_if_eq (pc := 18) X 24 dX8_smelt_18 (by decide) (fun hc => ?_) (fun hc => ?_)
      · have h := xit hc h
        refine x_aload_n (pc := 24) X dX8_smelt_24 rfl 0 rfl ?_
        refine gX8_21 (pc := 25) X dX8_smelt_25 ?_
        obtain ⟨r28, σ28, hq28, h⟩ := xb2_some h
        refine x_calliV (pc := 28) (As := []) (rest := []) X (kX7_isFull l X.2.2.2.2.2.2.2 F 2 (by decide) _ _ _ hq28) kvX8_112 rfl (qX7 2 (by decide)) ⟨rfl, rfl, Nat.le_of_ble_eq_true rfl, Nat.le_of_ble_eq_true rfl⟩ rfl rfl (Nat.le_of_ble_eq_true rfl) dX8_smelt_28 ?_
        refine x_if_eq (pc := 31) X 37 dX8_smelt_31 (by decide) (fun hc => ?_) (fun hc => ?_)
        · have h := xit hc h
          refine x_aload_n (pc := 37) X dX8_smelt_37 rfl 0 rfl ?_
          refine gX8_21 (pc := 38) X dX8_smelt_38 ?_
          refine x_iload_n (pc := 41) X dX8_smelt_41 rfl 1 rfl ?_
          refine x_iload_n (pc := 42) X dX8_smelt_42 rfl 2 rfl ?_
          refine x_iload_n (pc := 43) X dX8_smelt_43 rfl 3 rfl ?_
          obtain ⟨σ44, hq44, h⟩ := xb1_some h
          refine x_callvV (pc := 44) (As := [.int v1, .int v2, .int v3]) (rest := []) X (kX7_add l X.2.2.2.2.2.2.2 F 2 (by decide) _ _ _ _ _ hq44) kvX8_113 rfl (qX7 2 (by decide)) ⟨rfl, rfl, Nat.le_of_ble_eq_true rfl, Nat.le_of_ble_eq_true rfl⟩ rfl rfl (Nat.le_of_ble_eq_true rfl) dX8_smelt_44 ?_
          refine x_aload_n (pc := 47) X dX8_smelt_47 rfl 0 rfl ?_
          refine gX8_21 (pc := 48) X dX8_smelt_48 ?_
          refine gX8_117 (pc := 51) X 2 (by decide) dX8_smelt_51 ?_
          exact x_iret (pc := 54) X hr hl h dX8_smelt_54
        · have h := xif hc h
          refine x_bipush (pc := 34) (v := (-4)) X dX8_smelt_34 (by decide) ?_
          exact x_iret (pc := 36) X hr hl h dX8_smelt_36
      · have h := xif hc h
        refine x_sub [] rfl ?_
        exact wX8_smelt_L21 X hr hl F _ h
set_option maxRecDepth 100000 in
set_option maxHeartbeats 4000000 in
theorem kX8_forget (l : Launch) {D : va_G} {A : Nat → Prop} {ad : Nat → Nat} {cI cX : ClassId} (hD : ∀ σ, va_D A ((wC ad cI cX) σ)) (F : Nat) (σ : xSt) (r : Int32) (σ' : xSt) (h : mX8_forget F σ = some (r, σ')) : xM l yX8_forget cX8_forget 2 (some .int) ({ frames := 1, cells := 0, slots := 0, locals := 20 }) D (tyC cI cX) A (wC ad cI cX) [.ref (ad 0)] σ (xQi D A (wC ad cI cX) r σ') := by
  refine xM_of (lv := [(0, .ref (ad 0))]) [.ref (ad 0)] (by decide) hD rfl (Nat.le_of_ble_eq_true rfl) ?_
  intro p e s m args below meth c X hr hl
  unfold mX8_forget at h
  refine x_aload_n (pc := 0) X dX8_forget_0 rfl 0 rfl ?_
  refine gX8_21 (pc := 1) X dX8_forget_1 ?_
  refine gX8_117 (pc := 4) X 2 (by decide) dX8_forget_4 ?_
  refine x_istore_n (pc := 7) (lv' := [(1, .int (xI σ (14 + 2))), (0, .ref (ad 0))]) X dX8_forget_7 rfl (by decide) rfl ?_
  refine x_aload_n (pc := 8) X dX8_forget_8 rfl 1 rfl ?_
  refine gX8_21 (pc := 9) X dX8_forget_9 ?_
  obtain ⟨σ12, hq12, h⟩ := xb1_some h
  refine x_callvV (pc := 12) (As := []) (rest := []) X (kX7_clear l X.2.2.2.2.2.2.2 F 2 (by decide) _ _ hq12) kvX8_218 rfl (qX7 2 (by decide)) ⟨rfl, rfl, Nat.le_of_ble_eq_true rfl, Nat.le_of_ble_eq_true rfl⟩ rfl rfl (Nat.le_of_ble_eq_true rfl) dX8_forget_12 ?_
  refine x_iload_n (pc := 15) X dX8_forget_15 rfl 0 rfl ?_
  exact x_iret (pc := 16) X hr hl h dX8_forget_16
set_option maxRecDepth 100000 in
set_option maxHeartbeats 4000000 in
theorem wX8_when_L22 {p : Program} {l : Launch} {e : Env} {s : State} {m : MethodId} {args : Array Value} {below : List Frame} {meth : Method} {c : Code} {D : va_G} {A : Nat → Prop} {ad : Nat → Nat} {cI cX : ClassId} {r : Int32} {σ' : xSt} (X : xX p s m args c cX8_when 3 RX8 D (tyC cI cX) A (wC ad cI cX)) (hr : meth.sig.returnType = (some .int)) (hl : meth.locks = false) (F : Nat) (σ : xSt) (h : mX8_when_L22 F σ = some (r, σ')) : xG p l e ({ frames := 4, cells := 0, slots := 0, locals := 100 }) s m args below meth c (MQ below (xQi D A (wC ad cI cX) r σ') args s 0 0 A) 3 D A (wC ad cI cX) σ 22 [] [] := by
  unfold mX8_when_L22 at h
  refine x_bipush (pc := 22) (v := (-2)) X dX8_when_22 (by decide) ?_
  exact x_iret (pc := 24) X hr hl h dX8_when_24
set_option maxRecDepth 100000 in
set_option maxHeartbeats 4000000 in
theorem kX8_when (l : Launch) {D : va_G} {A : Nat → Prop} {ad : Nat → Nat} {cI cX : ClassId} (hD : ∀ σ, va_D A ((wC ad cI cX) σ)) (F : Nat) (v1 : Int32) (v2 : Int32) (σ : xSt) (r : Int32) (σ' : xSt) (h : mX8_when F v1 v2 σ = some (r, σ')) : xM l yX8_when cX8_when 3 (some .int) ({ frames := 4, cells := 0, slots := 0, locals := 100 }) D (tyC cI cX) A (wC ad cI cX) [.ref (ad 0), .int v1, .int v2] σ (xQi D A (wC ad cI cX) r σ') := by
  refine xM_of (lv := [(0, .ref (ad 0)), (1, .int v1), (2, .int v2)]) [.ref (ad 0), .int v1, .int v2] (by decide) hD rfl (Nat.le_of_ble_eq_true rfl) ?_
  intro p e s m args below meth c X hr hl
  unfold mX8_when at h
  refine x_aload_n (pc := 0) X dX8_when_0 rfl 0 rfl ?_
  refine gX8_12 (pc := 1) X dX8_when_1 ?_
  refine x_iload_n (pc := 4) X dX8_when_4 rfl 1 rfl ?_
  obtain ⟨r5, σ5, hq5, h⟩ := xb2_some h
  refine x_calliV (pc := 5) (As := [.int v1]) (rest := []) X (kX2_lacksPerson l X.2.2.2.2.2.2.2 F _ _ _ _ hq5) kvX8_175 rfl (qX2) ⟨rfl, rfl, Nat.le_of_ble_eq_true rfl, Nat.le_of_ble_eq_true rfl⟩ rfl rfl (Nat.le_of_ble_eq_true rfl) dX8_when_5 ?_
  refine x_if_ne (pc := 8) X 22 dX8_when_8 (by decide) (fun hc => ?_) (fun hc => ?_)
  · have h := xif hc h
    refine x_sub [] rfl ?_
    exact wX8_when_L22 X hr hl F _ h
  · have h := xit hc h
    refine x_aload_n (pc := 11) X dX8_when_11 rfl 0 rfl ?_
    refine gX8_12 (pc := 12) X dX8_when_12 ?_
    refine x_iload_n (pc := 15) X dX8_when_15 rfl 2 rfl ?_
    obtain ⟨r16, σ16, hq16, h⟩ := xb2_some h
    refine x_calliV (pc := 16) (As := [.int v2]) (rest := []) X (kX2_lacksThing l X.2.2.2.2.2.2.2 F _ _ _ _ hq16) kvX8_144 rfl (qX2) ⟨rfl, rfl, Nat.le_of_ble_eq_true rfl, Nat.le_of_ble_eq_true rfl⟩ rfl rfl (Nat.le_of_ble_eq_true rfl) dX8_when_16 ?_
    refine x_if_eq (pc := 19) X 25 dX8_when_19 (by decide) (fun hc => ?_) (fun hc => ?_)
    · have h := xit hc h
      refine x_aload_n (pc := 25) X dX8_when_25 rfl 0 rfl ?_
      refine gX8_39 (pc := 26) X dX8_when_26 ?_
      refine x_iload_n (pc := 29) X dX8_when_29 rfl 1 rfl ?_
      refine x_iload_n (pc := 30) X dX8_when_30 rfl 2 rfl ?_
      obtain ⟨r31, σ31, hq31, h⟩ := xb2_some h
      refine x_calliV (pc := 31) (As := [.int v1, .int v2]) (rest := []) X (kX1_hoursOf l X.2.2.2.2.2.2.2 F _ _ _ _ _ hq31) kvX8_221 rfl (qX1) ⟨rfl, rfl, Nat.le_of_ble_eq_true rfl, Nat.le_of_ble_eq_true rfl⟩ rfl rfl (Nat.le_of_ble_eq_true rfl) dX8_when_31 ?_
      exact x_iret (pc := 34) X hr hl h dX8_when_34
    · have h := xif hc h
      refine x_sub [] rfl ?_
      exact wX8_when_L22 X hr hl F _ h
set_option maxRecDepth 100000 in
set_option maxHeartbeats 4000000 in
theorem wX8_noSitting_L23 {p : Program} {l : Launch} {e : Env} {s : State} {m : MethodId} {args : Array Value} {below : List Frame} {meth : Method} {c : Code} {D : va_G} {A : Nat → Prop} {ad : Nat → Nat} {cI cX : ClassId} {r : Int32} {σ' : xSt} (X : xX p s m args c cX8_noSitting 2 RX8 D (tyC cI cX) A (wC ad cI cX)) (hr : meth.sig.returnType = (some .boolean)) (hl : meth.locks = false) (F : Nat) (t0 : Int32) (σ : xSt) (h : mX8_noSitting_L23 F t0 σ = some (r, σ')) : xG p l e ({ frames := 0, cells := 0, slots := 0, locals := 0 }) s m args below meth c (MQ below (xQi D A (wC ad cI cX) r σ') args s 0 0 A) 2 D A (wC ad cI cX) σ 23 [] [.int t0] := by
  unfold mX8_noSitting_L23 at h
  obtain ⟨hb23, h⟩ := xck_some h
  exact x_zret (pc := 23) X hr hl hb23 h dX8_noSitting_23
set_option maxRecDepth 100000 in
set_option maxHeartbeats 4000000 in
theorem wX8_noSitting_L18 {p : Program} {l : Launch} {e : Env} {s : State} {m : MethodId} {args : Array Value} {below : List Frame} {meth : Method} {c : Code} {D : va_G} {A : Nat → Prop} {ad : Nat → Nat} {cI cX : ClassId} {r : Int32} {σ' : xSt} (X : xX p s m args c cX8_noSitting 2 RX8 D (tyC cI cX) A (wC ad cI cX)) (hr : meth.sig.returnType = (some .boolean)) (hl : meth.locks = false) (F : Nat) (σ : xSt) (h : mX8_noSitting_L18 F σ = some (r, σ')) : xG p l e ({ frames := 0, cells := 0, slots := 0, locals := 0 }) s m args below meth c (MQ below (xQi D A (wC ad cI cX) r σ') args s 0 0 A) 2 D A (wC ad cI cX) σ 18 [] [] := by
  unfold mX8_noSitting_L18 at h
  refine x_iconst (pc := 18) (v := 1) X dX8_noSitting_18 (by decide) ?_
  refine x_goto (pc := 19) X 23 dX8_noSitting_19 (by decide) ?_
  refine x_sub [] rfl ?_
  exact wX8_noSitting_L23 X hr hl F _ _ h
set_option maxRecDepth 100000 in
set_option maxHeartbeats 4000000 in
theorem kX8_noSitting (l : Launch) {D : va_G} {A : Nat → Prop} {ad : Nat → Nat} {cI cX : ClassId} (hD : ∀ σ, va_D A ((wC ad cI cX) σ)) (F : Nat) (v1 : Int32) (σ : xSt) (r : Int32) (σ' : xSt) (h : mX8_noSitting F v1 σ = some (r, σ')) : xM l yX8_noSitting cX8_noSitting 2 (some .boolean) ({ frames := 0, cells := 0, slots := 0, locals := 0 }) D (tyC cI cX) A (wC ad cI cX) [.ref (ad 0), .int v1] σ (xQi D A (wC ad cI cX) r σ') := by
  refine xM_of (lv := [(0, .ref (ad 0)), (1, .int v1)]) [.ref (ad 0), .int v1] (by decide) hD rfl (Nat.le_of_ble_eq_true rfl) ?_
  intro p e s m args below meth c X hr hl
  unfold mX8_noSitting at h
  refine x_iload_n (pc := 0) X dX8_noSitting_0 rfl 1 rfl ?_
  refine x_if_lt (pc := 1) X 18 dX8_noSitting_1 (by decide) (fun hc => ?_) (fun hc => ?_)
  · have h := xit hc h
    refine x_sub [] rfl ?_
    exact wX8_noSitting_L18 X hr hl F _ h
  · have h := xif hc h
    refine x_iload_n (pc := 4) X dX8_noSitting_4 rfl 1 rfl ?_
    refine x_aload_n (pc := 5) X dX8_noSitting_5 rfl 0 rfl ?_
    refine gX8_12 (pc := 6) X dX8_noSitting_6 ?_
    refine gX8_109 (pc := 9) X dX8_noSitting_9 ?_
    refine gX8_117 (pc := 12) X 0 (by decide) dX8_noSitting_12 ?_
    refine x_icmp_lt (pc := 15) X 22 dX8_noSitting_15 (by decide) (fun hc => ?_) (fun hc => ?_)
    · have h := xit hc h
      refine x_iconst (pc := 22) (v := 0) X dX8_noSitting_22 (by decide) ?_
      refine x_sub [] rfl ?_
      exact wX8_noSitting_L23 X hr hl F _ _ h
    · have h := xif hc h
      refine x_sub [] rfl ?_
      exact wX8_noSitting_L18 X hr hl F _ h
set_option maxRecDepth 100000 in
set_option maxHeartbeats 4000000 in
theorem wX8_who_L21 {p : Program} {l : Launch} {e : Env} {s : State} {m : MethodId} {args : Array Value} {below : List Frame} {meth : Method} {c : Code} {D : va_G} {A : Nat → Prop} {ad : Nat → Nat} {cI cX : ClassId} {r : Int32} {σ' : xSt} (X : xX p s m args c cX8_who 2 RX8 D (tyC cI cX) A (wC ad cI cX)) (hr : meth.sig.returnType = (some .int)) (hl : meth.locks = false) (F : Nat) (t0 : Int32) (σ : xSt) (h : mX8_who_L21 F t0 σ = some (r, σ')) : xG p l e ({ frames := 4, cells := 0, slots := 0, locals := 100 }) s m args below meth c (MQ below (xQi D A (wC ad cI cX) r σ') args s 0 0 A) 2 D A (wC ad cI cX) σ 21 [] [.int t0] := by
  unfold mX8_who_L21 at h
  exact x_iret (pc := 21) X hr hl h dX8_who_21
set_option maxRecDepth 100000 in
set_option maxHeartbeats 4000000 in
theorem kX8_who (l : Launch) {D : va_G} {A : Nat → Prop} {ad : Nat → Nat} {cI cX : ClassId} (hD : ∀ σ, va_D A ((wC ad cI cX) σ)) (F : Nat) (v1 : Int32) (σ : xSt) (r : Int32) (σ' : xSt) (h : mX8_who F v1 σ = some (r, σ')) : xM l yX8_who cX8_who 2 (some .int) ({ frames := 4, cells := 0, slots := 0, locals := 100 }) D (tyC cI cX) A (wC ad cI cX) [.ref (ad 0), .int v1] σ (xQi D A (wC ad cI cX) r σ') := by
  refine xM_of (lv := [(0, .ref (ad 0)), (1, .int v1)]) [.ref (ad 0), .int v1] (by decide) hD rfl (Nat.le_of_ble_eq_true rfl) ?_
  intro p e s m args below meth c X hr hl
  unfold mX8_who at h
  refine x_aload_n (pc := 0) X dX8_who_0 rfl 0 rfl ?_
  refine x_iload_n (pc := 1) X dX8_who_1 rfl 1 rfl ?_
  obtain ⟨r2, σ2, hq2, h⟩ := xb2_some h
  refine x_calliV (pc := 2) (As := [.int v1]) (rest := []) X (kX8_noSitting l X.2.2.2.2.2.2.2 F _ _ _ _ hq2) kvX8_224 rfl (qX8) ⟨rfl, rfl, Nat.le_of_ble_eq_true rfl, Nat.le_of_ble_eq_true rfl⟩ rfl rfl (Nat.le_of_ble_eq_true rfl) dX8_who_2 ?_
  refine x_if_eq (pc := 5) X 13 dX8_who_5 (by decide) (fun hc => ?_) (fun hc => ?_)
  · have h := xit hc h
    refine x_aload_n (pc := 13) X dX8_who_13 rfl 0 rfl ?_
    refine gX8_39 (pc := 14) X dX8_who_14 ?_
    refine x_iload_n (pc := 17) X dX8_who_17 rfl 1 rfl ?_
    obtain ⟨r18, σ18, hq18, h⟩ := xb2_some h
    refine x_calliV (pc := 18) (As := [.int v1]) (rest := []) X (kX1_sittersOf l X.2.2.2.2.2.2.2 F _ _ _ _ hq18) kvX8_227 rfl (qX1) ⟨rfl, rfl, Nat.le_of_ble_eq_true rfl, Nat.le_of_ble_eq_true rfl⟩ rfl rfl (Nat.le_of_ble_eq_true rfl) dX8_who_18 ?_
    refine x_sub [] rfl ?_
    exact wX8_who_L21 X hr hl F _ _ h
  · have h := xif hc h
    refine x_bipush (pc := 8) (v := (-2)) X dX8_who_8 (by decide) ?_
    refine x_goto (pc := 10) X 21 dX8_who_10 (by decide) ?_
    refine x_sub [] rfl ?_
    exact wX8_who_L21 X hr hl F _ _ h
set_option maxRecDepth 100000 in
set_option maxHeartbeats 4000000 in
theorem wX8_stand_L29 {p : Program} {l : Launch} {e : Env} {s : State} {m : MethodId} {args : Array Value} {below : List Frame} {meth : Method} {c : Code} {D : va_G} {A : Nat → Prop} {ad : Nat → Nat} {cI cX : ClassId} {r : Int32} {σ' : xSt} (X : xX p s m args c cX8_stand 3 RX8 D (tyC cI cX) A (wC ad cI cX)) (hr : meth.sig.returnType = (some .int)) (hl : meth.locks = false) (F : Nat) (t0 : Int32) (σ : xSt) (h : mX8_stand_L29 F t0 σ = some (r, σ')) : xG p l e ({ frames := 5, cells := 0, slots := 0, locals := 127 }) s m args below meth c (MQ below (xQi D A (wC ad cI cX) r σ') args s 0 0 A) 3 D A (wC ad cI cX) σ 29 [] [.int t0] := by
  unfold mX8_stand_L29 at h
  exact x_iret (pc := 29) X hr hl h dX8_stand_29
set_option maxRecDepth 100000 in
set_option maxHeartbeats 4000000 in
theorem wX8_stand_L15 {p : Program} {l : Launch} {e : Env} {s : State} {m : MethodId} {args : Array Value} {below : List Frame} {meth : Method} {c : Code} {D : va_G} {A : Nat → Prop} {ad : Nat → Nat} {cI cX : ClassId} {r : Int32} {σ' : xSt} (X : xX p s m args c cX8_stand 3 RX8 D (tyC cI cX) A (wC ad cI cX)) (hr : meth.sig.returnType = (some .int)) (hl : meth.locks = false) (F : Nat) (σ : xSt) (h : mX8_stand_L15 F σ = some (r, σ')) : xG p l e ({ frames := 5, cells := 0, slots := 0, locals := 127 }) s m args below meth c (MQ below (xQi D A (wC ad cI cX) r σ') args s 0 0 A) 3 D A (wC ad cI cX) σ 15 [] [] := by
  unfold mX8_stand_L15 at h
  refine x_bipush (pc := 15) (v := (-2)) X dX8_stand_15 (by decide) ?_
  refine x_goto (pc := 17) X 29 dX8_stand_17 (by decide) ?_
  refine x_sub [] rfl ?_
  exact wX8_stand_L29 X hr hl F _ _ h
set_option maxRecDepth 100000 in
set_option maxHeartbeats 4000000 in
theorem kX8_stand (l : Launch) {D : va_G} {A : Nat → Prop} {ad : Nat → Nat} {cI cX : ClassId} (hD : ∀ σ, va_D A ((wC ad cI cX) σ)) (F : Nat) (v1 : Int32) (v2 : Int32) (σ : xSt) (r : Int32) (σ' : xSt) (h : mX8_stand F v1 v2 σ = some (r, σ')) : xM l yX8_stand cX8_stand 3 (some .int) ({ frames := 5, cells := 0, slots := 0, locals := 127 }) D (tyC cI cX) A (wC ad cI cX) [.ref (ad 0), .int v1, .int v2] σ (xQi D A (wC ad cI cX) r σ') := by
  refine xM_of (lv := [(0, .ref (ad 0)), (1, .int v1), (2, .int v2)]) [.ref (ad 0), .int v1, .int v2] (by decide) hD rfl (Nat.le_of_ble_eq_true rfl) ?_
  intro p e s m args below meth c X hr hl
  unfold mX8_stand at h
  refine x_aload_n (pc := 0) X dX8_stand_0 rfl 0 rfl ?_
  refine x_iload_n (pc := 1) X dX8_stand_1 rfl 1 rfl ?_
  obtain ⟨r2, σ2, hq2, h⟩ := xb2_some h
  refine x_calliV (pc := 2) (As := [.int v1]) (rest := []) X (kX8_noSitting l X.2.2.2.2.2.2.2 F _ _ _ _ hq2) kvX8_224 rfl (qX8) ⟨rfl, rfl, Nat.le_of_ble_eq_true rfl, Nat.le_of_ble_eq_true rfl⟩ rfl rfl (Nat.le_of_ble_eq_true rfl) dX8_stand_2 ?_
  refine x_if_ne (pc := 5) X 15 dX8_stand_5 (by decide) (fun hc => ?_) (fun hc => ?_)
  · have h := xif hc h
    refine x_sub [] rfl ?_
    exact wX8_stand_L15 X hr hl F _ h
  · have h := xit hc h
    refine x_iload_n (pc := 8) X dX8_stand_8 rfl 2 rfl ?_
    obtain ⟨r9, σ9, hq9, h⟩ := xb2_some h
    refine x_calliS (pc := 9) (As := [.int v2]) (rest := []) X (kX8_noHour l X.2.2.2.2.2.2.2 F _ _ _ _ hq9) kvX8_100 ⟨rfl, rfl, Nat.le_of_ble_eq_true rfl, Nat.le_of_ble_eq_true rfl⟩ rfl rfl (Nat.le_of_ble_eq_true rfl) dX8_stand_9 ?_
    refine x_if_eq (pc := 12) X 20 dX8_stand_12 (by decide) (fun hc => ?_) (fun hc => ?_)
    · have h := xit hc h
      refine x_aload_n (pc := 20) X dX8_stand_20 rfl 0 rfl ?_
      refine gX8_39 (pc := 21) X dX8_stand_21 ?_
      refine x_iload_n (pc := 24) X dX8_stand_24 rfl 1 rfl ?_
      refine x_iload_n (pc := 25) X dX8_stand_25 rfl 2 rfl ?_
      obtain ⟨r26, σ26, hq26, h⟩ := xb2_some h
      refine x_calliV (pc := 26) (As := [.int v1, .int v2]) (rest := []) X (kX1_tellingThing l X.2.2.2.2.2.2.2 F _ _ _ _ _ hq26) kvX8_230 rfl (qX1) ⟨rfl, rfl, Nat.le_of_ble_eq_true rfl, Nat.le_of_ble_eq_true rfl⟩ rfl rfl (Nat.le_of_ble_eq_true rfl) dX8_stand_26 ?_
      refine x_sub [] rfl ?_
      exact wX8_stand_L29 X hr hl F _ _ h
    · have h := xif hc h
      refine x_sub [] rfl ?_
      exact wX8_stand_L15 X hr hl F _ h
set_option maxRecDepth 100000 in
set_option maxHeartbeats 4000000 in
theorem kX8_longRefusal (l : Launch) {D : va_G} {A : Nat → Prop} {ad : Nat → Nat} {cI cX : ClassId} (hD : ∀ σ, va_D A ((wC ad cI cX) σ)) (F : Nat) (v0 : Int32) (σ : xSt) (r : Int64) (σ' : xSt) (h : mX8_longRefusal F v0 σ = some (r, σ')) : xM l yX8_longRefusal cX8_longRefusal 1 (some .long) ({ frames := 0, cells := 0, slots := 0, locals := 0 }) D (tyC cI cX) A (wC ad cI cX) [.int v0] σ (xQl D A (wC ad cI cX) r σ') := by
  refine xM_of (lv := [(0, .int v0)]) [.int v0] (by decide) hD rfl (Nat.le_of_ble_eq_true rfl) ?_
  intro p e s m args below meth c X hr hl
  unfold mX8_longRefusal at h
  refine x_ldc2 (pc := 0) X kcX8_365 dX8_longRefusal_0 ?_
  refine x_iload_n (pc := 3) X dX8_longRefusal_3 rfl 0 rfl ?_
  refine x_i2l (pc := 4) X dX8_longRefusal_4 ?_
  refine x_lsub (pc := 5) X dX8_longRefusal_5 ?_
  exact x_lret (pc := 6) X hr hl h dX8_longRefusal_6
set_option maxRecDepth 100000 in
set_option maxHeartbeats 4000000 in
theorem wX8_power_L22 {p : Program} {l : Launch} {e : Env} {s : State} {m : MethodId} {args : Array Value} {below : List Frame} {meth : Method} {c : Code} {D : va_G} {A : Nat → Prop} {ad : Nat → Nat} {cI cX : ClassId} {r : Int64} {σ' : xSt} (X : xX p s m args c cX8_power 5 RX8 D (tyC cI cX) A (wC ad cI cX)) (hr : meth.sig.returnType = (some .long)) (hl : meth.locks = false) (F : Nat) (v2 : Int64) (σ : xSt) (h : mX8_power_L22 F v2 σ = some (r, σ')) : xG p l e ({ frames := 0, cells := 0, slots := 0, locals := 0 }) s m args below meth c (MQ below (xQl D A (wC ad cI cX) r σ') args s 0 0 A) 5 D A (wC ad cI cX) σ 22 [(2, .long v2)] [] := by
  unfold mX8_power_L22 at h
  refine x_lload_n (pc := 22) X dX8_power_22 rfl 0 rfl ?_
  exact x_lret (pc := 23) X hr hl h dX8_power_23
set_option maxRecDepth 100000 in
set_option maxHeartbeats 4000000 in
theorem wX8_power_S5 {p : Program} {l : Launch} {e : Env} {s : State} {m : MethodId} {args : Array Value} {below : List Frame} {meth : Method} {c : Code} {D : va_G} {A : Nat → Prop} {ad : Nat → Nat} {cI cX : ClassId} {r : Int64} {σ' : xSt} {c5 : Int32 → Int32 → Int64 → Int32 → xSt → Option (Int64 × xSt)} (X : xX p s m args c cX8_power 5 RX8 D (tyC cI cX) A (wC ad cI cX)) (hr : meth.sig.returnType = (some .long)) (hl : meth.locks = false) (F : Nat) (hc5 : ∀ (v0 : Int32) (v1 : Int32) (v2 : Int64) (v4 : Int32) (σ : xSt), c5 v0 v1 v2 v4 σ = some (r, σ') → xG p l e ({ frames := 0, cells := 0, slots := 0, locals := 0 }) s m args below meth c (MQ below (xQl D A (wC ad cI cX) r σ') args s 0 0 A) 5 D A (wC ad cI cX) σ 5 [(0, .int v0), (1, .int v1), (2, .long v2), (4, .int v4)] []) (v0 : Int32) (v1 : Int32) (v2 : Int64) (v4 : Int32) (σ : xSt) (h : mX8_power_S5 F c5 v0 v1 v2 v4 σ = some (r, σ')) : xG p l e ({ frames := 0, cells := 0, slots := 0, locals := 0 }) s m args below meth c (MQ below (xQl D A (wC ad cI cX) r σ') args s 0 0 A) 5 D A (wC ad cI cX) σ 5 [(0, .int v0), (1, .int v1), (2, .long v2), (4, .int v4)] [] := by
  unfold mX8_power_S5 at h
  refine x_iload (pc := 5) X dX8_power_5 3 rfl ?_
  refine x_iload_n (pc := 7) X dX8_power_7 rfl 1 rfl ?_
  refine x_icmp_ge (pc := 8) X 22 dX8_power_8 (by decide) (fun hc => ?_) (fun hc => ?_)
  · have h := xit hc h
    refine x_sub [2] rfl ?_
    exact wX8_power_L22 X hr hl F _ _ h
  · have h := xif hc h
    refine x_lload_n (pc := 11) X dX8_power_11 rfl 2 rfl ?_
    refine x_iload_n (pc := 12) X dX8_power_12 rfl 0 rfl ?_
    refine x_i2l (pc := 13) X dX8_power_13 ?_
    refine x_lmul (pc := 14) X dX8_power_14 ?_
    refine x_lstore_n (pc := 15) (lv' := [(2, .long (v2 * (Int32.toInt64 v0))), (0, .int v0), (1, .int v1), (4, .int v4)]) X dX8_power_15 rfl (by decide) rfl ?_
    refine x_iinc (pc := 16) (v := (v4 + 1)) (lv' := [(4, .int (v4 + 1)), (2, .long (v2 * (Int32.toInt64 v0))), (0, .int v0), (1, .int v1)]) X dX8_power_16 3 rfl rfl (by decide) rfl ?_
    refine x_goto (pc := 19) X 5 dX8_power_19 (by decide) ?_
    refine x_sub [2, 3, 1, 0] rfl ?_
    exact hc5 _ _ _ _ _ h
theorem wX8_power_L5 {p : Program} {l : Launch} {e : Env} {s : State} {m : MethodId} {args : Array Value} {below : List Frame} {meth : Method} {c : Code} {D : va_G} {A : Nat → Prop} {ad : Nat → Nat} {cI cX : ClassId} {r : Int64} {σ' : xSt} (X : xX p s m args c cX8_power 5 RX8 D (tyC cI cX) A (wC ad cI cX)) (hr : meth.sig.returnType = (some .long)) (hl : meth.locks = false) (F : Nat) : ∀ (n : Nat) (v0 : Int32) (v1 : Int32) (v2 : Int64) (v4 : Int32) (σ : xSt), mX8_power_L5 F n v0 v1 v2 v4 σ = some (r, σ') → xG p l e ({ frames := 0, cells := 0, slots := 0, locals := 0 }) s m args below meth c (MQ below (xQl D A (wC ad cI cX) r σ') args s 0 0 A) 5 D A (wC ad cI cX) σ 5 [(0, .int v0), (1, .int v1), (2, .long v2), (4, .int v4)] [] := by
  intro n
  induction n with
  | zero => intro v0 v1 v2 v4 σ h; cases h
  | succ n ih => intro v0 v1 v2 v4 σ h; exact wX8_power_S5 X hr hl F ih v0 v1 v2 v4 σ h
set_option maxRecDepth 100000 in
set_option maxHeartbeats 4000000 in
theorem kX8_power (l : Launch) {D : va_G} {A : Nat → Prop} {ad : Nat → Nat} {cI cX : ClassId} (hD : ∀ σ, va_D A ((wC ad cI cX) σ)) (F : Nat) (v0 : Int32) (v1 : Int32) (σ : xSt) (r : Int64) (σ' : xSt) (h : mX8_power F v0 v1 σ = some (r, σ')) : xM l yX8_power cX8_power 5 (some .long) ({ frames := 0, cells := 0, slots := 0, locals := 0 }) D (tyC cI cX) A (wC ad cI cX) [.int v0, .int v1] σ (xQl D A (wC ad cI cX) r σ') := by
  refine xM_of (lv := [(0, .int v0), (1, .int v1)]) [.int v0, .int v1] (by decide) hD rfl (Nat.le_of_ble_eq_true rfl) ?_
  intro p e s m args below meth c X hr hl
  unfold mX8_power at h
  refine x_lconst (pc := 0) (v := 1) X dX8_power_0 rfl ?_
  refine x_lstore_n (pc := 1) (lv' := [(2, .long 1), (0, .int v0), (1, .int v1)]) X dX8_power_1 rfl (by decide) rfl ?_
  refine x_iconst (pc := 2) (v := 0) X dX8_power_2 (by decide) ?_
  refine x_istore (pc := 3) (lv' := [(4, .int 0), (2, .long 1), (0, .int v0), (1, .int v1)]) X dX8_power_3 (by decide) rfl ?_
  refine x_sub [2, 3, 1, 0] rfl ?_
  exact wX8_power_L5 X hr hl F F _ _ _ _ _ h
