set_option maxRecDepth 100000 in
set_option maxHeartbeats 4000000 in
theorem wX4_openAt_L83 {p : Program} {l : Launch} {e : Env} {s : State} {m : MethodId} {args : Array Value} {below : List Frame} {meth : Method} {c : Code} {D : va_G} {A : Nat → Prop} {ad : Nat → Nat} {cI cX : ClassId} {σ' : xSt} (X : xX p s m args c cX4_openAt 5 RX4 D (tyC cI cX) A (wC ad cI cX)) (hr : meth.sig.returnType = none) (hl : meth.locks = false) (F : Nat) (σ : xSt) (h : mX4_openAt_L83 F σ = some σ') : xG p l e ({ frames := 3, cells := 0, slots := 0, locals := 76 }) s m args below meth c (MQ below (xQv D A (wC ad cI cX) σ') args s 0 0 A) 5 D A (wC ad cI cX) σ 83 [] [] := by
  unfold mX4_openAt_L83 at h
  exact x_vret (pc := 83) X hr hl h dX4_openAt_83
set_option maxRecDepth 100000 in
set_option maxHeartbeats 4000000 in
theorem wX4_openAt_L74 {p : Program} {l : Launch} {e : Env} {s : State} {m : MethodId} {args : Array Value} {below : List Frame} {meth : Method} {c : Code} {D : va_G} {A : Nat → Prop} {ad : Nat → Nat} {cI cX : ClassId} {σ' : xSt} (X : xX p s m args c cX4_openAt 5 RX4 D (tyC cI cX) A (wC ad cI cX)) (hr : meth.sig.returnType = none) (hl : meth.locks = false) (F : Nat) (v3 : Int32) (σ : xSt) (h : mX4_openAt_L74 F v3 σ = some σ') : xG p l e ({ frames := 3, cells := 0, slots := 0, locals := 76 }) s m args below meth c (MQ below (xQv D A (wC ad cI cX) σ') args s 0 0 A) 5 D A (wC ad cI cX) σ 74 [(0, .ref (ad 2)), (3, .int v3)] [] := by
  unfold mX4_openAt_L74 at h
  refine x_iload_n (pc := 74) X dX4_openAt_74 rfl 1 rfl ?_
  refine x_if_ne (pc := 75) X 83 dX4_openAt_75 (by decide) (fun hc => ?_) (fun hc => ?_)
  · have h := xif hc h
    refine x_sub [] rfl ?_
    exact wX4_openAt_L83 X hr hl F _ h
  · have h := xit hc h
    refine x_aload_n (pc := 78) X dX4_openAt_78 rfl 0 rfl ?_
    refine x_iconst (pc := 79) (v := (-1)) X dX4_openAt_79 (by decide) ?_
    refine uX4_21 (pc := 80) X dX4_openAt_80 ?_
    refine x_sub [] rfl ?_
    exact wX4_openAt_L83 X hr hl F _ h
set_option maxRecDepth 100000 in
set_option maxHeartbeats 4000000 in
theorem wX4_openAt_S46 {p : Program} {l : Launch} {e : Env} {s : State} {m : MethodId} {args : Array Value} {below : List Frame} {meth : Method} {c : Code} {D : va_G} {A : Nat → Prop} {ad : Nat → Nat} {cI cX : ClassId} {σ' : xSt} {c46 : Int32 → Int32 → Int32 → Int32 → xSt → Option (xSt)} (X : xX p s m args c cX4_openAt 5 RX4 D (tyC cI cX) A (wC ad cI cX)) (hr : meth.sig.returnType = none) (hl : meth.locks = false) (F : Nat) (hc46 : ∀ (v1 : Int32) (v2 : Int32) (v3 : Int32) (v4 : Int32) (σ : xSt), c46 v1 v2 v3 v4 σ = some σ' → xG p l e ({ frames := 3, cells := 0, slots := 0, locals := 76 }) s m args below meth c (MQ below (xQv D A (wC ad cI cX) σ') args s 0 0 A) 5 D A (wC ad cI cX) σ 46 [(0, .ref (ad 2)), (1, .int v1), (2, .int v2), (3, .int v3), (4, .int v4)] []) (v1 : Int32) (v2 : Int32) (v3 : Int32) (v4 : Int32) (σ : xSt) (h : mX4_openAt_S46 F c46 v1 v2 v3 v4 σ = some σ') : xG p l e ({ frames := 3, cells := 0, slots := 0, locals := 76 }) s m args below meth c (MQ below (xQv D A (wC ad cI cX) σ') args s 0 0 A) 5 D A (wC ad cI cX) σ 46 [(0, .ref (ad 2)), (1, .int v1), (2, .int v2), (3, .int v3), (4, .int v4)] [] := by
  unfold mX4_openAt_S46 at h
  refine x_iload (pc := 46) X dX4_openAt_46 4 rfl ?_
  refine x_iload_n (pc := 48) X dX4_openAt_48 rfl 2 rfl ?_
  refine x_icmp_ge (pc := 49) X 74 dX4_openAt_49 (by decide) (fun hc => ?_) (fun hc => ?_)
  · have h := xit hc h
    refine x_sub [0, 3] rfl ?_
    exact wX4_openAt_L74 X hr hl F _ _ h
  · have h := xif hc h
    refine x_aload_n (pc := 52) X dX4_openAt_52 rfl 0 rfl ?_
    refine gX4_37 (pc := 53) X dX4_openAt_53 ?_
    refine gX4_97 (pc := 56) X dX4_openAt_56 ?_
    obtain ⟨σ59, hq59, h⟩ := xb1_some h
    refine x_callvV (pc := 59) (As := []) (rest := []) X (kX7_drop l X.2.2.2.2.2.2.2 F 1 (by decide) _ _ hq59) kvX4_86 rfl (qX7 1 (by decide)) ⟨rfl, rfl, Nat.le_of_ble_eq_true rfl, Nat.le_of_ble_eq_true rfl⟩ rfl rfl (Nat.le_of_ble_eq_true rfl) dX4_openAt_59 ?_
    refine x_aload_n (pc := 62) X dX4_openAt_62 rfl 0 rfl ?_
    refine x_iload_n (pc := 63) X dX4_openAt_63 rfl 1 rfl ?_
    refine x_iconst (pc := 64) (v := 3) X dX4_openAt_64 (by decide) ?_
    obtain ⟨σ65, hq65, h⟩ := xb1_some h
    refine x_callvV (pc := 65) (As := [.int v1, .int 3]) (rest := []) X (kX4_take l X.2.2.2.2.2.2.2 F _ _ _ _ hq65) kvX4_72 rfl (qX4) ⟨rfl, rfl, Nat.le_of_ble_eq_true rfl, Nat.le_of_ble_eq_true rfl⟩ rfl rfl (Nat.le_of_ble_eq_true rfl) dX4_openAt_65 ?_
    refine x_iinc (pc := 68) (v := (v4 + 1)) (lv' := [(4, .int (v4 + 1)), (0, .ref (ad 2)), (1, .int v1), (2, .int v2), (3, .int v3)]) X dX4_openAt_68 4 rfl rfl (by decide) rfl ?_
    refine x_goto (pc := 71) X 46 dX4_openAt_71 (by decide) ?_
    refine x_sub [1, 2, 3, 4, 0] rfl ?_
    exact hc46 _ _ _ _ _ h
theorem wX4_openAt_L46 {p : Program} {l : Launch} {e : Env} {s : State} {m : MethodId} {args : Array Value} {below : List Frame} {meth : Method} {c : Code} {D : va_G} {A : Nat → Prop} {ad : Nat → Nat} {cI cX : ClassId} {σ' : xSt} (X : xX p s m args c cX4_openAt 5 RX4 D (tyC cI cX) A (wC ad cI cX)) (hr : meth.sig.returnType = none) (hl : meth.locks = false) (F : Nat) : ∀ (n : Nat) (v1 : Int32) (v2 : Int32) (v3 : Int32) (v4 : Int32) (σ : xSt), mX4_openAt_L46 F n v1 v2 v3 v4 σ = some σ' → xG p l e ({ frames := 3, cells := 0, slots := 0, locals := 76 }) s m args below meth c (MQ below (xQv D A (wC ad cI cX) σ') args s 0 0 A) 5 D A (wC ad cI cX) σ 46 [(0, .ref (ad 2)), (1, .int v1), (2, .int v2), (3, .int v3), (4, .int v4)] [] := by
  intro n
  induction n with
  | zero => intro v1 v2 v3 v4 σ h; cases h
  | succ n ih => intro v1 v2 v3 v4 σ h; exact wX4_openAt_S46 X hr hl F ih v1 v2 v3 v4 σ h
set_option maxRecDepth 100000 in
set_option maxHeartbeats 4000000 in
theorem wX4_openAt_L37 {p : Program} {l : Launch} {e : Env} {s : State} {m : MethodId} {args : Array Value} {below : List Frame} {meth : Method} {c : Code} {D : va_G} {A : Nat → Prop} {ad : Nat → Nat} {cI cX : ClassId} {σ' : xSt} (X : xX p s m args c cX4_openAt 5 RX4 D (tyC cI cX) A (wC ad cI cX)) (hr : meth.sig.returnType = none) (hl : meth.locks = false) (F : Nat) (v1 : Int32) (v2 : Int32) (σ : xSt) (h : mX4_openAt_L37 F v1 v2 σ = some σ') : xG p l e ({ frames := 3, cells := 0, slots := 0, locals := 76 }) s m args below meth c (MQ below (xQv D A (wC ad cI cX) σ') args s 0 0 A) 5 D A (wC ad cI cX) σ 37 [(0, .ref (ad 2)), (1, .int v1), (2, .int v2)] [] := by
  unfold mX4_openAt_L37 at h
  refine x_aload_n (pc := 37) X dX4_openAt_37 rfl 0 rfl ?_
  refine x_iload_n (pc := 38) X dX4_openAt_38 rfl 1 rfl ?_
  obtain ⟨r39, σ39, hq39, h⟩ := xb2_some h
  refine x_calliV (pc := 39) (As := [.int v1]) (rest := []) X (kX4_comesOut l X.2.2.2.2.2.2.2 F _ _ _ _ hq39) kvX4_56 rfl (qX4) ⟨rfl, rfl, Nat.le_of_ble_eq_true rfl, Nat.le_of_ble_eq_true rfl⟩ rfl rfl (Nat.le_of_ble_eq_true rfl) dX4_openAt_39 ?_
  refine x_istore_n (pc := 42) (lv' := [(3, .int r39), (0, .ref (ad 2)), (1, .int v1), (2, .int v2)]) X dX4_openAt_42 rfl (by decide) rfl ?_
  refine x_iconst (pc := 43) (v := 0) X dX4_openAt_43 (by decide) ?_
  refine x_istore (pc := 44) (lv' := [(4, .int 0), (3, .int r39), (0, .ref (ad 2)), (1, .int v1), (2, .int v2)]) X dX4_openAt_44 (by decide) rfl ?_
  refine x_sub [2, 3, 4, 1, 0] rfl ?_
  exact wX4_openAt_L46 X hr hl F F _ _ _ _ _ h
set_option maxRecDepth 100000 in
set_option maxHeartbeats 4000000 in
theorem wX4_openAt_S2 {p : Program} {l : Launch} {e : Env} {s : State} {m : MethodId} {args : Array Value} {below : List Frame} {meth : Method} {c : Code} {D : va_G} {A : Nat → Prop} {ad : Nat → Nat} {cI cX : ClassId} {σ' : xSt} {c2 : Int32 → Int32 → xSt → Option (xSt)} (X : xX p s m args c cX4_openAt 5 RX4 D (tyC cI cX) A (wC ad cI cX)) (hr : meth.sig.returnType = none) (hl : meth.locks = false) (F : Nat) (hc2 : ∀ (v1 : Int32) (v2 : Int32) (σ : xSt), c2 v1 v2 σ = some σ' → xG p l e ({ frames := 3, cells := 0, slots := 0, locals := 76 }) s m args below meth c (MQ below (xQv D A (wC ad cI cX) σ') args s 0 0 A) 5 D A (wC ad cI cX) σ 2 [(0, .ref (ad 2)), (1, .int v1), (2, .int v2)] []) (v1 : Int32) (v2 : Int32) (σ : xSt) (h : mX4_openAt_S2 F c2 v1 v2 σ = some σ') : xG p l e ({ frames := 3, cells := 0, slots := 0, locals := 76 }) s m args below meth c (MQ below (xQv D A (wC ad cI cX) σ') args s 0 0 A) 5 D A (wC ad cI cX) σ 2 [(0, .ref (ad 2)), (1, .int v1), (2, .int v2)] [] := by
  unfold mX4_openAt_S2 at h
  refine x_iload_n (pc := 2) X dX4_openAt_2 rfl 2 rfl ?_
  refine x_iconst (pc := 3) (v := 3) X dX4_openAt_3 (by decide) ?_
  refine x_icmp_ge (pc := 4) X 37 dX4_openAt_4 (by decide) (fun hc => ?_) (fun hc => ?_)
  · have h := xit hc h
    refine x_sub [0, 1, 2] rfl ?_
    exact wX4_openAt_L37 X hr hl F _ _ _ h
  · have h := xif hc h
    refine x_aload_n (pc := 7) X dX4_openAt_7 rfl 0 rfl ?_
    refine x_iload_n (pc := 8) X dX4_openAt_8 rfl 1 rfl ?_
    obtain ⟨r9, σ9, hq9, h⟩ := xb2_some h
    refine x_calliV (pc := 9) (As := [.int v1]) (rest := []) X (kX4_comesOut l X.2.2.2.2.2.2.2 F _ _ _ _ hq9) kvX4_56 rfl (qX4) ⟨rfl, rfl, Nat.le_of_ble_eq_true rfl, Nat.le_of_ble_eq_true rfl⟩ rfl rfl (Nat.le_of_ble_eq_true rfl) dX4_openAt_9 ?_
    refine x_if_ne (pc := 12) X 37 dX4_openAt_12 (by decide) (fun hc => ?_) (fun hc => ?_)
    · have h := xif hc h
      refine x_sub [0, 1, 2] rfl ?_
      exact wX4_openAt_L37 X hr hl F _ _ _ h
    · have h := xit hc h
      refine x_aload_n (pc := 15) X dX4_openAt_15 rfl 0 rfl ?_
      refine gX4_37 (pc := 16) X dX4_openAt_16 ?_
      refine gX4_97 (pc := 19) X dX4_openAt_19 ?_
      refine x_aload_n (pc := 22) X dX4_openAt_22 rfl 0 rfl ?_
      refine gX4_25 (pc := 23) X dX4_openAt_23 ?_
      refine x_iload_n (pc := 26) X dX4_openAt_26 rfl 1 rfl ?_
      refine x_iconst (pc := 27) (v := 0) X dX4_openAt_27 (by decide) ?_
      obtain ⟨σ28, hq28, h⟩ := xb1_some h
      refine x_callvV (pc := 28) (As := [.int (xI σ9 4), .int v1, .int 0]) (rest := []) X (kX7_add l X.2.2.2.2.2.2.2 F 1 (by decide) _ _ _ _ _ hq28) kvX4_80 rfl (qX7 1 (by decide)) ⟨rfl, rfl, Nat.le_of_ble_eq_true rfl, Nat.le_of_ble_eq_true rfl⟩ rfl rfl (Nat.le_of_ble_eq_true rfl) dX4_openAt_28 ?_
      refine x_iinc (pc := 31) (v := (v2 + 1)) (lv' := [(2, .int (v2 + 1)), (0, .ref (ad 2)), (1, .int v1)]) X dX4_openAt_31 2 rfl rfl (by decide) rfl ?_
      refine x_goto (pc := 34) X 2 dX4_openAt_34 (by decide) ?_
      refine x_sub [1, 2, 0] rfl ?_
      exact hc2 _ _ _ h
theorem wX4_openAt_L2 {p : Program} {l : Launch} {e : Env} {s : State} {m : MethodId} {args : Array Value} {below : List Frame} {meth : Method} {c : Code} {D : va_G} {A : Nat → Prop} {ad : Nat → Nat} {cI cX : ClassId} {σ' : xSt} (X : xX p s m args c cX4_openAt 5 RX4 D (tyC cI cX) A (wC ad cI cX)) (hr : meth.sig.returnType = none) (hl : meth.locks = false) (F : Nat) : ∀ (n : Nat) (v1 : Int32) (v2 : Int32) (σ : xSt), mX4_openAt_L2 F n v1 v2 σ = some σ' → xG p l e ({ frames := 3, cells := 0, slots := 0, locals := 76 }) s m args below meth c (MQ below (xQv D A (wC ad cI cX) σ') args s 0 0 A) 5 D A (wC ad cI cX) σ 2 [(0, .ref (ad 2)), (1, .int v1), (2, .int v2)] [] := by
  intro n
  induction n with
  | zero => intro v1 v2 σ h; cases h
  | succ n ih => intro v1 v2 σ h; exact wX4_openAt_S2 X hr hl F ih v1 v2 σ h
set_option maxRecDepth 100000 in
set_option maxHeartbeats 4000000 in
theorem kX4_openAt (l : Launch) {D : va_G} {A : Nat → Prop} {ad : Nat → Nat} {cI cX : ClassId} (hD : ∀ σ, va_D A ((wC ad cI cX) σ)) (F : Nat) (v1 : Int32) (σ : xSt) (σ' : xSt) (h : mX4_openAt F v1 σ = some σ') : xM l yX4_openAt cX4_openAt 5 none ({ frames := 3, cells := 0, slots := 0, locals := 76 }) D (tyC cI cX) A (wC ad cI cX) [.ref (ad 2), .int v1] σ (xQv D A (wC ad cI cX) σ') := by
  refine xM_of (lv := [(0, .ref (ad 2)), (1, .int v1)]) [.ref (ad 2), .int v1] (by decide) hD rfl (Nat.le_of_ble_eq_true rfl) ?_
  intro p e s m args below meth c X hr hl
  unfold mX4_openAt at h
  refine x_iconst (pc := 0) (v := 0) X dX4_openAt_0 (by decide) ?_
  refine x_istore_n (pc := 1) (lv' := [(2, .int 0), (0, .ref (ad 2)), (1, .int v1)]) X dX4_openAt_1 rfl (by decide) rfl ?_
  refine x_sub [1, 2, 0] rfl ?_
  exact wX4_openAt_L2 X hr hl F F _ _ _ h
set_option maxRecDepth 100000 in
set_option maxHeartbeats 4000000 in
theorem wX4_open_L43 {p : Program} {l : Launch} {e : Env} {s : State} {m : MethodId} {args : Array Value} {below : List Frame} {meth : Method} {c : Code} {D : va_G} {A : Nat → Prop} {ad : Nat → Nat} {cI cX : ClassId} {σ' : xSt} (X : xX p s m args c cX4_open 3 RX4 D (tyC cI cX) A (wC ad cI cX)) (hr : meth.sig.returnType = none) (hl : meth.locks = false) (F : Nat) (σ : xSt) (h : mX4_open_L43 F σ = some σ') : xG p l e ({ frames := 4, cells := 0, slots := 0, locals := 100 }) s m args below meth c (MQ below (xQv D A (wC ad cI cX) σ') args s 0 0 A) 3 D A (wC ad cI cX) σ 43 [] [] := by
  unfold mX4_open_L43 at h
  exact x_vret (pc := 43) X hr hl h dX4_open_43
set_option maxRecDepth 100000 in
set_option maxHeartbeats 4000000 in
theorem wX4_open_L37 {p : Program} {l : Launch} {e : Env} {s : State} {m : MethodId} {args : Array Value} {below : List Frame} {meth : Method} {c : Code} {D : va_G} {A : Nat → Prop} {ad : Nat → Nat} {cI cX : ClassId} {σ' : xSt} {c2 : Int32 → Int32 → xSt → Option (xSt)} (X : xX p s m args c cX4_open 3 RX4 D (tyC cI cX) A (wC ad cI cX)) (hr : meth.sig.returnType = none) (hl : meth.locks = false) (F : Nat) (hc2 : ∀ (v1 : Int32) (v2 : Int32) (σ : xSt), c2 v1 v2 σ = some σ' → xG p l e ({ frames := 4, cells := 0, slots := 0, locals := 100 }) s m args below meth c (MQ below (xQv D A (wC ad cI cX) σ') args s 0 0 A) 3 D A (wC ad cI cX) σ 2 [(0, .ref (ad 2)), (1, .int v1), (2, .int v2)] []) (v1 : Int32) (v2 : Int32) (σ : xSt) (h : mX4_open_L37 F c2 v1 v2 σ = some σ') : xG p l e ({ frames := 4, cells := 0, slots := 0, locals := 100 }) s m args below meth c (MQ below (xQv D A (wC ad cI cX) σ') args s 0 0 A) 3 D A (wC ad cI cX) σ 37 [(0, .ref (ad 2)), (1, .int v1), (2, .int v2)] [] := by
  unfold mX4_open_L37 at h
  refine x_iinc (pc := 37) (v := (v2 + 1)) (lv' := [(2, .int (v2 + 1)), (0, .ref (ad 2)), (1, .int v1)]) X dX4_open_37 2 rfl rfl (by decide) rfl ?_
  refine x_goto (pc := 40) X 2 dX4_open_40 (by decide) ?_
  refine x_sub [1, 2, 0] rfl ?_
  exact hc2 _ _ _ h
set_option maxRecDepth 100000 in
set_option maxHeartbeats 4000000 in
theorem wX4_open_S2 {p : Program} {l : Launch} {e : Env} {s : State} {m : MethodId} {args : Array Value} {below : List Frame} {meth : Method} {c : Code} {D : va_G} {A : Nat → Prop} {ad : Nat → Nat} {cI cX : ClassId} {σ' : xSt} {c2 : Int32 → Int32 → xSt → Option (xSt)} (X : xX p s m args c cX4_open 3 RX4 D (tyC cI cX) A (wC ad cI cX)) (hr : meth.sig.returnType = none) (hl : meth.locks = false) (F : Nat) (hc2 : ∀ (v1 : Int32) (v2 : Int32) (σ : xSt), c2 v1 v2 σ = some σ' → xG p l e ({ frames := 4, cells := 0, slots := 0, locals := 100 }) s m args below meth c (MQ below (xQv D A (wC ad cI cX) σ') args s 0 0 A) 3 D A (wC ad cI cX) σ 2 [(0, .ref (ad 2)), (1, .int v1), (2, .int v2)] []) (v1 : Int32) (v2 : Int32) (σ : xSt) (h : mX4_open_S2 F c2 v1 v2 σ = some σ') : xG p l e ({ frames := 4, cells := 0, slots := 0, locals := 100 }) s m args below meth c (MQ below (xQv D A (wC ad cI cX) σ') args s 0 0 A) 3 D A (wC ad cI cX) σ 2 [(0, .ref (ad 2)), (1, .int v1), (2, .int v2)] [] := by
  unfold mX4_open_S2 at h
  refine x_iload_n (pc := 2) X dX4_open_2 rfl 2 rfl ?_
  refine x_aload_n (pc := 3) X dX4_open_3 rfl 0 rfl ?_
  refine gX4_37 (pc := 4) X dX4_open_4 ?_
  refine gX4_41 (pc := 7) X dX4_open_7 ?_
  refine gX4_47 (pc := 10) X 0 (by decide) dX4_open_10 ?_
  refine x_icmp_ge (pc := 13) X 43 dX4_open_13 (by decide) (fun hc => ?_) (fun hc => ?_)
  · have h := xit hc h
    refine x_sub [] rfl ?_
    exact wX4_open_L43 X hr hl F _ h
  · have h := xif hc h
    refine x_aload_n (pc := 16) X dX4_open_16 rfl 0 rfl ?_
    refine gX4_21 (pc := 17) X dX4_open_17 ?_
    refine x_iconst (pc := 20) (v := (-1)) X dX4_open_20 (by decide) ?_
    refine x_icmp_eq (pc := 21) X 43 dX4_open_21 (by decide) (fun hc => ?_) (fun hc => ?_)
    · have h := xit hc h
      refine x_sub [] rfl ?_
      exact wX4_open_L43 X hr hl F _ h
    · have h := xif hc h
      refine x_iload_n (pc := 24) X dX4_open_24 rfl 1 rfl ?_
      refine x_iload_n (pc := 25) X dX4_open_25 rfl 2 rfl ?_
      obtain ⟨r26, σ26, hq26, h⟩ := xb2_some h
      refine x_calliN (pc := 26) (As := [.int v1, .int v2]) (rest := []) X (kX8_holds l X.2.2.2.2.2.2.2 F _ _ _ _ _ hq26) kvX4_52 ⟨rfl, rfl, Nat.le_of_ble_eq_true rfl, Nat.le_of_ble_eq_true rfl⟩ rfl rfl (Nat.le_of_ble_eq_true rfl) dX4_open_26 ?_
      refine x_if_eq (pc := 29) X 37 dX4_open_29 (by decide) (fun hc => ?_) (fun hc => ?_)
      · have h := xit hc h
        refine x_sub [0, 1, 2] rfl ?_
        exact wX4_open_L37 X hr hl F hc2 _ _ _ h
      · have h := xif hc h
        refine x_aload_n (pc := 32) X dX4_open_32 rfl 0 rfl ?_
        refine x_iload_n (pc := 33) X dX4_open_33 rfl 2 rfl ?_
        obtain ⟨σ34, hq34, h⟩ := xb1_some h
        refine x_callvV (pc := 34) (As := [.int v2]) (rest := []) X (kX4_openAt l X.2.2.2.2.2.2.2 F _ _ _ hq34) kvX4_93 rfl (qX4) ⟨rfl, rfl, Nat.le_of_ble_eq_true rfl, Nat.le_of_ble_eq_true rfl⟩ rfl rfl (Nat.le_of_ble_eq_true rfl) dX4_open_34 ?_
        refine x_sub [0, 1, 2] rfl ?_
        exact wX4_open_L37 X hr hl F hc2 _ _ _ h
theorem wX4_open_L2 {p : Program} {l : Launch} {e : Env} {s : State} {m : MethodId} {args : Array Value} {below : List Frame} {meth : Method} {c : Code} {D : va_G} {A : Nat → Prop} {ad : Nat → Nat} {cI cX : ClassId} {σ' : xSt} (X : xX p s m args c cX4_open 3 RX4 D (tyC cI cX) A (wC ad cI cX)) (hr : meth.sig.returnType = none) (hl : meth.locks = false) (F : Nat) : ∀ (n : Nat) (v1 : Int32) (v2 : Int32) (σ : xSt), mX4_open_L2 F n v1 v2 σ = some σ' → xG p l e ({ frames := 4, cells := 0, slots := 0, locals := 100 }) s m args below meth c (MQ below (xQv D A (wC ad cI cX) σ') args s 0 0 A) 3 D A (wC ad cI cX) σ 2 [(0, .ref (ad 2)), (1, .int v1), (2, .int v2)] [] := by
  intro n
  induction n with
  | zero => intro v1 v2 σ h; cases h
  | succ n ih => intro v1 v2 σ h; exact wX4_open_S2 X hr hl F ih v1 v2 σ h
set_option maxRecDepth 100000 in
set_option maxHeartbeats 4000000 in
theorem kX4_open (l : Launch) {D : va_G} {A : Nat → Prop} {ad : Nat → Nat} {cI cX : ClassId} (hD : ∀ σ, va_D A ((wC ad cI cX) σ)) (F : Nat) (v1 : Int32) (σ : xSt) (σ' : xSt) (h : mX4_open F v1 σ = some σ') : xM l yX4_open cX4_open 3 none ({ frames := 4, cells := 0, slots := 0, locals := 100 }) D (tyC cI cX) A (wC ad cI cX) [.ref (ad 2), .int v1] σ (xQv D A (wC ad cI cX) σ') := by
  refine xM_of (lv := [(0, .ref (ad 2)), (1, .int v1)]) [.ref (ad 2), .int v1] (by decide) hD rfl (Nat.le_of_ble_eq_true rfl) ?_
  intro p e s m args below meth c X hr hl
  unfold mX4_open at h
  refine x_iconst (pc := 0) (v := 0) X dX4_open_0 (by decide) ?_
  refine x_istore_n (pc := 1) (lv' := [(2, .int 0), (0, .ref (ad 2)), (1, .int v1)]) X dX4_open_1 rfl (by decide) rfl ?_
  refine x_sub [1, 2, 0] rfl ?_
  exact wX4_open_L2 X hr hl F F _ _ _ h
set_option maxRecDepth 100000 in
set_option maxHeartbeats 4000000 in
theorem wX5_isLost_L13 {p : Program} {l : Launch} {e : Env} {s : State} {m : MethodId} {args : Array Value} {below : List Frame} {meth : Method} {c : Code} {D : va_G} {A : Nat → Prop} {ad : Nat → Nat} {cI cX : ClassId} {r : Int32} {σ' : xSt} (X : xX p s m args c cX5_isLost 1 RX5 D (tyC cI cX) A (wC ad cI cX)) (hr : meth.sig.returnType = (some .boolean)) (hl : meth.locks = false) (F : Nat) (k : Nat) (hk : k < 4) (t0 : Int32) (σ : xSt) (h : mX5_isLost_L13 F k t0 σ = some (r, σ')) : xG p l e ({ frames := 0, cells := 0, slots := 0, locals := 0 }) s m args below meth c (MQ below (xQi D A (wC ad cI cX) r σ') args s 0 0 A) 1 D A (wC ad cI cX) σ 13 [] [.int t0] := by
  unfold mX5_isLost_L13 at h
  obtain ⟨hb13, h⟩ := xck_some h
  exact x_zret (pc := 13) X hr hl hb13 h dX5_isLost_13
set_option maxRecDepth 100000 in
set_option maxHeartbeats 4000000 in
theorem kX5_isLost (l : Launch) {D : va_G} {A : Nat → Prop} {ad : Nat → Nat} {cI cX : ClassId} (hD : ∀ σ, va_D A ((wC ad cI cX) σ)) (F : Nat) (k : Nat) (hk : k < 4) (σ : xSt) (r : Int32) (σ' : xSt) (h : mX5_isLost F k σ = some (r, σ')) : xM l yX5_isLost cX5_isLost 1 (some .boolean) ({ frames := 0, cells := 0, slots := 0, locals := 0 }) D (tyC cI cX) A (wC ad cI cX) [.ref (ad (37 + k))] σ (xQi D A (wC ad cI cX) r σ') := by
  refine xM_of (lv := [(0, .ref (ad (37 + k)))]) [.ref (ad (37 + k))] (by decide) hD rfl (Nat.le_of_ble_eq_true rfl) ?_
  intro p e s m args below meth c X hr hl
  unfold mX5_isLost at h
  refine x_aload_n (pc := 0) X dX5_isLost_0 rfl 0 rfl ?_
  refine gX5_19 (pc := 1) X k hk dX5_isLost_1 ?_
  refine x_iconst (pc := 4) (v := (-1)) X dX5_isLost_4 (by decide) ?_
  refine x_icmp_ne (pc := 5) X 12 dX5_isLost_5 (by decide) (fun hc => ?_) (fun hc => ?_)
  · have h := xif hc h
    refine x_iconst (pc := 12) (v := 0) X dX5_isLost_12 (by decide) ?_
    refine x_sub [] rfl ?_
    exact wX5_isLost_L13 X hr hl F k hk _ _ h
  · have h := xit hc h
    refine x_iconst (pc := 8) (v := 1) X dX5_isLost_8 (by decide) ?_
    refine x_goto (pc := 9) X 13 dX5_isLost_9 (by decide) ?_
    refine x_sub [] rfl ?_
    exact wX5_isLost_L13 X hr hl F k hk _ _ h
set_option maxRecDepth 100000 in
set_option maxHeartbeats 4000000 in
theorem kX5_beLost (l : Launch) {D : va_G} {A : Nat → Prop} {ad : Nat → Nat} {cI cX : ClassId} (hD : ∀ σ, va_D A ((wC ad cI cX) σ)) (F : Nat) (k : Nat) (hk : k < 4) (σ : xSt) (σ' : xSt) (h : mX5_beLost F k σ = some σ') : xM l yX5_beLost cX5_beLost 1 none ({ frames := 0, cells := 0, slots := 0, locals := 0 }) D (tyC cI cX) A (wC ad cI cX) [.ref (ad (37 + k))] σ (xQv D A (wC ad cI cX) σ') := by
  refine xM_of (lv := [(0, .ref (ad (37 + k)))]) [.ref (ad (37 + k))] (by decide) hD rfl (Nat.le_of_ble_eq_true rfl) ?_
  intro p e s m args below meth c X hr hl
  unfold mX5_beLost at h
  refine x_aload_n (pc := 0) X dX5_beLost_0 rfl 0 rfl ?_
  refine x_iconst (pc := 1) (v := (-1)) X dX5_beLost_1 (by decide) ?_
  refine uX5_19 (pc := 2) X k hk dX5_beLost_2 ?_
  exact x_vret (pc := 5) X hr hl h dX5_beLost_5
set_option maxRecDepth 100000 in
set_option maxHeartbeats 4000000 in
theorem wJ7_fill_53178_L20 {p : Program} {l : Launch} {e : Env} {s : State} {m : MethodId} {args : Array Value} {below : List Frame} {meth : Method} {c : Code} {D : va_G} {A : Nat → Prop} {ad : Nat → Nat} {cI cX : ClassId} {σ' : xSt} (X : xX p s m args c cJ7_fill_53178 4 RJ7 D (tyC cI cX) A (wC ad cI cX)) (hr : meth.sig.returnType = none) (hl : meth.locks = false) (F : Nat) (k : Nat) (hk : k < 4) (σ : xSt) (h : mJ7_fill_53178_L20 F k σ = some σ') : xG p l e ({ frames := 0, cells := 0, slots := 0, locals := 0 }) s m args below meth c (MQ below (xQv D A (wC ad cI cX) σ') args s 0 0 A) 4 D A (wC ad cI cX) σ 20 [] [] := by
  unfold mJ7_fill_53178_L20 at h
  exact x_vret (pc := 20) X hr hl h dJ7_fill_53178_20
set_option maxRecDepth 100000 in
set_option maxHeartbeats 4000000 in
theorem wJ7_fill_53178_S5 {p : Program} {l : Launch} {e : Env} {s : State} {m : MethodId} {args : Array Value} {below : List Frame} {meth : Method} {c : Code} {D : va_G} {A : Nat → Prop} {ad : Nat → Nat} {cI cX : ClassId} {σ' : xSt} {c5 : Int32 → Int32 → Int32 → xSt → Option (xSt)} (X : xX p s m args c cJ7_fill_53178 4 RJ7 D (tyC cI cX) A (wC ad cI cX)) (hr : meth.sig.returnType = none) (hl : meth.locks = false) (F : Nat) (k : Nat) (hk : k < 4) (hc5 : ∀ (v1 : Int32) (v2 : Int32) (v3 : Int32) (σ : xSt), c5 v1 v2 v3 σ = some σ' → xG p l e ({ frames := 0, cells := 0, slots := 0, locals := 0 }) s m args below meth c (MQ below (xQv D A (wC ad cI cX) σ') args s 0 0 A) 4 D A (wC ad cI cX) σ 5 [(0, .ref (ad (41 + k))), (1, .int v1), (2, .int v2), (3, .int v3)] []) (v1 : Int32) (v2 : Int32) (v3 : Int32) (σ : xSt) (h : mJ7_fill_53178_S5 F k c5 v1 v2 v3 σ = some σ') : xG p l e ({ frames := 0, cells := 0, slots := 0, locals := 0 }) s m args below meth c (MQ below (xQv D A (wC ad cI cX) σ') args s 0 0 A) 4 D A (wC ad cI cX) σ 5 [(0, .ref (ad (41 + k))), (1, .int v1), (2, .int v2), (3, .int v3)] [] := by
  unfold mJ7_fill_53178_S5 at h
  refine x_iload_n (pc := 5) X dJ7_fill_53178_5 rfl 2 rfl ?_
  refine x_iload_n (pc := 6) X dJ7_fill_53178_6 rfl 3 rfl ?_
  refine x_icmp_ge (pc := 7) X 20 dJ7_fill_53178_7 (by decide) (fun hc => ?_) (fun hc => ?_)
  · have h := xit hc h
    refine x_sub [] rfl ?_
    exact wJ7_fill_53178_L20 X hr hl F k hk _ h
  · have h := xif hc h
    refine x_aload_n (pc := 10) X dJ7_fill_53178_10 rfl 0 rfl ?_
    refine x_iload_n (pc := 11) X dJ7_fill_53178_11 rfl 2 rfl ?_
    refine x_iload_n (pc := 12) X dJ7_fill_53178_12 rfl 1 rfl ?_
    obtain ⟨hb13, h⟩ := xck_some h
    refine x_iast (pc := 13) (σ' := (xsA σ (30 + k) (Int32.toNatClampNeg v2) v1)) X (41 + k) 0 (qaX5_items k hk) rfl (saX5_items _ k hk) hb13 dJ7_fill_53178_13 ?_
    refine x_iinc (pc := 14) (v := (v2 + 1)) (lv' := [(2, .int (v2 + 1)), (0, .ref (ad (41 + k))), (1, .int v1), (3, .int v3)]) X dJ7_fill_53178_14 2 rfl rfl (by decide) rfl ?_
    refine x_goto (pc := 17) X 5 dJ7_fill_53178_17 (by decide) ?_
    refine x_sub [1, 2, 0, 3] rfl ?_
    exact hc5 _ _ _ _ h
theorem wJ7_fill_53178_L5 {p : Program} {l : Launch} {e : Env} {s : State} {m : MethodId} {args : Array Value} {below : List Frame} {meth : Method} {c : Code} {D : va_G} {A : Nat → Prop} {ad : Nat → Nat} {cI cX : ClassId} {σ' : xSt} (X : xX p s m args c cJ7_fill_53178 4 RJ7 D (tyC cI cX) A (wC ad cI cX)) (hr : meth.sig.returnType = none) (hl : meth.locks = false) (F : Nat) (k : Nat) (hk : k < 4) : ∀ (n : Nat) (v1 : Int32) (v2 : Int32) (v3 : Int32) (σ : xSt), mJ7_fill_53178_L5 F k n v1 v2 v3 σ = some σ' → xG p l e ({ frames := 0, cells := 0, slots := 0, locals := 0 }) s m args below meth c (MQ below (xQv D A (wC ad cI cX) σ') args s 0 0 A) 4 D A (wC ad cI cX) σ 5 [(0, .ref (ad (41 + k))), (1, .int v1), (2, .int v2), (3, .int v3)] [] := by
  intro n
  induction n with
  | zero => intro v1 v2 v3 σ h; cases h
  | succ n ih => intro v1 v2 v3 σ h; exact wJ7_fill_53178_S5 X hr hl F k hk ih v1 v2 v3 σ h
set_option maxRecDepth 100000 in
set_option maxHeartbeats 4000000 in
theorem kJ7_fill_53178 (l : Launch) {D : va_G} {A : Nat → Prop} {ad : Nat → Nat} {cI cX : ClassId} (hD : ∀ σ, va_D A ((wC ad cI cX) σ)) (F : Nat) (k : Nat) (hk : k < 4) (v1 : Int32) (σ : xSt) (σ' : xSt) (h : mJ7_fill_53178 F k v1 σ = some σ') : xM l yJ7_fill_53178 cJ7_fill_53178 4 none ({ frames := 0, cells := 0, slots := 0, locals := 0 }) D (tyC cI cX) A (wC ad cI cX) [.ref (ad (41 + k)), .int v1] σ (xQv D A (wC ad cI cX) σ') := by
  refine xM_of (lv := [(0, .ref (ad (41 + k))), (1, .int v1)]) [.ref (ad (41 + k)), .int v1] (by decide) hD rfl (Nat.le_of_ble_eq_true rfl) ?_
  intro p e s m args below meth c X hr hl
  unfold mJ7_fill_53178 at h
  refine x_iconst (pc := 0) (v := 0) X dJ7_fill_53178_0 (by decide) ?_
  refine x_istore_n (pc := 1) (lv' := [(2, .int 0), (0, .ref (ad (41 + k))), (1, .int v1)]) X dJ7_fill_53178_1 rfl (by decide) rfl ?_
  refine x_aload_n (pc := 2) X dJ7_fill_53178_2 rfl 1 rfl ?_
  refine x_alen (pc := 3) X (41 + k) 0 (qaX5_items k hk) rfl rfl dJ7_fill_53178_3 ?_
  refine x_istore_n (pc := 4) (lv' := [(3, .int (nI 60)), (2, .int 0), (0, .ref (ad (41 + k))), (1, .int v1)]) X dJ7_fill_53178_4 rfl (by decide) rfl ?_
  refine x_sub [2, 3, 1, 0] rfl ?_
  exact wJ7_fill_53178_L5 X hr hl F k hk F _ _ _ _ h
set_option maxRecDepth 100000 in
set_option maxHeartbeats 4000000 in
theorem kX5_renew (l : Launch) {D : va_G} {A : Nat → Prop} {ad : Nat → Nat} {cI cX : ClassId} (hD : ∀ σ, va_D A ((wC ad cI cX) σ)) (F : Nat) (k : Nat) (hk : k < 4) (v1 : Int32) (v2 : Int32) (σ : xSt) (σ' : xSt) (h : mX5_renew F k v1 v2 σ = some σ') : xM l yX5_renew cX5_renew 3 none ({ frames := 1, cells := 0, slots := 0, locals := 23 }) D (tyC cI cX) A (wC ad cI cX) [.ref (ad (37 + k)), .int v1, .int v2] σ (xQv D A (wC ad cI cX) σ') := by
  refine xM_of (lv := [(0, .ref (ad (37 + k))), (1, .int v1), (2, .int v2)]) [.ref (ad (37 + k)), .int v1, .int v2] (by decide) hD rfl (Nat.le_of_ble_eq_true rfl) ?_
  intro p e s m args below meth c X hr hl
  unfold mX5_renew at h
  refine x_aload_n (pc := 0) X dX5_renew_0 rfl 0 rfl ?_
  refine x_iload_n (pc := 1) X dX5_renew_1 rfl 1 rfl ?_
  refine uX5_15 (pc := 2) X k hk dX5_renew_2 ?_
  refine x_aload_n (pc := 5) X dX5_renew_5 rfl 0 rfl ?_
  refine x_iload_n (pc := 6) X dX5_renew_6 rfl 2 rfl ?_
  refine uX5_19 (pc := 7) X k hk dX5_renew_7 ?_
  refine x_aload_n (pc := 10) X dX5_renew_10 rfl 0 rfl ?_
  refine gX5_9 (pc := 11) X k hk dX5_renew_11 ?_
  refine x_iconst (pc := 14) (v := 0) X dX5_renew_14 (by decide) ?_
  obtain ⟨σ15, hq15, h⟩ := xb1_some h
  refine x_callvS (pc := 15) (As := [.ref (ad (41 + k)), .int 0]) (rest := []) X (kJ7_fill_53178 l X.2.2.2.2.2.2.2 F k hk _ _ _ hq15) kvX5_22 ⟨rfl, rfl, Nat.le_of_ble_eq_true rfl, Nat.le_of_ble_eq_true rfl⟩ rfl rfl (Nat.le_of_ble_eq_true rfl) dX5_renew_15 ?_
  exact x_vret (pc := 18) X hr hl h dX5_renew_18
set_option maxRecDepth 100000 in
set_option maxHeartbeats 4000000 in
theorem wX5_lacksItem_L26 {p : Program} {l : Launch} {e : Env} {s : State} {m : MethodId} {args : Array Value} {below : List Frame} {meth : Method} {c : Code} {D : va_G} {A : Nat → Prop} {ad : Nat → Nat} {cI cX : ClassId} {r : Int32} {σ' : xSt} (X : xX p s m args c cX5_lacksItem 2 RX5 D (tyC cI cX) A (wC ad cI cX)) (hr : meth.sig.returnType = (some .boolean)) (hl : meth.locks = false) (F : Nat) (k : Nat) (hk : k < 4) (t0 : Int32) (σ : xSt) (h : mX5_lacksItem_L26 F k t0 σ = some (r, σ')) : xG p l e ({ frames := 0, cells := 0, slots := 0, locals := 0 }) s m args below meth c (MQ below (xQi D A (wC ad cI cX) r σ') args s 0 0 A) 2 D A (wC ad cI cX) σ 26 [] [.int t0] := by
  unfold mX5_lacksItem_L26 at h
  obtain ⟨hb26, h⟩ := xck_some h
  exact x_zret (pc := 26) X hr hl hb26 h dX5_lacksItem_26
set_option maxRecDepth 100000 in
set_option maxHeartbeats 4000000 in
theorem wX5_lacksItem_L21 {p : Program} {l : Launch} {e : Env} {s : State} {m : MethodId} {args : Array Value} {below : List Frame} {meth : Method} {c : Code} {D : va_G} {A : Nat → Prop} {ad : Nat → Nat} {cI cX : ClassId} {r : Int32} {σ' : xSt} (X : xX p s m args c cX5_lacksItem 2 RX5 D (tyC cI cX) A (wC ad cI cX)) (hr : meth.sig.returnType = (some .boolean)) (hl : meth.locks = false) (F : Nat) (k : Nat) (hk : k < 4) (σ : xSt) (h : mX5_lacksItem_L21 F k σ = some (r, σ')) : xG p l e ({ frames := 0, cells := 0, slots := 0, locals := 0 }) s m args below meth c (MQ below (xQi D A (wC ad cI cX) r σ') args s 0 0 A) 2 D A (wC ad cI cX) σ 21 [] [] := by
  unfold mX5_lacksItem_L21 at h
  refine x_iconst (pc := 21) (v := 1) X dX5_lacksItem_21 (by decide) ?_
  refine x_goto (pc := 22) X 26 dX5_lacksItem_22 (by decide) ?_
  refine x_sub [] rfl ?_
  exact wX5_lacksItem_L26 X hr hl F k hk _ _ h
set_option maxRecDepth 100000 in
set_option maxHeartbeats 4000000 in
theorem kX5_lacksItem (l : Launch) {D : va_G} {A : Nat → Prop} {ad : Nat → Nat} {cI cX : ClassId} (hD : ∀ σ, va_D A ((wC ad cI cX) σ)) (F : Nat) (k : Nat) (hk : k < 4) (v1 : Int32) (σ : xSt) (r : Int32) (σ' : xSt) (h : mX5_lacksItem F k v1 σ = some (r, σ')) : xM l yX5_lacksItem cX5_lacksItem 2 (some .boolean) ({ frames := 0, cells := 0, slots := 0, locals := 0 }) D (tyC cI cX) A (wC ad cI cX) [.ref (ad (37 + k)), .int v1] σ (xQi D A (wC ad cI cX) r σ') := by
  refine xM_of (lv := [(0, .ref (ad (37 + k))), (1, .int v1)]) [.ref (ad (37 + k)), .int v1] (by decide) hD rfl (Nat.le_of_ble_eq_true rfl) ?_
  intro p e s m args below meth c X hr hl
  unfold mX5_lacksItem at h
  refine x_iload_n (pc := 0) X dX5_lacksItem_0 rfl 1 rfl ?_
  refine x_if_lt (pc := 1) X 21 dX5_lacksItem_1 (by decide) (fun hc => ?_) (fun hc => ?_)
  · have h := xit hc h
    refine x_sub [] rfl ?_
    exact wX5_lacksItem_L21 X hr hl F k hk _ h
  · have h := xif hc h
    refine x_iload_n (pc := 4) X dX5_lacksItem_4 rfl 1 rfl ?_
    refine x_aload_n (pc := 5) X dX5_lacksItem_5 rfl 0 rfl ?_
    refine gX5_19 (pc := 6) X k hk dX5_lacksItem_6 ?_
    refine x_icmp_ge (pc := 9) X 21 dX5_lacksItem_9 (by decide) (fun hc => ?_) (fun hc => ?_)
    · have h := xit hc h
      refine x_sub [] rfl ?_
      exact wX5_lacksItem_L21 X hr hl F k hk _ h
    · have h := xif hc h
      refine x_iload_n (pc := 12) X dX5_lacksItem_12 rfl 1 rfl ?_
      refine x_aload_n (pc := 13) X dX5_lacksItem_13 rfl 0 rfl ?_
      refine gX5_9 (pc := 14) X k hk dX5_lacksItem_14 ?_
      refine x_alen (pc := 17) X (41 + k) 0 (qaX5_items k hk) rfl rfl dX5_lacksItem_17 ?_
      refine x_icmp_lt (pc := 18) X 25 dX5_lacksItem_18 (by decide) (fun hc => ?_) (fun hc => ?_)
      · have h := xit hc h
        refine x_iconst (pc := 25) (v := 0) X dX5_lacksItem_25 (by decide) ?_
        refine x_sub [] rfl ?_
        exact wX5_lacksItem_L26 X hr hl F k hk _ _ h
      · have h := xif hc h
        refine x_sub [] rfl ?_
        exact wX5_lacksItem_L21 X hr hl F k hk _ h
set_option maxRecDepth 100000 in
set_option maxHeartbeats 4000000 in
theorem wX5_lacksRun_L27 {p : Program} {l : Launch} {e : Env} {s : State} {m : MethodId} {args : Array Value} {below : List Frame} {meth : Method} {c : Code} {D : va_G} {A : Nat → Prop} {ad : Nat → Nat} {cI cX : ClassId} {r : Int32} {σ' : xSt} (X : xX p s m args c cX5_lacksRun 3 RX5 D (tyC cI cX) A (wC ad cI cX)) (hr : meth.sig.returnType = (some .boolean)) (hl : meth.locks = false) (F : Nat) (k : Nat) (hk : k < 4) (t0 : Int32) (σ : xSt) (h : mX5_lacksRun_L27 F k t0 σ = some (r, σ')) : xG p l e ({ frames := 0, cells := 0, slots := 0, locals := 0 }) s m args below meth c (MQ below (xQi D A (wC ad cI cX) r σ') args s 0 0 A) 3 D A (wC ad cI cX) σ 27 [] [.int t0] := by
  unfold mX5_lacksRun_L27 at h
  obtain ⟨hb27, h⟩ := xck_some h
  exact x_zret (pc := 27) X hr hl hb27 h dX5_lacksRun_27
set_option maxRecDepth 100000 in
set_option maxHeartbeats 4000000 in
theorem wX5_lacksRun_L22 {p : Program} {l : Launch} {e : Env} {s : State} {m : MethodId} {args : Array Value} {below : List Frame} {meth : Method} {c : Code} {D : va_G} {A : Nat → Prop} {ad : Nat → Nat} {cI cX : ClassId} {r : Int32} {σ' : xSt} (X : xX p s m args c cX5_lacksRun 3 RX5 D (tyC cI cX) A (wC ad cI cX)) (hr : meth.sig.returnType = (some .boolean)) (hl : meth.locks = false) (F : Nat) (k : Nat) (hk : k < 4) (σ : xSt) (h : mX5_lacksRun_L22 F k σ = some (r, σ')) : xG p l e ({ frames := 0, cells := 0, slots := 0, locals := 0 }) s m args below meth c (MQ below (xQi D A (wC ad cI cX) r σ') args s 0 0 A) 3 D A (wC ad cI cX) σ 22 [] [] := by
  unfold mX5_lacksRun_L22 at h
  refine x_iconst (pc := 22) (v := 1) X dX5_lacksRun_22 (by decide) ?_
  refine x_goto (pc := 23) X 27 dX5_lacksRun_23 (by decide) ?_
  refine x_sub [] rfl ?_
  exact wX5_lacksRun_L27 X hr hl F k hk _ _ h
set_option maxRecDepth 100000 in
set_option maxHeartbeats 4000000 in
theorem kX5_lacksRun (l : Launch) {D : va_G} {A : Nat → Prop} {ad : Nat → Nat} {cI cX : ClassId} (hD : ∀ σ, va_D A ((wC ad cI cX) σ)) (F : Nat) (k : Nat) (hk : k < 4) (v1 : Int32) (v2 : Int32) (σ : xSt) (r : Int32) (σ' : xSt) (h : mX5_lacksRun F k v1 v2 σ = some (r, σ')) : xM l yX5_lacksRun cX5_lacksRun 3 (some .boolean) ({ frames := 0, cells := 0, slots := 0, locals := 0 }) D (tyC cI cX) A (wC ad cI cX) [.ref (ad (37 + k)), .int v1, .int v2] σ (xQi D A (wC ad cI cX) r σ') := by
  refine xM_of (lv := [(0, .ref (ad (37 + k))), (1, .int v1), (2, .int v2)]) [.ref (ad (37 + k)), .int v1, .int v2] (by decide) hD rfl (Nat.le_of_ble_eq_true rfl) ?_
  intro p e s m args below meth c X hr hl
  unfold mX5_lacksRun at h
  refine x_iload_n (pc := 0) X dX5_lacksRun_0 rfl 1 rfl ?_
  refine x_if_lt (pc := 1) X 22 dX5_lacksRun_1 (by decide) (fun hc => ?_) (fun hc => ?_)
  · have h := xit hc h
    refine x_sub [] rfl ?_
    exact wX5_lacksRun_L22 X hr hl F k hk _ h
  · have h := xif hc h
    refine x_iload_n (pc := 4) X dX5_lacksRun_4 rfl 1 rfl ?_
    refine x_aload_n (pc := 5) X dX5_lacksRun_5 rfl 0 rfl ?_
    refine gX5_19 (pc := 6) X k hk dX5_lacksRun_6 ?_
    refine x_icmp_gt (pc := 9) X 22 dX5_lacksRun_9 (by decide) (fun hc => ?_) (fun hc => ?_)
    · have h := xit hc h
      refine x_sub [] rfl ?_
      exact wX5_lacksRun_L22 X hr hl F k hk _ h
    · have h := xif hc h
      refine x_iload_n (pc := 12) X dX5_lacksRun_12 rfl 2 rfl ?_
      refine x_aload_n (pc := 13) X dX5_lacksRun_13 rfl 0 rfl ?_
      refine gX5_19 (pc := 14) X k hk dX5_lacksRun_14 ?_
      refine x_iload_n (pc := 17) X dX5_lacksRun_17 rfl 1 rfl ?_
      refine x_isub (pc := 18) X dX5_lacksRun_18 ?_
      refine x_icmp_le (pc := 19) X 26 dX5_lacksRun_19 (by decide) (fun hc => ?_) (fun hc => ?_)
      · have h := xit hc h
        refine x_iconst (pc := 26) (v := 0) X dX5_lacksRun_26 (by decide) ?_
        refine x_sub [] rfl ?_
        exact wX5_lacksRun_L27 X hr hl F k hk _ _ h
      · have h := xif hc h
        refine x_sub [] rfl ?_
        exact wX5_lacksRun_L22 X hr hl F k hk _ h
set_option maxRecDepth 100000 in
set_option maxHeartbeats 4000000 in
theorem wX5_item_L18 {p : Program} {l : Launch} {e : Env} {s : State} {m : MethodId} {args : Array Value} {below : List Frame} {meth : Method} {c : Code} {D : va_G} {A : Nat → Prop} {ad : Nat → Nat} {cI cX : ClassId} {r : Int32} {σ' : xSt} (X : xX p s m args c cX5_item 2 RX5 D (tyC cI cX) A (wC ad cI cX)) (hr : meth.sig.returnType = (some .int)) (hl : meth.locks = false) (F : Nat) (k : Nat) (hk : k < 4) (t0 : Int32) (σ : xSt) (h : mX5_item_L18 F k t0 σ = some (r, σ')) : xG p l e ({ frames := 1, cells := 0, slots := 0, locals := 21 }) s m args below meth c (MQ below (xQi D A (wC ad cI cX) r σ') args s 0 0 A) 2 D A (wC ad cI cX) σ 18 [] [.int t0] := by
  unfold mX5_item_L18 at h
  exact x_iret (pc := 18) X hr hl h dX5_item_18
set_option maxRecDepth 100000 in
set_option maxHeartbeats 4000000 in
theorem kX5_item (l : Launch) {D : va_G} {A : Nat → Prop} {ad : Nat → Nat} {cI cX : ClassId} (hD : ∀ σ, va_D A ((wC ad cI cX) σ)) (F : Nat) (k : Nat) (hk : k < 4) (v1 : Int32) (σ : xSt) (r : Int32) (σ' : xSt) (h : mX5_item F k v1 σ = some (r, σ')) : xM l yX5_item cX5_item 2 (some .int) ({ frames := 1, cells := 0, slots := 0, locals := 21 }) D (tyC cI cX) A (wC ad cI cX) [.ref (ad (37 + k)), .int v1] σ (xQi D A (wC ad cI cX) r σ') := by
  refine xM_of (lv := [(0, .ref (ad (37 + k))), (1, .int v1)]) [.ref (ad (37 + k)), .int v1] (by decide) hD rfl (Nat.le_of_ble_eq_true rfl) ?_
  intro p e s m args below meth c X hr hl
  unfold mX5_item at h
  refine x_aload_n (pc := 0) X dX5_item_0 rfl 0 rfl ?_
  refine x_iload_n (pc := 1) X dX5_item_1 rfl 1 rfl ?_
  obtain ⟨r2, σ2, hq2, h⟩ := xb2_some h
  refine x_calliV (pc := 2) (As := [.int v1]) (rest := []) X (kX5_lacksItem l X.2.2.2.2.2.2.2 F k hk _ _ _ _ hq2) kvX5_28 rfl (qX5 k hk) ⟨rfl, rfl, Nat.le_of_ble_eq_true rfl, Nat.le_of_ble_eq_true rfl⟩ rfl rfl (Nat.le_of_ble_eq_true rfl) dX5_item_2 ?_
  refine x_if_eq (pc := 5) X 12 dX5_item_5 (by decide) (fun hc => ?_) (fun hc => ?_)
  · have h := xit hc h
    refine x_aload_n (pc := 12) X dX5_item_12 rfl 0 rfl ?_
    refine gX5_9 (pc := 13) X k hk dX5_item_13 ?_
    refine x_iload_n (pc := 16) X dX5_item_16 rfl 1 rfl ?_
    obtain ⟨hb17, h⟩ := xck_some h
    refine x_iald (pc := 17) X (41 + k) 0 (qaX5_items k hk) rfl hb17 dX5_item_17 ?_
    refine x_sub [] rfl ?_
    exact wX5_item_L18 X hr hl F k hk _ _ h
  · have h := xif hc h
    refine x_iconst (pc := 8) (v := 0) X dX5_item_8 (by decide) ?_
    refine x_goto (pc := 9) X 18 dX5_item_9 (by decide) ?_
    refine x_sub [] rfl ?_
    exact wX5_item_L18 X hr hl F k hk _ _ h
set_option maxRecDepth 100000 in
set_option maxHeartbeats 4000000 in
theorem wX5_wrongWith_L32 {p : Program} {l : Launch} {e : Env} {s : State} {m : MethodId} {args : Array Value} {below : List Frame} {meth : Method} {c : Code} {D : va_G} {A : Nat → Prop} {ad : Nat → Nat} {cI cX : ClassId} {r : Int32} {σ' : xSt} (X : xX p s m args c cX5_wrongWith 3 RX5 D (tyC cI cX) A (wC ad cI cX)) (hr : meth.sig.returnType = (some .int)) (hl : meth.locks = false) (F : Nat) (k : Nat) (hk : k < 4) (t0 : Int32) (σ : xSt) (h : mX5_wrongWith_L32 F k t0 σ = some (r, σ')) : xG p l e ({ frames := 1, cells := 0, slots := 0, locals := 21 }) s m args below meth c (MQ below (xQi D A (wC ad cI cX) r σ') args s 0 0 A) 3 D A (wC ad cI cX) σ 32 [] [.int t0] := by
  unfold mX5_wrongWith_L32 at h
  exact x_iret (pc := 32) X hr hl h dX5_wrongWith_32
set_option maxRecDepth 100000 in
set_option maxHeartbeats 4000000 in
theorem kX5_wrongWith (l : Launch) {D : va_G} {A : Nat → Prop} {ad : Nat → Nat} {cI cX : ClassId} (hD : ∀ σ, va_D A ((wC ad cI cX) σ)) (F : Nat) (k : Nat) (hk : k < 4) (v1 : Int32) (v2 : Int32) (σ : xSt) (r : Int32) (σ' : xSt) (h : mX5_wrongWith F k v1 v2 σ = some (r, σ')) : xM l yX5_wrongWith cX5_wrongWith 3 (some .int) ({ frames := 1, cells := 0, slots := 0, locals := 21 }) D (tyC cI cX) A (wC ad cI cX) [.ref (ad (37 + k)), .int v1, .int v2] σ (xQi D A (wC ad cI cX) r σ') := by
  refine xM_of (lv := [(0, .ref (ad (37 + k))), (1, .int v1), (2, .int v2)]) [.ref (ad (37 + k)), .int v1, .int v2] (by decide) hD rfl (Nat.le_of_ble_eq_true rfl) ?_
  intro p e s m args below meth c X hr hl
  unfold mX5_wrongWith at h
  refine x_aload_n (pc := 0) X dX5_wrongWith_0 rfl 0 rfl ?_
  obtain ⟨r1, σ1, hq1, h⟩ := xb2_some h
  refine x_calliV (pc := 1) (As := []) (rest := []) X (kX5_isLost l X.2.2.2.2.2.2.2 F k hk _ _ _ hq1) kvX5_32 rfl (qX5 k hk) ⟨rfl, rfl, Nat.le_of_ble_eq_true rfl, Nat.le_of_ble_eq_true rfl⟩ rfl rfl (Nat.le_of_ble_eq_true rfl) dX5_wrongWith_1 ?_
  refine x_if_eq (pc := 4) X 9 dX5_wrongWith_4 (by decide) (fun hc => ?_) (fun hc => ?_)
  · have h := xit hc h
    refine x_aload_n (pc := 9) X dX5_wrongWith_9 rfl 0 rfl ?_
    refine gX5_15 (pc := 10) X k hk dX5_wrongWith_10 ?_
    refine x_iload_n (pc := 13) X dX5_wrongWith_13 rfl 1 rfl ?_
    refine x_icmp_eq (pc := 14) X 19 dX5_wrongWith_14 (by decide) (fun hc => ?_) (fun hc => ?_)
    · have h := xit hc h
      refine x_aload_n (pc := 19) X dX5_wrongWith_19 rfl 0 rfl ?_
      refine x_iload_n (pc := 20) X dX5_wrongWith_20 rfl 2 rfl ?_
      obtain ⟨r21, σ21, hq21, h⟩ := xb2_some h
      refine x_calliV (pc := 21) (As := [.int v2]) (rest := []) X (kX5_lacksItem l X.2.2.2.2.2.2.2 F k hk _ _ _ _ hq21) kvX5_28 rfl (qX5 k hk) ⟨rfl, rfl, Nat.le_of_ble_eq_true rfl, Nat.le_of_ble_eq_true rfl⟩ rfl rfl (Nat.le_of_ble_eq_true rfl) dX5_wrongWith_21 ?_
      refine x_if_eq (pc := 24) X 31 dX5_wrongWith_24 (by decide) (fun hc => ?_) (fun hc => ?_)
      · have h := xit hc h
        refine x_iconst (pc := 31) (v := 0) X dX5_wrongWith_31 (by decide) ?_
        refine x_sub [] rfl ?_
        exact wX5_wrongWith_L32 X hr hl F k hk _ _ h
      · have h := xif hc h
        refine x_iconst (pc := 27) (v := 2) X dX5_wrongWith_27 (by decide) ?_
        refine x_goto (pc := 28) X 32 dX5_wrongWith_28 (by decide) ?_
        refine x_sub [] rfl ?_
        exact wX5_wrongWith_L32 X hr hl F k hk _ _ h
    · have h := xif hc h
      refine x_iconst (pc := 17) (v := 3) X dX5_wrongWith_17 (by decide) ?_
      exact x_iret (pc := 18) X hr hl h dX5_wrongWith_18
  · have h := xif hc h
    refine x_iconst (pc := 7) (v := 1) X dX5_wrongWith_7 (by decide) ?_
    exact x_iret (pc := 8) X hr hl h dX5_wrongWith_8
set_option maxRecDepth 100000 in
set_option maxHeartbeats 4000000 in
theorem wX5_store_L40 {p : Program} {l : Launch} {e : Env} {s : State} {m : MethodId} {args : Array Value} {below : List Frame} {meth : Method} {c : Code} {D : va_G} {A : Nat → Prop} {ad : Nat → Nat} {cI cX : ClassId} {σ' : xSt} (X : xX p s m args c cX5_store 3 RX5 D (tyC cI cX) A (wC ad cI cX)) (hr : meth.sig.returnType = none) (hl : meth.locks = false) (F : Nat) (k : Nat) (hk : k < 4) (σ : xSt) (h : mX5_store_L40 F k σ = some σ') : xG p l e ({ frames := 1, cells := 0, slots := 0, locals := 21 }) s m args below meth c (MQ below (xQv D A (wC ad cI cX) σ') args s 0 0 A) 3 D A (wC ad cI cX) σ 40 [] [] := by
  unfold mX5_store_L40 at h
  exact x_vret (pc := 40) X hr hl h dX5_store_40
set_option maxRecDepth 100000 in
set_option maxHeartbeats 4000000 in
theorem wX5_store_L39 {p : Program} {l : Launch} {e : Env} {s : State} {m : MethodId} {args : Array Value} {below : List Frame} {meth : Method} {c : Code} {D : va_G} {A : Nat → Prop} {ad : Nat → Nat} {cI cX : ClassId} {σ' : xSt} (X : xX p s m args c cX5_store 3 RX5 D (tyC cI cX) A (wC ad cI cX)) (hr : meth.sig.returnType = none) (hl : meth.locks = false) (F : Nat) (k : Nat) (hk : k < 4) (t1 : Int32) (t2 : Int32) (σ : xSt) (h : mX5_store_L39 F k t1 t2 σ = some σ') : xG p l e ({ frames := 1, cells := 0, slots := 0, locals := 21 }) s m args below meth c (MQ below (xQv D A (wC ad cI cX) σ') args s 0 0 A) 3 D A (wC ad cI cX) σ 39 [] [.int t2, .int t1, .ref (ad (41 + k))] := by
  unfold mX5_store_L39 at h
  obtain ⟨hb39, h⟩ := xck_some h
  refine x_iast (pc := 39) (σ' := (xsA σ (30 + k) (Int32.toNatClampNeg t1) t2)) X (41 + k) 0 (qaX5_items k hk) rfl (saX5_items _ k hk) hb39 dX5_store_39 ?_
  refine x_sub [] rfl ?_
  exact wX5_store_L40 X hr hl F k hk _ h
set_option maxRecDepth 100000 in
set_option maxHeartbeats 4000000 in
theorem kX5_store (l : Launch) {D : va_G} {A : Nat → Prop} {ad : Nat → Nat} {cI cX : ClassId} (hD : ∀ σ, va_D A ((wC ad cI cX) σ)) (F : Nat) (k : Nat) (hk : k < 4) (v1 : Int32) (v2 : Int32) (σ : xSt) (σ' : xSt) (h : mX5_store F k v1 v2 σ = some σ') : xM l yX5_store cX5_store 3 none ({ frames := 1, cells := 0, slots := 0, locals := 21 }) D (tyC cI cX) A (wC ad cI cX) [.ref (ad (37 + k)), .int v1, .int v2] σ (xQv D A (wC ad cI cX) σ') := by
  refine xM_of (lv := [(0, .ref (ad (37 + k))), (1, .int v1), (2, .int v2)]) [.ref (ad (37 + k)), .int v1, .int v2] (by decide) hD rfl (Nat.le_of_ble_eq_true rfl) ?_
  intro p e s m args below meth c X hr hl
  unfold mX5_store at h
  refine x_aload_n (pc := 0) X dX5_store_0 rfl 0 rfl ?_
  refine x_iload_n (pc := 1) X dX5_store_1 rfl 1 rfl ?_
  obtain ⟨r2, σ2, hq2, h⟩ := xb2_some h
  refine x_calliV (pc := 2) (As := [.int v1]) (rest := []) X (kX5_lacksItem l X.2.2.2.2.2.2.2 F k hk _ _ _ _ hq2) kvX5_28 rfl (qX5 k hk) ⟨rfl, rfl, Nat.le_of_ble_eq_true rfl, Nat.le_of_ble_eq_true rfl⟩ rfl rfl (Nat.le_of_ble_eq_true rfl) dX5_store_2 ?_
  refine x_if_ne (pc := 5) X 40 dX5_store_5 (by decide) (fun hc => ?_) (fun hc => ?_)
  · have h := xif hc h
    refine x_sub [] rfl ?_
    exact wX5_store_L40 X hr hl F k hk _ h
  · have h := xit hc h
    refine x_aload_n (pc := 8) X dX5_store_8 rfl 0 rfl ?_
    refine gX5_9 (pc := 9) X k hk dX5_store_9 ?_
    refine x_iload_n (pc := 12) X dX5_store_12 rfl 1 rfl ?_
    refine x_aload_n (pc := 13) X dX5_store_13 rfl 0 rfl ?_
    refine gX5_15 (pc := 14) X k hk dX5_store_14 ?_
    refine x_if_ne (pc := 17) X 25 dX5_store_17 (by decide) (fun hc => ?_) (fun hc => ?_)
    · have h := xif hc h
      refine x_aload_n (pc := 25) X dX5_store_25 rfl 0 rfl ?_
      refine gX5_15 (pc := 26) X k hk dX5_store_26 ?_
      refine x_iconst (pc := 29) (v := 1) X dX5_store_29 (by decide) ?_
      refine x_icmp_ne (pc := 30) X 38 dX5_store_30 (by decide) (fun hc => ?_) (fun hc => ?_)
      · have h := xif hc h
        refine x_iload_n (pc := 38) X dX5_store_38 rfl 2 rfl ?_
        refine x_sub [] rfl ?_
        exact wX5_store_L39 X hr hl F k hk _ _ _ h
      · have h := xit hc h
        refine x_iload_n (pc := 33) X dX5_store_33 rfl 2 rfl ?_
        refine x_i2s (pc := 34) X dX5_store_34 ?_
        refine x_goto (pc := 35) X 39 dX5_store_35 (by decide) ?_
        refine x_sub [] rfl ?_
        exact wX5_store_L39 X hr hl F k hk _ _ _ h
    · have h := xit hc h
      refine x_iload_n (pc := 20) X dX5_store_20 rfl 2 rfl ?_
      refine x_i2b (pc := 21) X dX5_store_21 ?_
      refine x_goto (pc := 22) X 39 dX5_store_22 (by decide) ?_
      refine x_sub [] rfl ?_
      exact wX5_store_L39 X hr hl F k hk _ _ _ h
set_option maxRecDepth 100000 in
set_option maxHeartbeats 4000000 in
theorem wX6_isFull_L17 {p : Program} {l : Launch} {e : Env} {s : State} {m : MethodId} {args : Array Value} {below : List Frame} {meth : Method} {c : Code} {D : va_G} {A : Nat → Prop} {ad : Nat → Nat} {cI cX : ClassId} {r : Int32} {σ' : xSt} (X : xX p s m args c cX6_isFull 1 RX6 D (tyC cI cX) A (wC ad cI cX)) (hr : meth.sig.returnType = (some .boolean)) (hl : meth.locks = false) (F : Nat) (k : Nat) (hk : k < 2) (t0 : Int32) (σ : xSt) (h : mX6_isFull_L17 F k t0 σ = some (r, σ')) : xG p l e ({ frames := 0, cells := 0, slots := 0, locals := 0 }) s m args below meth c (MQ below (xQi D A (wC ad cI cX) r σ') args s 0 0 A) 1 D A (wC ad cI cX) σ 17 [] [.int t0] := by
  unfold mX6_isFull_L17 at h
  obtain ⟨hb17, h⟩ := xck_some h
  exact x_zret (pc := 17) X hr hl hb17 h dX6_isFull_17
set_option maxRecDepth 100000 in
set_option maxHeartbeats 4000000 in
theorem kX6_isFull (l : Launch) {D : va_G} {A : Nat → Prop} {ad : Nat → Nat} {cI cX : ClassId} (hD : ∀ σ, va_D A ((wC ad cI cX) σ)) (F : Nat) (k : Nat) (hk : k < 2) (σ : xSt) (r : Int32) (σ' : xSt) (h : mX6_isFull F k σ = some (r, σ')) : xM l yX6_isFull cX6_isFull 1 (some .boolean) ({ frames := 0, cells := 0, slots := 0, locals := 0 }) D (tyC cI cX) A (wC ad cI cX) [.ref (ad (12 + k))] σ (xQi D A (wC ad cI cX) r σ') := by
  refine xM_of (lv := [(0, .ref (ad (12 + k)))]) [.ref (ad (12 + k))] (by decide) hD rfl (Nat.le_of_ble_eq_true rfl) ?_
  intro p e s m args below meth c X hr hl
  unfold mX6_isFull at h
  refine x_aload_n (pc := 0) X dX6_isFull_0 rfl 0 rfl ?_
  refine gX6_9 (pc := 1) X k hk dX6_isFull_1 ?_
  refine x_aload_n (pc := 4) X dX6_isFull_4 rfl 0 rfl ?_
  refine gX6_22 (pc := 5) X k hk dX6_isFull_5 ?_
  refine x_alen (pc := 8) X (14 + k) 0 (qaX6_bytes k hk) rfl rfl dX6_isFull_8 ?_
  refine x_icmp_lt (pc := 9) X 16 dX6_isFull_9 (by decide) (fun hc => ?_) (fun hc => ?_)
  · have h := xit hc h
    refine x_iconst (pc := 16) (v := 0) X dX6_isFull_16 (by decide) ?_
    refine x_sub [] rfl ?_
    exact wX6_isFull_L17 X hr hl F k hk _ _ h
  · have h := xif hc h
    refine x_iconst (pc := 12) (v := 1) X dX6_isFull_12 (by decide) ?_
    refine x_goto (pc := 13) X 17 dX6_isFull_13 (by decide) ?_
    refine x_sub [] rfl ?_
    exact wX6_isFull_L17 X hr hl F k hk _ _ h
set_option maxRecDepth 100000 in
set_option maxHeartbeats 4000000 in
theorem wX6_mayStand_L165 {p : Program} {l : Launch} {e : Env} {s : State} {m : MethodId} {args : Array Value} {below : List Frame} {meth : Method} {c : Code} {D : va_G} {A : Nat → Prop} {ad : Nat → Nat} {cI cX : ClassId} {r : Int32} {σ' : xSt} (X : xX p s m args c cX6_mayStand 3 RX6 D (tyC cI cX) A (wC ad cI cX)) (hr : meth.sig.returnType = (some .boolean)) (hl : meth.locks = false) (F : Nat) (k : Nat) (hk : k < 2) (t0 : Int32) (σ : xSt) (h : mX6_mayStand_L165 F k t0 σ = some (r, σ')) : xG p l e ({ frames := 0, cells := 0, slots := 0, locals := 0 }) s m args below meth c (MQ below (xQi D A (wC ad cI cX) r σ') args s 0 0 A) 3 D A (wC ad cI cX) σ 165 [] [.int t0] := by
  unfold mX6_mayStand_L165 at h
  obtain ⟨hb165, h⟩ := xck_some h
  exact x_zret (pc := 165) X hr hl hb165 h dX6_mayStand_165
set_option maxRecDepth 100000 in
set_option maxHeartbeats 4000000 in
theorem wX6_mayStand_L153 {p : Program} {l : Launch} {e : Env} {s : State} {m : MethodId} {args : Array Value} {below : List Frame} {meth : Method} {c : Code} {D : va_G} {A : Nat → Prop} {ad : Nat → Nat} {cI cX : ClassId} {r : Int32} {σ' : xSt} (X : xX p s m args c cX6_mayStand 3 RX6 D (tyC cI cX) A (wC ad cI cX)) (hr : meth.sig.returnType = (some .boolean)) (hl : meth.locks = false) (F : Nat) (k : Nat) (hk : k < 2) (t0 : Int32) (σ : xSt) (h : mX6_mayStand_L153 F k t0 σ = some (r, σ')) : xG p l e ({ frames := 0, cells := 0, slots := 0, locals := 0 }) s m args below meth c (MQ below (xQi D A (wC ad cI cX) r σ') args s 0 0 A) 3 D A (wC ad cI cX) σ 153 [] [.int t0] := by
  unfold mX6_mayStand_L153 at h
  obtain ⟨hb153, h⟩ := xck_some h
  exact x_zret (pc := 153) X hr hl hb153 h dX6_mayStand_153
set_option maxRecDepth 100000 in
set_option maxHeartbeats 4000000 in
theorem wX6_mayStand_L148 {p : Program} {l : Launch} {e : Env} {s : State} {m : MethodId} {args : Array Value} {below : List Frame} {meth : Method} {c : Code} {D : va_G} {A : Nat → Prop} {ad : Nat → Nat} {cI cX : ClassId} {r : Int32} {σ' : xSt} (X : xX p s m args c cX6_mayStand 3 RX6 D (tyC cI cX) A (wC ad cI cX)) (hr : meth.sig.returnType = (some .boolean)) (hl : meth.locks = false) (F : Nat) (k : Nat) (hk : k < 2) (σ : xSt) (h : mX6_mayStand_L148 F k σ = some (r, σ')) : xG p l e ({ frames := 0, cells := 0, slots := 0, locals := 0 }) s m args below meth c (MQ below (xQi D A (wC ad cI cX) r σ') args s 0 0 A) 3 D A (wC ad cI cX) σ 148 [] [] := by
  unfold mX6_mayStand_L148 at h
  refine x_iconst (pc := 148) (v := 1) X dX6_mayStand_148 (by decide) ?_
  refine x_goto (pc := 149) X 153 dX6_mayStand_149 (by decide) ?_
  refine x_sub [] rfl ?_
  exact wX6_mayStand_L153 X hr hl F k hk _ _ h
set_option maxRecDepth 100000 in
set_option maxHeartbeats 4000000 in
theorem wX6_mayStand_L132 {p : Program} {l : Launch} {e : Env} {s : State} {m : MethodId} {args : Array Value} {below : List Frame} {meth : Method} {c : Code} {D : va_G} {A : Nat → Prop} {ad : Nat → Nat} {cI cX : ClassId} {r : Int32} {σ' : xSt} (X : xX p s m args c cX6_mayStand 3 RX6 D (tyC cI cX) A (wC ad cI cX)) (hr : meth.sig.returnType = (some .boolean)) (hl : meth.locks = false) (F : Nat) (k : Nat) (hk : k < 2) (σ : xSt) (h : mX6_mayStand_L132 F k σ = some (r, σ')) : xG p l e ({ frames := 0, cells := 0, slots := 0, locals := 0 }) s m args below meth c (MQ below (xQi D A (wC ad cI cX) r σ') args s 0 0 A) 3 D A (wC ad cI cX) σ 132 [] [] := by
  unfold mX6_mayStand_L132 at h
  refine x_iconst (pc := 132) (v := 0) X dX6_mayStand_132 (by decide) ?_
  refine x_goto (pc := 133) X 153 dX6_mayStand_133 (by decide) ?_
  refine x_sub [] rfl ?_
  exact wX6_mayStand_L153 X hr hl F k hk _ _ h
set_option maxRecDepth 100000 in
set_option maxHeartbeats 4000000 in
theorem wX6_mayStand_L128 {p : Program} {l : Launch} {e : Env} {s : State} {m : MethodId} {args : Array Value} {below : List Frame} {meth : Method} {c : Code} {D : va_G} {A : Nat → Prop} {ad : Nat → Nat} {cI cX : ClassId} {r : Int32} {σ' : xSt} (X : xX p s m args c cX6_mayStand 3 RX6 D (tyC cI cX) A (wC ad cI cX)) (hr : meth.sig.returnType = (some .boolean)) (hl : meth.locks = false) (F : Nat) (k : Nat) (hk : k < 2) (σ : xSt) (h : mX6_mayStand_L128 F k σ = some (r, σ')) : xG p l e ({ frames := 0, cells := 0, slots := 0, locals := 0 }) s m args below meth c (MQ below (xQi D A (wC ad cI cX) r σ') args s 0 0 A) 3 D A (wC ad cI cX) σ 128 [] [] := by
  unfold mX6_mayStand_L128 at h
  refine x_iconst (pc := 128) (v := 1) X dX6_mayStand_128 (by decide) ?_
  refine x_goto (pc := 129) X 153 dX6_mayStand_129 (by decide) ?_
  refine x_sub [] rfl ?_
  exact wX6_mayStand_L153 X hr hl F k hk _ _ h
set_option maxRecDepth 100000 in
set_option maxHeartbeats 4000000 in
theorem wX6_mayStand_L102 {p : Program} {l : Launch} {e : Env} {s : State} {m : MethodId} {args : Array Value} {below : List Frame} {meth : Method} {c : Code} {D : va_G} {A : Nat → Prop} {ad : Nat → Nat} {cI cX : ClassId} {r : Int32} {σ' : xSt} (X : xX p s m args c cX6_mayStand 3 RX6 D (tyC cI cX) A (wC ad cI cX)) (hr : meth.sig.returnType = (some .boolean)) (hl : meth.locks = false) (F : Nat) (k : Nat) (hk : k < 2) (t0 : Int32) (σ : xSt) (h : mX6_mayStand_L102 F k t0 σ = some (r, σ')) : xG p l e ({ frames := 0, cells := 0, slots := 0, locals := 0 }) s m args below meth c (MQ below (xQi D A (wC ad cI cX) r σ') args s 0 0 A) 3 D A (wC ad cI cX) σ 102 [] [.int t0] := by
  unfold mX6_mayStand_L102 at h
  obtain ⟨hb102, h⟩ := xck_some h
  exact x_zret (pc := 102) X hr hl hb102 h dX6_mayStand_102
set_option maxRecDepth 100000 in
set_option maxHeartbeats 4000000 in
theorem wX6_mayStand_L101 {p : Program} {l : Launch} {e : Env} {s : State} {m : MethodId} {args : Array Value} {below : List Frame} {meth : Method} {c : Code} {D : va_G} {A : Nat → Prop} {ad : Nat → Nat} {cI cX : ClassId} {r : Int32} {σ' : xSt} (X : xX p s m args c cX6_mayStand 3 RX6 D (tyC cI cX) A (wC ad cI cX)) (hr : meth.sig.returnType = (some .boolean)) (hl : meth.locks = false) (F : Nat) (k : Nat) (hk : k < 2) (σ : xSt) (h : mX6_mayStand_L101 F k σ = some (r, σ')) : xG p l e ({ frames := 0, cells := 0, slots := 0, locals := 0 }) s m args below meth c (MQ below (xQi D A (wC ad cI cX) r σ') args s 0 0 A) 3 D A (wC ad cI cX) σ 101 [] [] := by
  unfold mX6_mayStand_L101 at h
  refine x_iconst (pc := 101) (v := 0) X dX6_mayStand_101 (by decide) ?_
  refine x_sub [] rfl ?_
  exact wX6_mayStand_L102 X hr hl F k hk _ _ h
set_option maxRecDepth 100000 in
set_option maxHeartbeats 4000000 in
theorem wX6_mayStand_L81 {p : Program} {l : Launch} {e : Env} {s : State} {m : MethodId} {args : Array Value} {below : List Frame} {meth : Method} {c : Code} {D : va_G} {A : Nat → Prop} {ad : Nat → Nat} {cI cX : ClassId} {r : Int32} {σ' : xSt} (X : xX p s m args c cX6_mayStand 3 RX6 D (tyC cI cX) A (wC ad cI cX)) (hr : meth.sig.returnType = (some .boolean)) (hl : meth.locks = false) (F : Nat) (k : Nat) (hk : k < 2) (σ : xSt) (h : mX6_mayStand_L81 F k σ = some (r, σ')) : xG p l e ({ frames := 0, cells := 0, slots := 0, locals := 0 }) s m args below meth c (MQ below (xQi D A (wC ad cI cX) r σ') args s 0 0 A) 3 D A (wC ad cI cX) σ 81 [] [] := by
  unfold mX6_mayStand_L81 at h
  refine x_iconst (pc := 81) (v := 0) X dX6_mayStand_81 (by decide) ?_
  refine x_goto (pc := 82) X 102 dX6_mayStand_82 (by decide) ?_
  refine x_sub [] rfl ?_
  exact wX6_mayStand_L102 X hr hl F k hk _ _ h
set_option maxRecDepth 100000 in
set_option maxHeartbeats 4000000 in
theorem wX6_mayStand_L57 {p : Program} {l : Launch} {e : Env} {s : State} {m : MethodId} {args : Array Value} {below : List Frame} {meth : Method} {c : Code} {D : va_G} {A : Nat → Prop} {ad : Nat → Nat} {cI cX : ClassId} {r : Int32} {σ' : xSt} (X : xX p s m args c cX6_mayStand 3 RX6 D (tyC cI cX) A (wC ad cI cX)) (hr : meth.sig.returnType = (some .boolean)) (hl : meth.locks = false) (F : Nat) (k : Nat) (hk : k < 2) (t0 : Int32) (σ : xSt) (h : mX6_mayStand_L57 F k t0 σ = some (r, σ')) : xG p l e ({ frames := 0, cells := 0, slots := 0, locals := 0 }) s m args below meth c (MQ below (xQi D A (wC ad cI cX) r σ') args s 0 0 A) 3 D A (wC ad cI cX) σ 57 [] [.int t0] := by
  unfold mX6_mayStand_L57 at h
  obtain ⟨hb57, h⟩ := xck_some h
  exact x_zret (pc := 57) X hr hl hb57 h dX6_mayStand_57
set_option maxRecDepth 100000 in
set_option maxHeartbeats 4000000 in
theorem wX6_mayStand_L56 {p : Program} {l : Launch} {e : Env} {s : State} {m : MethodId} {args : Array Value} {below : List Frame} {meth : Method} {c : Code} {D : va_G} {A : Nat → Prop} {ad : Nat → Nat} {cI cX : ClassId} {r : Int32} {σ' : xSt} (X : xX p s m args c cX6_mayStand 3 RX6 D (tyC cI cX) A (wC ad cI cX)) (hr : meth.sig.returnType = (some .boolean)) (hl : meth.locks = false) (F : Nat) (k : Nat) (hk : k < 2) (σ : xSt) (h : mX6_mayStand_L56 F k σ = some (r, σ')) : xG p l e ({ frames := 0, cells := 0, slots := 0, locals := 0 }) s m args below meth c (MQ below (xQi D A (wC ad cI cX) r σ') args s 0 0 A) 3 D A (wC ad cI cX) σ 56 [] [] := by
  unfold mX6_mayStand_L56 at h
  refine x_iconst (pc := 56) (v := 0) X dX6_mayStand_56 (by decide) ?_
  refine x_sub [] rfl ?_
  exact wX6_mayStand_L57 X hr hl F k hk _ _ h
set_option maxRecDepth 100000 in
set_option maxHeartbeats 4000000 in
theorem wX6_mayStand_L49 {p : Program} {l : Launch} {e : Env} {s : State} {m : MethodId} {args : Array Value} {below : List Frame} {meth : Method} {c : Code} {D : va_G} {A : Nat → Prop} {ad : Nat → Nat} {cI cX : ClassId} {r : Int32} {σ' : xSt} (X : xX p s m args c cX6_mayStand 3 RX6 D (tyC cI cX) A (wC ad cI cX)) (hr : meth.sig.returnType = (some .boolean)) (hl : meth.locks = false) (F : Nat) (k : Nat) (hk : k < 2) (t0 : Int32) (t1 : Int32) (σ : xSt) (h : mX6_mayStand_L49 F k t0 t1 σ = some (r, σ')) : xG p l e ({ frames := 0, cells := 0, slots := 0, locals := 0 }) s m args below meth c (MQ below (xQi D A (wC ad cI cX) r σ') args s 0 0 A) 3 D A (wC ad cI cX) σ 49 [] [.int t1, .int t0] := by
  unfold mX6_mayStand_L49 at h
  refine x_icmp_gt (pc := 49) X 56 dX6_mayStand_49 (by decide) (fun hc => ?_) (fun hc => ?_)
  · have h := xit hc h
    refine x_sub [] rfl ?_
    exact wX6_mayStand_L56 X hr hl F k hk _ h
  · have h := xif hc h
    refine x_iconst (pc := 52) (v := 1) X dX6_mayStand_52 (by decide) ?_
    refine x_goto (pc := 53) X 57 dX6_mayStand_53 (by decide) ?_
    refine x_sub [] rfl ?_
    exact wX6_mayStand_L57 X hr hl F k hk _ _ h
set_option maxRecDepth 100000 in
set_option maxHeartbeats 4000000 in
theorem kX6_mayStand (l : Launch) {D : va_G} {A : Nat → Prop} {ad : Nat → Nat} {cI cX : ClassId} (hD : ∀ σ, va_D A ((wC ad cI cX) σ)) (F : Nat) (k : Nat) (hk : k < 2) (v1 : Int32) (v2 : Int32) (σ : xSt) (r : Int32) (σ' : xSt) (h : mX6_mayStand F k v1 v2 σ = some (r, σ')) : xM l yX6_mayStand cX6_mayStand 3 (some .boolean) ({ frames := 0, cells := 0, slots := 0, locals := 0 }) D (tyC cI cX) A (wC ad cI cX) [.ref (ad (12 + k)), .int v1, .int v2] σ (xQi D A (wC ad cI cX) r σ') := by
  refine xM_of (lv := [(0, .ref (ad (12 + k))), (1, .int v1), (2, .int v2)]) [.ref (ad (12 + k)), .int v1, .int v2] (by decide) hD rfl (Nat.le_of_ble_eq_true rfl) ?_
  intro p e s m args below meth c X hr hl
  unfold mX6_mayStand at h
  refine x_iload_n (pc := 0) X dX6_mayStand_0 rfl 2 rfl ?_
  rcases Decidable.em (v2 = 0) with hs0 | hs0
  · have h := xit hs0 h
    refine x_tableIn (pc := 1) X 28 dX6_mayStand_1 (by rw [hs0]; decide) (by rw [hs0]; decide) (by rw [hs0]; rfl) (by decide) ?_
    refine x_iload_n (pc := 28) X dX6_mayStand_28 rfl 1 rfl ?_
    refine x_bipush (pc := 29) (v := 49) X dX6_mayStand_29 (by decide) ?_
    refine x_icmp_lt (pc := 31) X 56 dX6_mayStand_31 (by decide) (fun hc => ?_) (fun hc => ?_)
    · have h := xit hc h
      refine x_sub [] rfl ?_
      exact wX6_mayStand_L56 X hr hl F k hk _ h
    · have h := xif hc h
      refine x_iload_n (pc := 34) X dX6_mayStand_34 rfl 1 rfl ?_
      refine x_aload_n (pc := 35) X dX6_mayStand_35 rfl 0 rfl ?_
      refine gX6_18 (pc := 36) X k hk dX6_mayStand_36 ?_
      refine x_if_eq (pc := 39) X 47 dX6_mayStand_39 (by decide) (fun hc => ?_) (fun hc => ?_)
      · have h := xit hc h
        refine x_bipush (pc := 47) (v := 53) X dX6_mayStand_47 (by decide) ?_
        refine x_sub [] rfl ?_
        exact wX6_mayStand_L49 X hr hl F k hk _ _ _ h
      · have h := xif hc h
        refine x_bipush (pc := 42) (v := 57) X dX6_mayStand_42 (by decide) ?_
        refine x_goto (pc := 44) X 49 dX6_mayStand_44 (by decide) ?_
        refine x_sub [] rfl ?_
        exact wX6_mayStand_L49 X hr hl F k hk _ _ _ h
  · have h := xif hs0 h
    rcases Decidable.em (v2 = 1) with hs1 | hs1
    · have h := xit hs1 h
      refine x_tableIn (pc := 1) X 58 dX6_mayStand_1 (by rw [hs1]; decide) (by rw [hs1]; decide) (by rw [hs1]; rfl) (by decide) ?_
      refine x_aload_n (pc := 58) X dX6_mayStand_58 rfl 0 rfl ?_
      refine gX6_18 (pc := 59) X k hk dX6_mayStand_59 ?_
      refine x_if_eq (pc := 62) X 85 dX6_mayStand_62 (by decide) (fun hc => ?_) (fun hc => ?_)
      · have h := xit hc h
        refine x_iload_n (pc := 85) X dX6_mayStand_85 rfl 1 rfl ?_
        refine x_bipush (pc := 86) (v := 49) X dX6_mayStand_86 (by decide) ?_
        refine x_icmp_lt (pc := 88) X 101 dX6_mayStand_88 (by decide) (fun hc => ?_) (fun hc => ?_)
        · have h := xit hc h
          refine x_sub [] rfl ?_
          exact wX6_mayStand_L101 X hr hl F k hk _ h
        · have h := xif hc h
          refine x_iload_n (pc := 91) X dX6_mayStand_91 rfl 1 rfl ?_
          refine x_bipush (pc := 92) (v := 53) X dX6_mayStand_92 (by decide) ?_
          refine x_icmp_gt (pc := 94) X 101 dX6_mayStand_94 (by decide) (fun hc => ?_) (fun hc => ?_)
          · have h := xit hc h
            refine x_sub [] rfl ?_
            exact wX6_mayStand_L101 X hr hl F k hk _ h
          · have h := xif hc h
            refine x_iconst (pc := 97) (v := 1) X dX6_mayStand_97 (by decide) ?_
            refine x_goto (pc := 98) X 102 dX6_mayStand_98 (by decide) ?_
            refine x_sub [] rfl ?_
            exact wX6_mayStand_L102 X hr hl F k hk _ _ h
      · have h := xif hc h
        refine x_iload_n (pc := 65) X dX6_mayStand_65 rfl 1 rfl ?_
        refine x_bipush (pc := 66) (v := 48) X dX6_mayStand_66 (by decide) ?_
        refine x_icmp_lt (pc := 68) X 81 dX6_mayStand_68 (by decide) (fun hc => ?_) (fun hc => ?_)
        · have h := xit hc h
          refine x_sub [] rfl ?_
          exact wX6_mayStand_L81 X hr hl F k hk _ h
        · have h := xif hc h
          refine x_iload_n (pc := 71) X dX6_mayStand_71 rfl 1 rfl ?_
          refine x_bipush (pc := 72) (v := 57) X dX6_mayStand_72 (by decide) ?_
          refine x_icmp_gt (pc := 74) X 81 dX6_mayStand_74 (by decide) (fun hc => ?_) (fun hc => ?_)
          · have h := xit hc h
            refine x_sub [] rfl ?_
            exact wX6_mayStand_L81 X hr hl F k hk _ h
          · have h := xif hc h
            refine x_iconst (pc := 77) (v := 1) X dX6_mayStand_77 (by decide) ?_
            refine x_goto (pc := 78) X 102 dX6_mayStand_78 (by decide) ?_
            refine x_sub [] rfl ?_
            exact wX6_mayStand_L102 X hr hl F k hk _ _ h
    · have h := xif hs1 h
      rcases Decidable.em (v2 = 2) with hs2 | hs2
      · have h := xit hs2 h
        refine x_tableIn (pc := 1) X 103 dX6_mayStand_1 (by rw [hs2]; decide) (by rw [hs2]; decide) (by rw [hs2]; rfl) (by decide) ?_
        refine x_aload_n (pc := 103) X dX6_mayStand_103 rfl 0 rfl ?_
        refine gX6_18 (pc := 104) X k hk dX6_mayStand_104 ?_
        refine x_if_eq (pc := 107) X 136 dX6_mayStand_107 (by decide) (fun hc => ?_) (fun hc => ?_)
        · have h := xit hc h
          refine x_iload_n (pc := 136) X dX6_mayStand_136 rfl 1 rfl ?_
          refine x_bipush (pc := 137) (v := 111) X dX6_mayStand_137 (by decide) ?_
          refine x_icmp_eq (pc := 139) X 148 dX6_mayStand_139 (by decide) (fun hc => ?_) (fun hc => ?_)
          · have h := xit hc h
            refine x_sub [] rfl ?_
            exact wX6_mayStand_L148 X hr hl F k hk _ h
          · have h := xif hc h
            refine x_iload_n (pc := 142) X dX6_mayStand_142 rfl 1 rfl ?_
            refine x_bipush (pc := 143) (v := 117) X dX6_mayStand_143 (by decide) ?_
            refine x_icmp_ne (pc := 145) X 152 dX6_mayStand_145 (by decide) (fun hc => ?_) (fun hc => ?_)
            · have h := xif hc h
              refine x_iconst (pc := 152) (v := 0) X dX6_mayStand_152 (by decide) ?_
              refine x_sub [] rfl ?_
              exact wX6_mayStand_L153 X hr hl F k hk _ _ h
            · have h := xit hc h
              refine x_sub [] rfl ?_
              exact wX6_mayStand_L148 X hr hl F k hk _ h
        · have h := xif hc h
          refine x_iload_n (pc := 110) X dX6_mayStand_110 rfl 1 rfl ?_
          refine x_bipush (pc := 111) (v := 46) X dX6_mayStand_111 (by decide) ?_
          refine x_icmp_eq (pc := 113) X 128 dX6_mayStand_113 (by decide) (fun hc => ?_) (fun hc => ?_)
          · have h := xit hc h
            refine x_sub [] rfl ?_
            exact wX6_mayStand_L128 X hr hl F k hk _ h
          · have h := xif hc h
            refine x_iload_n (pc := 116) X dX6_mayStand_116 rfl 1 rfl ?_
            refine x_bipush (pc := 117) (v := 97) X dX6_mayStand_117 (by decide) ?_
            refine x_icmp_lt (pc := 119) X 132 dX6_mayStand_119 (by decide) (fun hc => ?_) (fun hc => ?_)
            · have h := xit hc h
              refine x_sub [] rfl ?_
              exact wX6_mayStand_L132 X hr hl F k hk _ h
            · have h := xif hc h
              refine x_iload_n (pc := 122) X dX6_mayStand_122 rfl 1 rfl ?_
              refine x_bipush (pc := 123) (v := 104) X dX6_mayStand_123 (by decide) ?_
              refine x_icmp_gt (pc := 125) X 132 dX6_mayStand_125 (by decide) (fun hc => ?_) (fun hc => ?_)
              · have h := xit hc h
                refine x_sub [] rfl ?_
                exact wX6_mayStand_L132 X hr hl F k hk _ h
              · have h := xif hc h
                refine x_sub [] rfl ?_
                exact wX6_mayStand_L128 X hr hl F k hk _ h
      · have h := xif hs2 h
        refine x_tableOut (pc := 1) X 154 dX6_mayStand_1 (xsw3 hs0 hs1 hs2) (by decide) ?_
        refine x_iload_n (pc := 154) X dX6_mayStand_154 rfl 1 rfl ?_
        refine x_bipush (pc := 155) (v := 59) X dX6_mayStand_155 (by decide) ?_
        refine x_icmp_ne (pc := 157) X 164 dX6_mayStand_157 (by decide) (fun hc => ?_) (fun hc => ?_)
        · have h := xif hc h
          refine x_iconst (pc := 164) (v := 0) X dX6_mayStand_164 (by decide) ?_
          refine x_sub [] rfl ?_
          exact wX6_mayStand_L165 X hr hl F k hk _ _ h
        · have h := xit hc h
          refine x_iconst (pc := 160) (v := 1) X dX6_mayStand_160 (by decide) ?_
          refine x_goto (pc := 161) X 165 dX6_mayStand_161 (by decide) ?_
          refine x_sub [] rfl ?_
          exact wX6_mayStand_L165 X hr hl F k hk _ _ h
set_option maxRecDepth 100000 in
set_option maxHeartbeats 4000000 in
theorem wX6_faultPlace_L59 {p : Program} {l : Launch} {e : Env} {s : State} {m : MethodId} {args : Array Value} {below : List Frame} {meth : Method} {c : Code} {D : va_G} {A : Nat → Prop} {ad : Nat → Nat} {cI cX : ClassId} {r : Int32} {σ' : xSt} (X : xX p s m args c cX6_faultPlace 2 RX6 D (tyC cI cX) A (wC ad cI cX)) (hr : meth.sig.returnType = (some .int)) (hl : meth.locks = false) (F : Nat) (k : Nat) (hk : k < 2) (t0 : Int32) (σ : xSt) (h : mX6_faultPlace_L59 F k t0 σ = some (r, σ')) : xG p l e ({ frames := 1, cells := 0, slots := 0, locals := 22 }) s m args below meth c (MQ below (xQi D A (wC ad cI cX) r σ') args s 0 0 A) 2 D A (wC ad cI cX) σ 59 [] [.int t0] := by
  unfold mX6_faultPlace_L59 at h
  exact x_iret (pc := 59) X hr hl h dX6_faultPlace_59
set_option maxRecDepth 100000 in
set_option maxHeartbeats 4000000 in
theorem wX6_faultPlace_L51 {p : Program} {l : Launch} {e : Env} {s : State} {m : MethodId} {args : Array Value} {below : List Frame} {meth : Method} {c : Code} {D : va_G} {A : Nat → Prop} {ad : Nat → Nat} {cI cX : ClassId} {r : Int32} {σ' : xSt} (X : xX p s m args c cX6_faultPlace 2 RX6 D (tyC cI cX) A (wC ad cI cX)) (hr : meth.sig.returnType = (some .int)) (hl : meth.locks = false) (F : Nat) (k : Nat) (hk : k < 2) (σ : xSt) (h : mX6_faultPlace_L51 F k σ = some (r, σ')) : xG p l e ({ frames := 1, cells := 0, slots := 0, locals := 22 }) s m args below meth c (MQ below (xQi D A (wC ad cI cX) r σ') args s 0 0 A) 2 D A (wC ad cI cX) σ 51 [] [] := by
  unfold mX6_faultPlace_L51 at h
  refine x_iconst (pc := 51) (v := (-1)) X dX6_faultPlace_51 (by decide) ?_
  refine x_goto (pc := 52) X 59 dX6_faultPlace_52 (by decide) ?_
  refine x_sub [] rfl ?_
  exact wX6_faultPlace_L59 X hr hl F k hk _ _ h
set_option maxRecDepth 100000 in
set_option maxHeartbeats 4000000 in
theorem wX6_faultPlace_L34 {p : Program} {l : Launch} {e : Env} {s : State} {m : MethodId} {args : Array Value} {below : List Frame} {meth : Method} {c : Code} {D : va_G} {A : Nat → Prop} {ad : Nat → Nat} {cI cX : ClassId} {r : Int32} {σ' : xSt} (X : xX p s m args c cX6_faultPlace 2 RX6 D (tyC cI cX) A (wC ad cI cX)) (hr : meth.sig.returnType = (some .int)) (hl : meth.locks = false) (F : Nat) (k : Nat) (hk : k < 2) (σ : xSt) (h : mX6_faultPlace_L34 F k σ = some (r, σ')) : xG p l e ({ frames := 1, cells := 0, slots := 0, locals := 22 }) s m args below meth c (MQ below (xQi D A (wC ad cI cX) r σ') args s 0 0 A) 2 D A (wC ad cI cX) σ 34 [(0, .ref (ad (12 + k)))] [] := by
  unfold mX6_faultPlace_L34 at h
  refine x_aload_n (pc := 34) X dX6_faultPlace_34 rfl 0 rfl ?_
  refine gX6_9 (pc := 35) X k hk dX6_faultPlace_35 ?_
  refine x_if_eq (pc := 38) X 51 dX6_faultPlace_38 (by decide) (fun hc => ?_) (fun hc => ?_)
  · have h := xit hc h
    refine x_sub [] rfl ?_
    exact wX6_faultPlace_L51 X hr hl F k hk _ h
  · have h := xif hc h
    refine x_aload_n (pc := 41) X dX6_faultPlace_41 rfl 0 rfl ?_
    refine gX6_9 (pc := 42) X k hk dX6_faultPlace_42 ?_
    refine x_iconst (pc := 45) (v := 4) X dX6_faultPlace_45 (by decide) ?_
    obtain ⟨hb46, h⟩ := xck_some h
    refine x_irem (pc := 46) X dX6_faultPlace_46 (xnzI_n hb46) ?_
    refine x_iconst (pc := 47) (v := 3) X dX6_faultPlace_47 (by decide) ?_
    refine x_icmp_ne (pc := 48) X 55 dX6_faultPlace_48 (by decide) (fun hc => ?_) (fun hc => ?_)
    · have h := xif hc h
      refine x_aload_n (pc := 55) X dX6_faultPlace_55 rfl 0 rfl ?_
      refine gX6_9 (pc := 56) X k hk dX6_faultPlace_56 ?_
      refine x_sub [] rfl ?_
      exact wX6_faultPlace_L59 X hr hl F k hk _ _ h
    · have h := xit hc h
      refine x_sub [] rfl ?_
      exact wX6_faultPlace_L51 X hr hl F k hk _ h
set_option maxRecDepth 100000 in
set_option maxHeartbeats 4000000 in
theorem wX6_faultPlace_L26 {p : Program} {l : Launch} {e : Env} {s : State} {m : MethodId} {args : Array Value} {below : List Frame} {meth : Method} {c : Code} {D : va_G} {A : Nat → Prop} {ad : Nat → Nat} {cI cX : ClassId} {r : Int32} {σ' : xSt} (X : xX p s m args c cX6_faultPlace 2 RX6 D (tyC cI cX) A (wC ad cI cX)) (hr : meth.sig.returnType = (some .int)) (hl : meth.locks = false) (F : Nat) (k : Nat) (hk : k < 2) (v1 : Int32) (σ : xSt) (h : mX6_faultPlace_L26 F k v1 σ = some (r, σ')) : xG p l e ({ frames := 1, cells := 0, slots := 0, locals := 22 }) s m args below meth c (MQ below (xQi D A (wC ad cI cX) r σ') args s 0 0 A) 2 D A (wC ad cI cX) σ 26 [(1, .int v1)] [] := by
  unfold mX6_faultPlace_L26 at h
  refine x_iload_n (pc := 26) X dX6_faultPlace_26 rfl 0 rfl ?_
  exact x_iret (pc := 27) X hr hl h dX6_faultPlace_27
set_option maxRecDepth 100000 in
set_option maxHeartbeats 4000000 in
theorem wX6_faultPlace_S2 {p : Program} {l : Launch} {e : Env} {s : State} {m : MethodId} {args : Array Value} {below : List Frame} {meth : Method} {c : Code} {D : va_G} {A : Nat → Prop} {ad : Nat → Nat} {cI cX : ClassId} {r : Int32} {σ' : xSt} {c2 : Int32 → xSt → Option (Int32 × xSt)} (X : xX p s m args c cX6_faultPlace 2 RX6 D (tyC cI cX) A (wC ad cI cX)) (hr : meth.sig.returnType = (some .int)) (hl : meth.locks = false) (F : Nat) (k : Nat) (hk : k < 2) (hc2 : ∀ (v1 : Int32) (σ : xSt), c2 v1 σ = some (r, σ') → xG p l e ({ frames := 1, cells := 0, slots := 0, locals := 22 }) s m args below meth c (MQ below (xQi D A (wC ad cI cX) r σ') args s 0 0 A) 2 D A (wC ad cI cX) σ 2 [(0, .ref (ad (12 + k))), (1, .int v1)] []) (v1 : Int32) (σ : xSt) (h : mX6_faultPlace_S2 F k c2 v1 σ = some (r, σ')) : xG p l e ({ frames := 1, cells := 0, slots := 0, locals := 22 }) s m args below meth c (MQ below (xQi D A (wC ad cI cX) r σ') args s 0 0 A) 2 D A (wC ad cI cX) σ 2 [(0, .ref (ad (12 + k))), (1, .int v1)] [] := by
  unfold mX6_faultPlace_S2 at h
  refine x_iload_n (pc := 2) X dX6_faultPlace_2 rfl 1 rfl ?_
  refine x_aload_n (pc := 3) X dX6_faultPlace_3 rfl 0 rfl ?_
  refine gX6_9 (pc := 4) X k hk dX6_faultPlace_4 ?_
  refine x_icmp_ge (pc := 7) X 34 dX6_faultPlace_7 (by decide) (fun hc => ?_) (fun hc => ?_)
  · have h := xit hc h
    refine x_sub [0] rfl ?_
    exact wX6_faultPlace_L34 X hr hl F k hk _ h
  · have h := xif hc h
    refine x_aload_n (pc := 10) X dX6_faultPlace_10 rfl 0 rfl ?_
    refine x_aload_n (pc := 11) X dX6_faultPlace_11 rfl 0 rfl ?_
    refine gX6_22 (pc := 12) X k hk dX6_faultPlace_12 ?_
    refine x_iload_n (pc := 15) X dX6_faultPlace_15 rfl 1 rfl ?_
    obtain ⟨hb16, h⟩ := xck_some h
    refine x_iald (pc := 16) X (14 + k) 0 (qaX6_bytes k hk) rfl hb16 dX6_faultPlace_16 ?_
    refine x_iload_n (pc := 17) X dX6_faultPlace_17 rfl 1 rfl ?_
    refine x_iconst (pc := 18) (v := 4) X dX6_faultPlace_18 (by decide) ?_
    obtain ⟨hb19, h⟩ := xck_some h
    refine x_irem (pc := 19) X dX6_faultPlace_19 (xnzI_n hb19) ?_
    obtain ⟨r20, σ20, hq20, h⟩ := xb2_some h
    refine x_calliV (pc := 20) (As := [.int (xA σ (6 + k) (Int32.toNatClampNeg v1)), .int (v1 - v1 / 4 * 4)]) (rest := []) X (kX6_mayStand l X.2.2.2.2.2.2.2 F k hk _ _ _ _ _ hq20) kvX6_38 rfl (qX6 k hk) ⟨rfl, rfl, Nat.le_of_ble_eq_true rfl, Nat.le_of_ble_eq_true rfl⟩ rfl rfl (Nat.le_of_ble_eq_true rfl) dX6_faultPlace_20 ?_
    refine x_if_ne (pc := 23) X 28 dX6_faultPlace_23 (by decide) (fun hc => ?_) (fun hc => ?_)
    · have h := xif hc h
      refine x_iinc (pc := 28) (v := (v1 + 1)) (lv' := [(1, .int (v1 + 1)), (0, .ref (ad (12 + k)))]) X dX6_faultPlace_28 1 rfl rfl (by decide) rfl ?_
      refine x_goto (pc := 31) X 2 dX6_faultPlace_31 (by decide) ?_
      refine x_sub [1, 0] rfl ?_
      exact hc2 _ _ h
    · have h := xit hc h
      refine x_sub [1] rfl ?_
      exact wX6_faultPlace_L26 X hr hl F k hk _ _ h
theorem wX6_faultPlace_L2 {p : Program} {l : Launch} {e : Env} {s : State} {m : MethodId} {args : Array Value} {below : List Frame} {meth : Method} {c : Code} {D : va_G} {A : Nat → Prop} {ad : Nat → Nat} {cI cX : ClassId} {r : Int32} {σ' : xSt} (X : xX p s m args c cX6_faultPlace 2 RX6 D (tyC cI cX) A (wC ad cI cX)) (hr : meth.sig.returnType = (some .int)) (hl : meth.locks = false) (F : Nat) (k : Nat) (hk : k < 2) : ∀ (n : Nat) (v1 : Int32) (σ : xSt), mX6_faultPlace_L2 F k n v1 σ = some (r, σ') → xG p l e ({ frames := 1, cells := 0, slots := 0, locals := 22 }) s m args below meth c (MQ below (xQi D A (wC ad cI cX) r σ') args s 0 0 A) 2 D A (wC ad cI cX) σ 2 [(0, .ref (ad (12 + k))), (1, .int v1)] [] := by
  intro n
  induction n with
  | zero => intro v1 σ h; cases h
  | succ n ih => intro v1 σ h; exact wX6_faultPlace_S2 X hr hl F k hk ih v1 σ h
set_option maxRecDepth 100000 in
set_option maxHeartbeats 4000000 in
theorem kX6_faultPlace (l : Launch) {D : va_G} {A : Nat → Prop} {ad : Nat → Nat} {cI cX : ClassId} (hD : ∀ σ, va_D A ((wC ad cI cX) σ)) (F : Nat) (k : Nat) (hk : k < 2) (σ : xSt) (r : Int32) (σ' : xSt) (h : mX6_faultPlace F k σ = some (r, σ')) : xM l yX6_faultPlace cX6_faultPlace 2 (some .int) ({ frames := 1, cells := 0, slots := 0, locals := 22 }) D (tyC cI cX) A (wC ad cI cX) [.ref (ad (12 + k))] σ (xQi D A (wC ad cI cX) r σ') := by
  refine xM_of (lv := [(0, .ref (ad (12 + k)))]) [.ref (ad (12 + k))] (by decide) hD rfl (Nat.le_of_ble_eq_true rfl) ?_
  intro p e s m args below meth c X hr hl
  unfold mX6_faultPlace at h
  refine x_iconst (pc := 0) (v := 0) X dX6_faultPlace_0 (by decide) ?_
  refine x_istore_n (pc := 1) (lv' := [(1, .int 0), (0, .ref (ad (12 + k)))]) X dX6_faultPlace_1 rfl (by decide) rfl ?_
  refine x_sub [1, 0] rfl ?_
  exact wX6_faultPlace_L2 X hr hl F k hk F _ _ h
set_option maxRecDepth 100000 in
set_option maxHeartbeats 4000000 in
theorem wX6_smellOf_L31 {p : Program} {l : Launch} {e : Env} {s : State} {m : MethodId} {args : Array Value} {below : List Frame} {meth : Method} {c : Code} {D : va_G} {A : Nat → Prop} {ad : Nat → Nat} {cI cX : ClassId} {r : Int32} {σ' : xSt} (X : xX p s m args c cX6_smellOf 3 RX6 D (tyC cI cX) A (wC ad cI cX)) (hr : meth.sig.returnType = (some .int)) (hl : meth.locks = false) (F : Nat) (k : Nat) (hk : k < 2) (t0 : Int32) (σ : xSt) (h : mX6_smellOf_L31 F k t0 σ = some (r, σ')) : xG p l e ({ frames := 0, cells := 0, slots := 0, locals := 0 }) s m args below meth c (MQ below (xQi D A (wC ad cI cX) r σ') args s 0 0 A) 3 D A (wC ad cI cX) σ 31 [] [.int t0] := by
  unfold mX6_smellOf_L31 at h
  exact x_iret (pc := 31) X hr hl h dX6_smellOf_31
set_option maxRecDepth 100000 in
set_option maxHeartbeats 4000000 in
theorem wX6_smellOf_L30 {p : Program} {l : Launch} {e : Env} {s : State} {m : MethodId} {args : Array Value} {below : List Frame} {meth : Method} {c : Code} {D : va_G} {A : Nat → Prop} {ad : Nat → Nat} {cI cX : ClassId} {r : Int32} {σ' : xSt} (X : xX p s m args c cX6_smellOf 3 RX6 D (tyC cI cX) A (wC ad cI cX)) (hr : meth.sig.returnType = (some .int)) (hl : meth.locks = false) (F : Nat) (k : Nat) (hk : k < 2) (v1 : Int32) (σ : xSt) (h : mX6_smellOf_L30 F k v1 σ = some (r, σ')) : xG p l e ({ frames := 0, cells := 0, slots := 0, locals := 0 }) s m args below meth c (MQ below (xQi D A (wC ad cI cX) r σ') args s 0 0 A) 3 D A (wC ad cI cX) σ 30 [(1, .int v1)] [] := by
  unfold mX6_smellOf_L30 at h
  refine x_iload_n (pc := 30) X dX6_smellOf_30 rfl 0 rfl ?_
  refine x_sub [] rfl ?_
  exact wX6_smellOf_L31 X hr hl F k hk _ _ h
set_option maxRecDepth 100000 in
set_option maxHeartbeats 4000000 in
theorem kX6_smellOf (l : Launch) {D : va_G} {A : Nat → Prop} {ad : Nat → Nat} {cI cX : ClassId} (hD : ∀ σ, va_D A ((wC ad cI cX) σ)) (F : Nat) (k : Nat) (hk : k < 2) (v1 : Int32) (σ : xSt) (r : Int32) (σ' : xSt) (h : mX6_smellOf F k v1 σ = some (r, σ')) : xM l yX6_smellOf cX6_smellOf 3 (some .int) ({ frames := 0, cells := 0, slots := 0, locals := 0 }) D (tyC cI cX) A (wC ad cI cX) [.ref (ad (12 + k)), .int v1] σ (xQi D A (wC ad cI cX) r σ') := by
  refine xM_of (lv := [(0, .ref (ad (12 + k))), (1, .int v1)]) [.ref (ad (12 + k)), .int v1] (by decide) hD rfl (Nat.le_of_ble_eq_true rfl) ?_
  intro p e s m args below meth c X hr hl
  unfold mX6_smellOf at h
  refine x_aload_n (pc := 0) X dX6_smellOf_0 rfl 0 rfl ?_
  refine gX6_22 (pc := 1) X k hk dX6_smellOf_1 ?_
  refine x_iconst (pc := 4) (v := 4) X dX6_smellOf_4 (by decide) ?_
  refine x_iload_n (pc := 5) X dX6_smellOf_5 rfl 1 rfl ?_
  refine x_imul (pc := 6) X dX6_smellOf_6 ?_
  refine x_iconst (pc := 7) (v := 2) X dX6_smellOf_7 (by decide) ?_
  refine x_iadd (pc := 8) X dX6_smellOf_8 ?_
  obtain ⟨hb9, h⟩ := xck_some h
  refine x_iald (pc := 9) X (14 + k) 0 (qaX6_bytes k hk) rfl hb9 dX6_smellOf_9 ?_
  refine x_bipush (pc := 10) (v := 97) X dX6_smellOf_10 (by decide) ?_
  refine x_isub (pc := 12) X dX6_smellOf_12 ?_
  refine x_istore_n (pc := 13) (lv' := [(2, .int ((xA σ (6 + k) (Int32.toNatClampNeg ((4 * v1) + 2))) - 97)), (0, .ref (ad (12 + k))), (1, .int v1)]) X dX6_smellOf_13 rfl (by decide) rfl ?_
  refine x_iload_n (pc := 14) X dX6_smellOf_14 rfl 0 rfl ?_
  refine x_if_lt (pc := 15) X 30 dX6_smellOf_15 (by decide) (fun hc => ?_) (fun hc => ?_)
  · have h := xit hc h
    refine x_sub [2] rfl ?_
    exact wX6_smellOf_L30 X hr hl F k hk _ _ h
  · have h := xif hc h
    refine x_iload_n (pc := 18) X dX6_smellOf_18 rfl 0 rfl ?_
    refine x_aload_n (pc := 19) X dX6_smellOf_19 rfl 1 rfl ?_
    refine gX6_15 (pc := 20) X k hk dX6_smellOf_20 ?_
    refine x_icmp_ge (pc := 23) X 30 dX6_smellOf_23 (by decide) (fun hc => ?_) (fun hc => ?_)
    · have h := xit hc h
      refine x_sub [2] rfl ?_
      exact wX6_smellOf_L30 X hr hl F k hk _ _ h
    · have h := xif hc h
      refine x_iload_n (pc := 26) X dX6_smellOf_26 rfl 0 rfl ?_
      refine x_goto (pc := 27) X 31 dX6_smellOf_27 (by decide) ?_
      refine x_sub [] rfl ?_
      exact wX6_smellOf_L31 X hr hl F k hk _ _ h
set_option maxRecDepth 100000 in
set_option maxHeartbeats 4000000 in
theorem wX6_parse_L117 {p : Program} {l : Launch} {e : Env} {s : State} {m : MethodId} {args : Array Value} {below : List Frame} {meth : Method} {c : Code} {D : va_G} {A : Nat → Prop} {ad : Nat → Nat} {cI cX : ClassId} {σ' : xSt} (X : xX p s m args c cX6_parse 2 RX6 D (tyC cI cX) A (wC ad cI cX)) (hr : meth.sig.returnType = none) (hl : meth.locks = false) (F : Nat) (k : Nat) (hk : k < 2) (σ : xSt) (h : mX6_parse_L117 F k σ = some σ') : xG p l e ({ frames := 2, cells := 0, slots := 0, locals := 43 }) s m args below meth c (MQ below (xQv D A (wC ad cI cX) σ') args s 0 0 A) 2 D A (wC ad cI cX) σ 117 [] [] := by
  unfold mX6_parse_L117 at h
  exact x_vret (pc := 117) X hr hl h dX6_parse_117
set_option maxRecDepth 100000 in
set_option maxHeartbeats 4000000 in
theorem wX6_parse_L110 {p : Program} {l : Launch} {e : Env} {s : State} {m : MethodId} {args : Array Value} {below : List Frame} {meth : Method} {c : Code} {D : va_G} {A : Nat → Prop} {ad : Nat → Nat} {cI cX : ClassId} {σ' : xSt} {c26 : Int32 → xSt → Option (xSt)} (X : xX p s m args c cX6_parse 2 RX6 D (tyC cI cX) A (wC ad cI cX)) (hr : meth.sig.returnType = none) (hl : meth.locks = false) (F : Nat) (k : Nat) (hk : k < 2) (hc26 : ∀ (v1 : Int32) (σ : xSt), c26 v1 σ = some σ' → xG p l e ({ frames := 2, cells := 0, slots := 0, locals := 43 }) s m args below meth c (MQ below (xQv D A (wC ad cI cX) σ') args s 0 0 A) 2 D A (wC ad cI cX) σ 26 [(0, .ref (ad (12 + k))), (1, .int v1)] []) (v1 : Int32) (t1 : Int32) (t2 : Int32) (σ : xSt) (h : mX6_parse_L110 F k c26 v1 t1 t2 σ = some σ') : xG p l e ({ frames := 2, cells := 0, slots := 0, locals := 43 }) s m args below meth c (MQ below (xQv D A (wC ad cI cX) σ') args s 0 0 A) 2 D A (wC ad cI cX) σ 110 [(0, .ref (ad (12 + k))), (1, .int v1)] [.int t2, .int t1, .ref (ad (20 + k))] := by
  unfold mX6_parse_L110 at h
  obtain ⟨hb110, h⟩ := xck_some h
  refine x_iast (pc := 110) (σ' := (xsA σ (12 + k) (Int32.toNatClampNeg t1) t2)) X (20 + k) 0 (qaX6_third k hk) rfl (saX6_third _ k hk) hb110 dX6_parse_110 ?_
  refine x_iinc (pc := 111) (v := (v1 + 1)) (lv' := [(1, .int (v1 + 1)), (0, .ref (ad (12 + k)))]) X dX6_parse_111 1 rfl rfl (by decide) rfl ?_
  refine x_goto (pc := 114) X 26 dX6_parse_114 (by decide) ?_
  refine x_sub [1, 0] rfl ?_
  exact hc26 _ _ h
set_option maxRecDepth 100000 in
set_option maxHeartbeats 4000000 in
theorem wX6_parse_S26 {p : Program} {l : Launch} {e : Env} {s : State} {m : MethodId} {args : Array Value} {below : List Frame} {meth : Method} {c : Code} {D : va_G} {A : Nat → Prop} {ad : Nat → Nat} {cI cX : ClassId} {σ' : xSt} {c26 : Int32 → xSt → Option (xSt)} (X : xX p s m args c cX6_parse 2 RX6 D (tyC cI cX) A (wC ad cI cX)) (hr : meth.sig.returnType = none) (hl : meth.locks = false) (F : Nat) (k : Nat) (hk : k < 2) (hc26 : ∀ (v1 : Int32) (σ : xSt), c26 v1 σ = some σ' → xG p l e ({ frames := 2, cells := 0, slots := 0, locals := 43 }) s m args below meth c (MQ below (xQv D A (wC ad cI cX) σ') args s 0 0 A) 2 D A (wC ad cI cX) σ 26 [(0, .ref (ad (12 + k))), (1, .int v1)] []) (v1 : Int32) (σ : xSt) (h : mX6_parse_S26 F k c26 v1 σ = some σ') : xG p l e ({ frames := 2, cells := 0, slots := 0, locals := 43 }) s m args below meth c (MQ below (xQv D A (wC ad cI cX) σ') args s 0 0 A) 2 D A (wC ad cI cX) σ 26 [(0, .ref (ad (12 + k))), (1, .int v1)] [] := by
  unfold mX6_parse_S26 at h
  refine x_iload_n (pc := 26) X dX6_parse_26 rfl 1 rfl ?_
  refine x_aload_n (pc := 27) X dX6_parse_27 rfl 0 rfl ?_
  refine gX6_15 (pc := 28) X k hk dX6_parse_28 ?_
  refine x_icmp_ge (pc := 31) X 117 dX6_parse_31 (by decide) (fun hc => ?_) (fun hc => ?_)
  · have h := xit hc h
    refine x_sub [] rfl ?_
    exact wX6_parse_L117 X hr hl F k hk _ h
  · have h := xif hc h
    refine x_aload_n (pc := 34) X dX6_parse_34 rfl 0 rfl ?_
    refine gX6_26 (pc := 35) X k hk dX6_parse_35 ?_
    refine x_iload_n (pc := 38) X dX6_parse_38 rfl 1 rfl ?_
    refine x_aload_n (pc := 39) X dX6_parse_39 rfl 0 rfl ?_
    refine gX6_22 (pc := 40) X k hk dX6_parse_40 ?_
    refine x_iconst (pc := 43) (v := 4) X dX6_parse_43 (by decide) ?_
    refine x_iload_n (pc := 44) X dX6_parse_44 rfl 1 rfl ?_
    refine x_imul (pc := 45) X dX6_parse_45 ?_
    obtain ⟨hb46, h⟩ := xck_some h
    refine x_iald (pc := 46) X (14 + k) 0 (qaX6_bytes k hk) rfl hb46 dX6_parse_46 ?_
    refine x_bipush (pc := 47) (v := 48) X dX6_parse_47 (by decide) ?_
    refine x_isub (pc := 49) X dX6_parse_49 ?_
    obtain ⟨hb50, h⟩ := xck_some h
    refine x_iast (pc := 50) (σ' := (xsA σ (8 + k) (Int32.toNatClampNeg v1) ((xA σ (6 + k) (Int32.toNatClampNeg (4 * v1))) - 48))) X (16 + k) 0 (qaX6_first k hk) rfl (saX6_first _ k hk) hb50 dX6_parse_50 ?_
    refine x_aload_n (pc := 51) X dX6_parse_51 rfl 0 rfl ?_
    refine gX6_29 (pc := 52) X k hk dX6_parse_52 ?_
    refine x_iload_n (pc := 55) X dX6_parse_55 rfl 1 rfl ?_
    refine x_aload_n (pc := 56) X dX6_parse_56 rfl 0 rfl ?_
    refine gX6_22 (pc := 57) X k hk dX6_parse_57 ?_
    refine x_iconst (pc := 60) (v := 4) X dX6_parse_60 (by decide) ?_
    refine x_iload_n (pc := 61) X dX6_parse_61 rfl 1 rfl ?_
    refine x_imul (pc := 62) X dX6_parse_62 ?_
    refine x_iconst (pc := 63) (v := 1) X dX6_parse_63 (by decide) ?_
    refine x_iadd (pc := 64) X dX6_parse_64 ?_
    obtain ⟨hb65, h⟩ := xck_some h
    refine x_iald (pc := 65) X (14 + k) 0 (qaX6_bytes k hk) rfl hb65 dX6_parse_65 ?_
    refine x_bipush (pc := 66) (v := 48) X dX6_parse_66 (by decide) ?_
    refine x_isub (pc := 68) X dX6_parse_68 ?_
    obtain ⟨hb69, h⟩ := xck_some h
    refine x_iast (pc := 69) (σ' := (xsA (xsA σ (8 + k) (Int32.toNatClampNeg v1) ((xA σ (6 + k) (Int32.toNatClampNeg (4 * v1))) - 48)) (10 + k) (Int32.toNatClampNeg v1) ((xA (xsA σ (8 + k) (Int32.toNatClampNeg v1) ((xA σ (6 + k) (Int32.toNatClampNeg (4 * v1))) - 48)) (6 + k) (Int32.toNatClampNeg ((4 * v1) + 1))) - 48))) X (18 + k) 0 (qaX6_second k hk) rfl (saX6_second _ k hk) hb69 dX6_parse_69 ?_
    refine x_aload_n (pc := 70) X dX6_parse_70 rfl 0 rfl ?_
    refine gX6_32 (pc := 71) X k hk dX6_parse_71 ?_
    refine x_iload_n (pc := 74) X dX6_parse_74 rfl 1 rfl ?_
    refine x_aload_n (pc := 75) X dX6_parse_75 rfl 0 rfl ?_
    refine gX6_18 (pc := 76) X k hk dX6_parse_76 ?_
    refine x_if_eq (pc := 79) X 90 dX6_parse_79 (by decide) (fun hc => ?_) (fun hc => ?_)
    · have h := xit hc h
      refine x_aload_n (pc := 90) X dX6_parse_90 rfl 0 rfl ?_
      refine gX6_22 (pc := 91) X k hk dX6_parse_91 ?_
      refine x_iconst (pc := 94) (v := 4) X dX6_parse_94 (by decide) ?_
      refine x_iload_n (pc := 95) X dX6_parse_95 rfl 1 rfl ?_
      refine x_imul (pc := 96) X dX6_parse_96 ?_
      refine x_iconst (pc := 97) (v := 2) X dX6_parse_97 (by decide) ?_
      refine x_iadd (pc := 98) X dX6_parse_98 ?_
      obtain ⟨hb99, h⟩ := xck_some h
      refine x_iald (pc := 99) X (14 + k) 0 (qaX6_bytes k hk) rfl hb99 dX6_parse_99 ?_
      refine x_bipush (pc := 100) (v := 117) X dX6_parse_100 (by decide) ?_
      refine x_icmp_ne (pc := 102) X 109 dX6_parse_102 (by decide) (fun hc => ?_) (fun hc => ?_)
      · have h := xif hc h
        refine x_iconst (pc := 109) (v := 0) X dX6_parse_109 (by decide) ?_
        refine x_sub [0, 1] rfl ?_
        exact wX6_parse_L110 X hr hl F k hk hc26 _ _ _ _ h
      · have h := xit hc h
        refine x_iconst (pc := 105) (v := 1) X dX6_parse_105 (by decide) ?_
        refine x_goto (pc := 106) X 110 dX6_parse_106 (by decide) ?_
        refine x_sub [0, 1] rfl ?_
        exact wX6_parse_L110 X hr hl F k hk hc26 _ _ _ _ h
    · have h := xif hc h
      refine x_aload_n (pc := 82) X dX6_parse_82 rfl 0 rfl ?_
      refine x_iload_n (pc := 83) X dX6_parse_83 rfl 1 rfl ?_
      obtain ⟨r84, σ84, hq84, h⟩ := xb2_some h
      refine x_calliV (pc := 84) (As := [.int v1]) (rest := [.int v1, .ref (ad (20 + k))]) X (kX6_smellOf l X.2.2.2.2.2.2.2 F k hk _ _ _ _ hq84) kvX6_46 rfl (qX6 k hk) ⟨rfl, rfl, Nat.le_of_ble_eq_true rfl, Nat.le_of_ble_eq_true rfl⟩ rfl rfl (Nat.le_of_ble_eq_true rfl) dX6_parse_84 ?_
      refine x_goto (pc := 87) X 110 dX6_parse_87 (by decide) ?_
      refine x_sub [0, 1] rfl ?_
      exact wX6_parse_L110 X hr hl F k hk hc26 _ _ _ _ h
theorem wX6_parse_L26 {p : Program} {l : Launch} {e : Env} {s : State} {m : MethodId} {args : Array Value} {below : List Frame} {meth : Method} {c : Code} {D : va_G} {A : Nat → Prop} {ad : Nat → Nat} {cI cX : ClassId} {σ' : xSt} (X : xX p s m args c cX6_parse 2 RX6 D (tyC cI cX) A (wC ad cI cX)) (hr : meth.sig.returnType = none) (hl : meth.locks = false) (F : Nat) (k : Nat) (hk : k < 2) : ∀ (n : Nat) (v1 : Int32) (σ : xSt), mX6_parse_L26 F k n v1 σ = some σ' → xG p l e ({ frames := 2, cells := 0, slots := 0, locals := 43 }) s m args below meth c (MQ below (xQv D A (wC ad cI cX) σ') args s 0 0 A) 2 D A (wC ad cI cX) σ 26 [(0, .ref (ad (12 + k))), (1, .int v1)] [] := by
  intro n
  induction n with
  | zero => intro v1 σ h; cases h
  | succ n ih => intro v1 σ h; exact wX6_parse_S26 X hr hl F k hk ih v1 σ h
set_option maxRecDepth 100000 in
set_option maxHeartbeats 4000000 in
theorem wX6_parse_L21 {p : Program} {l : Launch} {e : Env} {s : State} {m : MethodId} {args : Array Value} {below : List Frame} {meth : Method} {c : Code} {D : va_G} {A : Nat → Prop} {ad : Nat → Nat} {cI cX : ClassId} {σ' : xSt} (X : xX p s m args c cX6_parse 2 RX6 D (tyC cI cX) A (wC ad cI cX)) (hr : meth.sig.returnType = none) (hl : meth.locks = false) (F : Nat) (k : Nat) (hk : k < 2) (t1 : Int32) (σ : xSt) (h : mX6_parse_L21 F k t1 σ = some σ') : xG p l e ({ frames := 2, cells := 0, slots := 0, locals := 43 }) s m args below meth c (MQ below (xQv D A (wC ad cI cX) σ') args s 0 0 A) 2 D A (wC ad cI cX) σ 21 [(0, .ref (ad (12 + k)))] [.int t1, .ref (ad (12 + k))] := by
  unfold mX6_parse_L21 at h
  refine uX6_15 (pc := 21) X k hk dX6_parse_21 ?_
  refine x_iconst (pc := 24) (v := 0) X dX6_parse_24 (by decide) ?_
  refine x_istore_n (pc := 25) (lv' := [(1, .int 0), (0, .ref (ad (12 + k)))]) X dX6_parse_25 rfl (by decide) rfl ?_
  refine x_sub [1, 0] rfl ?_
  exact wX6_parse_L26 X hr hl F k hk F _ _ h
set_option maxRecDepth 100000 in
set_option maxHeartbeats 4000000 in
theorem kX6_parse (l : Launch) {D : va_G} {A : Nat → Prop} {ad : Nat → Nat} {cI cX : ClassId} (hD : ∀ σ, va_D A ((wC ad cI cX) σ)) (F : Nat) (k : Nat) (hk : k < 2) (σ : xSt) (σ' : xSt) (h : mX6_parse F k σ = some σ') : xM l yX6_parse cX6_parse 2 none ({ frames := 2, cells := 0, slots := 0, locals := 43 }) D (tyC cI cX) A (wC ad cI cX) [.ref (ad (12 + k))] σ (xQv D A (wC ad cI cX) σ') := by
  refine xM_of (lv := [(0, .ref (ad (12 + k)))]) [.ref (ad (12 + k))] (by decide) hD rfl (Nat.le_of_ble_eq_true rfl) ?_
  intro p e s m args below meth c X hr hl
  unfold mX6_parse at h
  refine x_aload_n (pc := 0) X dX6_parse_0 rfl 0 rfl ?_
  refine x_aload_n (pc := 1) X dX6_parse_1 rfl 0 rfl ?_
  obtain ⟨r2, σ2, hq2, h⟩ := xb2_some h
  refine x_calliV (pc := 2) (As := []) (rest := [.ref (ad (12 + k))]) X (kX6_faultPlace l X.2.2.2.2.2.2.2 F k hk _ _ _ hq2) kvX6_42 rfl (qX6 k hk) ⟨rfl, rfl, Nat.le_of_ble_eq_true rfl, Nat.le_of_ble_eq_true rfl⟩ rfl rfl (Nat.le_of_ble_eq_true rfl) dX6_parse_2 ?_
  refine x_iconst (pc := 5) (v := (-1)) X dX6_parse_5 (by decide) ?_
  refine x_icmp_ne (pc := 6) X 20 dX6_parse_6 (by decide) (fun hc => ?_) (fun hc => ?_)
  · have h := xif hc h
    refine x_iconst (pc := 20) (v := 0) X dX6_parse_20 (by decide) ?_
    refine x_sub [0] rfl ?_
    exact wX6_parse_L21 X hr hl F k hk _ _ h
  · have h := xit hc h
    refine x_aload_n (pc := 9) X dX6_parse_9 rfl 0 rfl ?_
    refine gX6_9 (pc := 10) X k hk dX6_parse_10 ?_
    refine x_iconst (pc := 13) (v := 1) X dX6_parse_13 (by decide) ?_
    refine x_iadd (pc := 14) X dX6_parse_14 ?_
    refine x_iconst (pc := 15) (v := 4) X dX6_parse_15 (by decide) ?_
    obtain ⟨hb16, h⟩ := xck_some h
    refine x_idiv (pc := 16) X dX6_parse_16 (xnzI_n hb16) ?_
    refine x_goto (pc := 17) X 21 dX6_parse_17 (by decide) ?_
    refine x_sub [0] rfl ?_
    exact wX6_parse_L21 X hr hl F k hk _ _ h
set_option maxRecDepth 100000 in
set_option maxHeartbeats 4000000 in
theorem wX6_append_L36 {p : Program} {l : Launch} {e : Env} {s : State} {m : MethodId} {args : Array Value} {below : List Frame} {meth : Method} {c : Code} {D : va_G} {A : Nat → Prop} {ad : Nat → Nat} {cI cX : ClassId} {σ' : xSt} (X : xX p s m args c cX6_append 2 RX6 D (tyC cI cX) A (wC ad cI cX)) (hr : meth.sig.returnType = none) (hl : meth.locks = false) (F : Nat) (k : Nat) (hk : k < 2) (σ : xSt) (h : mX6_append_L36 F k σ = some σ') : xG p l e ({ frames := 3, cells := 0, slots := 0, locals := 64 }) s m args below meth c (MQ below (xQv D A (wC ad cI cX) σ') args s 0 0 A) 2 D A (wC ad cI cX) σ 36 [] [] := by
  unfold mX6_append_L36 at h
  exact x_vret (pc := 36) X hr hl h dX6_append_36
set_option maxRecDepth 100000 in
set_option maxHeartbeats 4000000 in
theorem kX6_append (l : Launch) {D : va_G} {A : Nat → Prop} {ad : Nat → Nat} {cI cX : ClassId} (hD : ∀ σ, va_D A ((wC ad cI cX) σ)) (F : Nat) (k : Nat) (hk : k < 2) (v1 : Int32) (σ : xSt) (σ' : xSt) (h : mX6_append F k v1 σ = some σ') : xM l yX6_append cX6_append 2 none ({ frames := 3, cells := 0, slots := 0, locals := 64 }) D (tyC cI cX) A (wC ad cI cX) [.ref (ad (12 + k)), .int v1] σ (xQv D A (wC ad cI cX) σ') := by
  refine xM_of (lv := [(0, .ref (ad (12 + k))), (1, .int v1)]) [.ref (ad (12 + k)), .int v1] (by decide) hD rfl (Nat.le_of_ble_eq_true rfl) ?_
  intro p e s m args below meth c X hr hl
  unfold mX6_append at h
  refine x_aload_n (pc := 0) X dX6_append_0 rfl 0 rfl ?_
  refine gX6_9 (pc := 1) X k hk dX6_append_1 ?_
  refine x_aload_n (pc := 4) X dX6_append_4 rfl 0 rfl ?_
  refine gX6_22 (pc := 5) X k hk dX6_append_5 ?_
  refine x_alen (pc := 8) X (14 + k) 0 (qaX6_bytes k hk) rfl rfl dX6_append_8 ?_
  refine x_icmp_ge (pc := 9) X 36 dX6_append_9 (by decide) (fun hc => ?_) (fun hc => ?_)
  · have h := xit hc h
    refine x_sub [] rfl ?_
    exact wX6_append_L36 X hr hl F k hk _ h
  · have h := xif hc h
    refine x_aload_n (pc := 12) X dX6_append_12 rfl 0 rfl ?_
    refine gX6_22 (pc := 13) X k hk dX6_append_13 ?_
    refine x_aload_n (pc := 16) X dX6_append_16 rfl 0 rfl ?_
    refine gX6_9 (pc := 17) X k hk dX6_append_17 ?_
    refine x_iload_n (pc := 20) X dX6_append_20 rfl 1 rfl ?_
    obtain ⟨hb21, h⟩ := xck_some h
    refine x_iast (pc := 21) (σ' := (xsA σ (6 + k) (Int32.toNatClampNeg (xI σ (10 + k))) v1)) X (14 + k) 0 (qaX6_bytes k hk) rfl (saX6_bytes _ k hk) hb21 dX6_append_21 ?_
    refine x_aload_n (pc := 22) X dX6_append_22 rfl 0 rfl ?_
    refine x_dup (pc := 23) X dX6_append_23 rfl ?_
    refine gX6_9 (pc := 24) X k hk dX6_append_24 ?_
    refine x_iconst (pc := 27) (v := 1) X dX6_append_27 (by decide) ?_
    refine x_iadd (pc := 28) X dX6_append_28 ?_
    refine uX6_9 (pc := 29) X k hk dX6_append_29 ?_
    refine x_aload_n (pc := 32) X dX6_append_32 rfl 0 rfl ?_
    obtain ⟨σ33, hq33, h⟩ := xb1_some h
    refine x_callvV (pc := 33) (As := []) (rest := []) X (kX6_parse l X.2.2.2.2.2.2.2 F k hk _ _ hq33) kvX6_35 rfl (qX6 k hk) ⟨rfl, rfl, Nat.le_of_ble_eq_true rfl, Nat.le_of_ble_eq_true rfl⟩ rfl rfl (Nat.le_of_ble_eq_true rfl) dX6_append_33 ?_
    refine x_sub [] rfl ?_
    exact wX6_append_L36 X hr hl F k hk _ h
set_option maxRecDepth 100000 in
set_option maxHeartbeats 4000000 in
theorem kX6_shorten (l : Launch) {D : va_G} {A : Nat → Prop} {ad : Nat → Nat} {cI cX : ClassId} (hD : ∀ σ, va_D A ((wC ad cI cX) σ)) (F : Nat) (k : Nat) (hk : k < 2) (v1 : Int32) (σ : xSt) (σ' : xSt) (h : mX6_shorten F k v1 σ = some σ') : xM l yX6_shorten cX6_shorten 2 none ({ frames := 3, cells := 0, slots := 0, locals := 64 }) D (tyC cI cX) A (wC ad cI cX) [.ref (ad (12 + k)), .int v1] σ (xQv D A (wC ad cI cX) σ') := by
  refine xM_of (lv := [(0, .ref (ad (12 + k))), (1, .int v1)]) [.ref (ad (12 + k)), .int v1] (by decide) hD rfl (Nat.le_of_ble_eq_true rfl) ?_
  intro p e s m args below meth c X hr hl
  unfold mX6_shorten at h
  refine x_aload_n (pc := 0) X dX6_shorten_0 rfl 0 rfl ?_
  refine x_iload_n (pc := 1) X dX6_shorten_1 rfl 1 rfl ?_
  refine uX6_9 (pc := 2) X k hk dX6_shorten_2 ?_
  refine x_aload_n (pc := 5) X dX6_shorten_5 rfl 0 rfl ?_
  obtain ⟨σ6, hq6, h⟩ := xb1_some h
  refine x_callvV (pc := 6) (As := []) (rest := []) X (kX6_parse l X.2.2.2.2.2.2.2 F k hk _ _ hq6) kvX6_35 rfl (qX6 k hk) ⟨rfl, rfl, Nat.le_of_ble_eq_true rfl, Nat.le_of_ble_eq_true rfl⟩ rfl rfl (Nat.le_of_ble_eq_true rfl) dX6_shorten_6 ?_
  exact x_vret (pc := 9) X hr hl h dX6_shorten_9
set_option maxRecDepth 100000 in
set_option maxHeartbeats 4000000 in
theorem wX6_part_L12 {p : Program} {l : Launch} {e : Env} {s : State} {m : MethodId} {args : Array Value} {below : List Frame} {meth : Method} {c : Code} {D : va_G} {A : Nat → Prop} {ad : Nat → Nat} {cI cX : ClassId} {r : Int32} {σ' : xSt} (X : xX p s m args c cX6_part 3 RX6 D (tyC cI cX) A (wC ad cI cX)) (hr : meth.sig.returnType = (some .int)) (hl : meth.locks = false) (F : Nat) (k : Nat) (hk : k < 2) (σ : xSt) (h : mX6_part_L12 F k σ = some (r, σ')) : xG p l e ({ frames := 0, cells := 0, slots := 0, locals := 0 }) s m args below meth c (MQ below (xQi D A (wC ad cI cX) r σ') args s 0 0 A) 3 D A (wC ad cI cX) σ 12 [] [] := by
  unfold mX6_part_L12 at h
  refine x_bipush (pc := 12) (v := (-2)) X dX6_part_12 (by decide) ?_
  exact x_iret (pc := 14) X hr hl h dX6_part_14
set_option maxRecDepth 100000 in
set_option maxHeartbeats 4000000 in
theorem kX6_part (l : Launch) {D : va_G} {A : Nat → Prop} {ad : Nat → Nat} {cI cX : ClassId} (hD : ∀ σ, va_D A ((wC ad cI cX) σ)) (F : Nat) (k : Nat) (hk : k < 2) (v1 : Int32) (v2 : Int32) (σ : xSt) (r : Int32) (σ' : xSt) (h : mX6_part F k v1 v2 σ = some (r, σ')) : xM l yX6_part cX6_part 3 (some .int) ({ frames := 0, cells := 0, slots := 0, locals := 0 }) D (tyC cI cX) A (wC ad cI cX) [.ref (ad (12 + k)), .int v1, .int v2] σ (xQi D A (wC ad cI cX) r σ') := by
  refine xM_of (lv := [(0, .ref (ad (12 + k))), (1, .int v1), (2, .int v2)]) [.ref (ad (12 + k)), .int v1, .int v2] (by decide) hD rfl (Nat.le_of_ble_eq_true rfl) ?_
  intro p e s m args below meth c X hr hl
  unfold mX6_part at h
  refine x_iload_n (pc := 0) X dX6_part_0 rfl 1 rfl ?_
  refine x_if_lt (pc := 1) X 12 dX6_part_1 (by decide) (fun hc => ?_) (fun hc => ?_)
  · have h := xit hc h
    refine x_sub [] rfl ?_
    exact wX6_part_L12 X hr hl F k hk _ h
  · have h := xif hc h
    refine x_iload_n (pc := 4) X dX6_part_4 rfl 1 rfl ?_
    refine x_aload_n (pc := 5) X dX6_part_5 rfl 0 rfl ?_
    refine gX6_15 (pc := 6) X k hk dX6_part_6 ?_
    refine x_icmp_lt (pc := 9) X 15 dX6_part_9 (by decide) (fun hc => ?_) (fun hc => ?_)
    · have h := xit hc h
      refine x_iload_n (pc := 15) X dX6_part_15 rfl 2 rfl ?_
      rcases Decidable.em (v2 = 0) with hs0 | hs0
      · have h := xit hs0 h
        refine x_tableIn (pc := 16) X 44 dX6_part_16 (by rw [hs0]; decide) (by rw [hs0]; decide) (by rw [hs0]; rfl) (by decide) ?_
        refine x_aload_n (pc := 44) X dX6_part_44 rfl 0 rfl ?_
        refine gX6_26 (pc := 45) X k hk dX6_part_45 ?_
        refine x_iload_n (pc := 48) X dX6_part_48 rfl 1 rfl ?_
        obtain ⟨hb49, h⟩ := xck_some h
        refine x_iald (pc := 49) X (16 + k) 0 (qaX6_first k hk) rfl hb49 dX6_part_49 ?_
        exact x_iret (pc := 50) X hr hl h dX6_part_50
      · have h := xif hs0 h
        rcases Decidable.em (v2 = 1) with hs1 | hs1
        · have h := xit hs1 h
          refine x_tableIn (pc := 16) X 51 dX6_part_16 (by rw [hs1]; decide) (by rw [hs1]; decide) (by rw [hs1]; rfl) (by decide) ?_
          refine x_aload_n (pc := 51) X dX6_part_51 rfl 0 rfl ?_
          refine gX6_29 (pc := 52) X k hk dX6_part_52 ?_
          refine x_iload_n (pc := 55) X dX6_part_55 rfl 1 rfl ?_
          obtain ⟨hb56, h⟩ := xck_some h
          refine x_iald (pc := 56) X (18 + k) 0 (qaX6_second k hk) rfl hb56 dX6_part_56 ?_
          exact x_iret (pc := 57) X hr hl h dX6_part_57
        · have h := xif hs1 h
          rcases Decidable.em (v2 = 2) with hs2 | hs2
          · have h := xit hs2 h
            refine x_tableIn (pc := 16) X 58 dX6_part_16 (by rw [hs2]; decide) (by rw [hs2]; decide) (by rw [hs2]; rfl) (by decide) ?_
            refine x_aload_n (pc := 58) X dX6_part_58 rfl 0 rfl ?_
            refine gX6_32 (pc := 59) X k hk dX6_part_59 ?_
            refine x_iload_n (pc := 62) X dX6_part_62 rfl 1 rfl ?_
            obtain ⟨hb63, h⟩ := xck_some h
            refine x_iald (pc := 63) X (20 + k) 0 (qaX6_third k hk) rfl hb63 dX6_part_63 ?_
            exact x_iret (pc := 64) X hr hl h dX6_part_64
          · have h := xif hs2 h
            refine x_tableOut (pc := 16) X 65 dX6_part_16 (xsw3 hs0 hs1 hs2) (by decide) ?_
            refine x_bipush (pc := 65) (v := (-2)) X dX6_part_65 (by decide) ?_
            exact x_iret (pc := 67) X hr hl h dX6_part_67
    · have h := xif hc h
      refine x_sub [] rfl ?_
      exact wX6_part_L12 X hr hl F k hk _ h
set_option maxRecDepth 100000 in
set_option maxHeartbeats 4000000 in
theorem wX7_isFull_L16 {p : Program} {l : Launch} {e : Env} {s : State} {m : MethodId} {args : Array Value} {below : List Frame} {meth : Method} {c : Code} {D : va_G} {A : Nat → Prop} {ad : Nat → Nat} {cI cX : ClassId} {r : Int32} {σ' : xSt} (X : xX p s m args c cX7_isFull 1 RX7 D (tyC cI cX) A (wC ad cI cX)) (hr : meth.sig.returnType = (some .boolean)) (hl : meth.locks = false) (F : Nat) (k : Nat) (hk : k < 3) (t0 : Int32) (σ : xSt) (h : mX7_isFull_L16 F k t0 σ = some (r, σ')) : xG p l e ({ frames := 0, cells := 0, slots := 0, locals := 0 }) s m args below meth c (MQ below (xQi D A (wC ad cI cX) r σ') args s 0 0 A) 1 D A (wC ad cI cX) σ 16 [] [.int t0] := by
  unfold mX7_isFull_L16 at h
  obtain ⟨hb16, h⟩ := xck_some h
  exact x_zret (pc := 16) X hr hl hb16 h dX7_isFull_16
set_option maxRecDepth 100000 in
set_option maxHeartbeats 4000000 in
theorem kX7_isFull (l : Launch) {D : va_G} {A : Nat → Prop} {ad : Nat → Nat} {cI cX : ClassId} (hD : ∀ σ, va_D A ((wC ad cI cX) σ)) (F : Nat) (k : Nat) (hk : k < 3) (σ : xSt) (r : Int32) (σ' : xSt) (h : mX7_isFull F k σ = some (r, σ')) : xM l yX7_isFull cX7_isFull 1 (some .boolean) ({ frames := 0, cells := 0, slots := 0, locals := 0 }) D (tyC cI cX) A (wC ad cI cX) [.ref (ad (22 + k))] σ (xQi D A (wC ad cI cX) r σ') := by
  refine xM_of (lv := [(0, .ref (ad (22 + k)))]) [.ref (ad (22 + k))] (by decide) hD rfl (Nat.le_of_ble_eq_true rfl) ?_
  intro p e s m args below meth c X hr hl
  unfold mX7_isFull at h
  refine x_aload_n (pc := 0) X dX7_isFull_0 rfl 0 rfl ?_
  refine gX7_7 (pc := 1) X k hk dX7_isFull_1 ?_
  refine x_aload_n (pc := 4) X dX7_isFull_4 rfl 0 rfl ?_
  refine gX7_13 (pc := 5) X k hk dX7_isFull_5 ?_
  refine x_icmp_lt (pc := 8) X 15 dX7_isFull_8 (by decide) (fun hc => ?_) (fun hc => ?_)
  · have h := xit hc h
    refine x_iconst (pc := 15) (v := 0) X dX7_isFull_15 (by decide) ?_
    refine x_sub [] rfl ?_
    exact wX7_isFull_L16 X hr hl F k hk _ _ h
  · have h := xif hc h
    refine x_iconst (pc := 11) (v := 1) X dX7_isFull_11 (by decide) ?_
    refine x_goto (pc := 12) X 16 dX7_isFull_12 (by decide) ?_
    refine x_sub [] rfl ?_
    exact wX7_isFull_L16 X hr hl F k hk _ _ h
set_option maxRecDepth 100000 in
set_option maxHeartbeats 4000000 in
theorem kX7_clear (l : Launch) {D : va_G} {A : Nat → Prop} {ad : Nat → Nat} {cI cX : ClassId} (hD : ∀ σ, va_D A ((wC ad cI cX) σ)) (F : Nat) (k : Nat) (hk : k < 3) (σ : xSt) (σ' : xSt) (h : mX7_clear F k σ = some σ') : xM l yX7_clear cX7_clear 1 none ({ frames := 0, cells := 0, slots := 0, locals := 0 }) D (tyC cI cX) A (wC ad cI cX) [.ref (ad (22 + k))] σ (xQv D A (wC ad cI cX) σ') := by
  refine xM_of (lv := [(0, .ref (ad (22 + k)))]) [.ref (ad (22 + k))] (by decide) hD rfl (Nat.le_of_ble_eq_true rfl) ?_
  intro p e s m args below meth c X hr hl
  unfold mX7_clear at h
  refine x_aload_n (pc := 0) X dX7_clear_0 rfl 0 rfl ?_
  refine x_iconst (pc := 1) (v := 0) X dX7_clear_1 (by decide) ?_
  refine uX7_7 (pc := 2) X k hk dX7_clear_2 ?_
  exact x_vret (pc := 5) X hr hl h dX7_clear_5
set_option maxRecDepth 100000 in
set_option maxHeartbeats 4000000 in
theorem wX8_noText_L14 {p : Program} {l : Launch} {e : Env} {s : State} {m : MethodId} {args : Array Value} {below : List Frame} {meth : Method} {c : Code} {D : va_G} {A : Nat → Prop} {ad : Nat → Nat} {cI cX : ClassId} {r : Int32} {σ' : xSt} (X : xX p s m args c cX8_noText 1 RX8 D (tyC cI cX) A (wC ad cI cX)) (hr : meth.sig.returnType = (some .boolean)) (hl : meth.locks = false) (F : Nat) (t0 : Int32) (σ : xSt) (h : mX8_noText_L14 F t0 σ = some (r, σ')) : xG p l e ({ frames := 0, cells := 0, slots := 0, locals := 0 }) s m args below meth c (MQ below (xQi D A (wC ad cI cX) r σ') args s 0 0 A) 1 D A (wC ad cI cX) σ 14 [] [.int t0] := by
  unfold mX8_noText_L14 at h
  obtain ⟨hb14, h⟩ := xck_some h
  exact x_zret (pc := 14) X hr hl hb14 h dX8_noText_14
set_option maxRecDepth 100000 in
set_option maxHeartbeats 4000000 in
theorem wX8_noText_L13 {p : Program} {l : Launch} {e : Env} {s : State} {m : MethodId} {args : Array Value} {below : List Frame} {meth : Method} {c : Code} {D : va_G} {A : Nat → Prop} {ad : Nat → Nat} {cI cX : ClassId} {r : Int32} {σ' : xSt} (X : xX p s m args c cX8_noText 1 RX8 D (tyC cI cX) A (wC ad cI cX)) (hr : meth.sig.returnType = (some .boolean)) (hl : meth.locks = false) (F : Nat) (σ : xSt) (h : mX8_noText_L13 F σ = some (r, σ')) : xG p l e ({ frames := 0, cells := 0, slots := 0, locals := 0 }) s m args below meth c (MQ below (xQi D A (wC ad cI cX) r σ') args s 0 0 A) 1 D A (wC ad cI cX) σ 13 [] [] := by
  unfold mX8_noText_L13 at h
  refine x_iconst (pc := 13) (v := 0) X dX8_noText_13 (by decide) ?_
  refine x_sub [] rfl ?_
  exact wX8_noText_L14 X hr hl F _ _ h
set_option maxRecDepth 100000 in
set_option maxHeartbeats 4000000 in
theorem kX8_noText (l : Launch) {D : va_G} {A : Nat → Prop} {ad : Nat → Nat} {cI cX : ClassId} (hD : ∀ σ, va_D A ((wC ad cI cX) σ)) (F : Nat) (v0 : Int32) (σ : xSt) (r : Int32) (σ' : xSt) (h : mX8_noText F v0 σ = some (r, σ')) : xM l yX8_noText cX8_noText 1 (some .boolean) ({ frames := 0, cells := 0, slots := 0, locals := 0 }) D (tyC cI cX) A (wC ad cI cX) [.int v0] σ (xQi D A (wC ad cI cX) r σ') := by
  refine xM_of (lv := [(0, .int v0)]) [.int v0] (by decide) hD rfl (Nat.le_of_ble_eq_true rfl) ?_
  intro p e s m args below meth c X hr hl
  unfold mX8_noText at h
  refine x_iload_n (pc := 0) X dX8_noText_0 rfl 0 rfl ?_
  refine x_if_eq (pc := 1) X 13 dX8_noText_1 (by decide) (fun hc => ?_) (fun hc => ?_)
  · have h := xit hc h
    refine x_sub [] rfl ?_
    exact wX8_noText_L13 X hr hl F _ h
  · have h := xif hc h
    refine x_iload_n (pc := 4) X dX8_noText_4 rfl 0 rfl ?_
    refine x_iconst (pc := 5) (v := 1) X dX8_noText_5 (by decide) ?_
    refine x_icmp_eq (pc := 6) X 13 dX8_noText_6 (by decide) (fun hc => ?_) (fun hc => ?_)
    · have h := xit hc h
      refine x_sub [] rfl ?_
      exact wX8_noText_L13 X hr hl F _ h
    · have h := xif hc h
      refine x_iconst (pc := 9) (v := 1) X dX8_noText_9 (by decide) ?_
      refine x_goto (pc := 10) X 14 dX8_noText_10 (by decide) ?_
      refine x_sub [] rfl ?_
      exact wX8_noText_L14 X hr hl F _ _ h
set_option maxRecDepth 100000 in
set_option maxHeartbeats 4000000 in
theorem wX8_textOf_L21 {p : Program} {l : Launch} {e : Env} {s : State} {m : MethodId} {args : Array Value} {below : List Frame} {meth : Method} {c : Code} {D : va_G} {A : Nat → Prop} {ad : Nat → Nat} {cI cX : ClassId} {r : Nat} {σ' : xSt} (X : xX p s m args c cX8_textOf 2 RX8 D (tyC cI cX) A (wC ad cI cX)) (hr : meth.sig.returnType = (some (.object "ChairSmells$Text"))) (hl : meth.locks = false) (F : Nat) (kt0 : Nat) (σ : xSt) (h : mX8_textOf_L21 F kt0 σ = some (r, σ')) : xG p l e ({ frames := 0, cells := 0, slots := 0, locals := 0 }) s m args below meth c (MQ below (xQr D A (wC ad cI cX) (ad (12 + r)) σ') args s 0 0 A) 2 D A (wC ad cI cX) σ 21 [] [.ref (ad (12 + kt0))] := by
  unfold mX8_textOf_L21 at h
  obtain ⟨hkt0, h⟩ := xck_some h
  have hkt0 := of_decide_eq_true hkt0
  obtain ⟨rfl, rfl⟩ := xpair h
  exact x_aret (pc := 21) X hr hl rfl rfl dX8_textOf_21
set_option maxRecDepth 100000 in
set_option maxHeartbeats 4000000 in
theorem kX8_textOf (l : Launch) {D : va_G} {A : Nat → Prop} {ad : Nat → Nat} {cI cX : ClassId} (hD : ∀ σ, va_D A ((wC ad cI cX) σ)) (F : Nat) (v1 : Int32) (σ : xSt) (r : Nat) (σ' : xSt) (h : mX8_textOf F v1 σ = some (r, σ')) : xM l yX8_textOf cX8_textOf 2 (some (.object "ChairSmells$Text")) ({ frames := 0, cells := 0, slots := 0, locals := 0 }) D (tyC cI cX) A (wC ad cI cX) [.ref (ad 0), .int v1] σ (xQr D A (wC ad cI cX) (ad (12 + r)) σ') := by
  refine xM_of (lv := [(0, .ref (ad 0)), (1, .int v1)]) [.ref (ad 0), .int v1] (by decide) hD rfl (Nat.le_of_ble_eq_true rfl) ?_
  intro p e s m args below meth c X hr hl
  unfold mX8_textOf at h
  refine x_iload_n (pc := 0) X dX8_textOf_0 rfl 1 rfl ?_
  refine x_if_ne (pc := 1) X 14 dX8_textOf_1 (by decide) (fun hc => ?_) (fun hc => ?_)
  · have h := xif hc h
    refine x_aload_n (pc := 14) X dX8_textOf_14 rfl 0 rfl ?_
    refine gX8_12 (pc := 15) X dX8_textOf_15 ?_
    refine gX8_97 (pc := 18) X dX8_textOf_18 ?_
    refine x_sub [] rfl ?_
    exact wX8_textOf_L21 X hr hl F _ _ h
  · have h := xit hc h
    refine x_aload_n (pc := 4) X dX8_textOf_4 rfl 0 rfl ?_
    refine gX8_12 (pc := 5) X dX8_textOf_5 ?_
    refine gX8_89 (pc := 8) X dX8_textOf_8 ?_
    refine x_goto (pc := 11) X 21 dX8_textOf_11 (by decide) ?_
    refine x_sub [] rfl ?_
    exact wX8_textOf_L21 X hr hl F _ _ h
set_option maxRecDepth 100000 in
set_option maxHeartbeats 4000000 in
theorem wX8_type_L18 {p : Program} {l : Launch} {e : Env} {s : State} {m : MethodId} {args : Array Value} {below : List Frame} {meth : Method} {c : Code} {D : va_G} {A : Nat → Prop} {ad : Nat → Nat} {cI cX : ClassId} {r : Int32} {σ' : xSt} (X : xX p s m args c cX8_type 4 RX8 D (tyC cI cX) A (wC ad cI cX)) (hr : meth.sig.returnType = (some .int)) (hl : meth.locks = false) (F : Nat) (σ : xSt) (h : mX8_type_L18 F σ = some (r, σ')) : xG p l e ({ frames := 4, cells := 0, slots := 0, locals := 85 }) s m args below meth c (MQ below (xQi D A (wC ad cI cX) r σ') args s 0 0 A) 4 D A (wC ad cI cX) σ 18 [] [] := by
  unfold mX8_type_L18 at h
  refine x_bipush (pc := 18) (v := (-2)) X dX8_type_18 (by decide) ?_
  exact x_iret (pc := 20) X hr hl h dX8_type_20
set_option maxRecDepth 100000 in
set_option maxHeartbeats 4000000 in
theorem kX8_type (l : Launch) {D : va_G} {A : Nat → Prop} {ad : Nat → Nat} {cI cX : ClassId} (hD : ∀ σ, va_D A ((wC ad cI cX) σ)) (F : Nat) (v1 : Int32) (v2 : Int32) (σ : xSt) (r : Int32) (σ' : xSt) (h : mX8_type F v1 v2 σ = some (r, σ')) : xM l yX8_type cX8_type 4 (some .int) ({ frames := 4, cells := 0, slots := 0, locals := 85 }) D (tyC cI cX) A (wC ad cI cX) [.ref (ad 0), .int v1, .int v2] σ (xQi D A (wC ad cI cX) r σ') := by
  refine xM_of (lv := [(0, .ref (ad 0)), (1, .int v1), (2, .int v2)]) [.ref (ad 0), .int v1, .int v2] (by decide) hD rfl (Nat.le_of_ble_eq_true rfl) ?_
  intro p e s m args below meth c X hr hl
  unfold mX8_type at h
  refine x_iload_n (pc := 0) X dX8_type_0 rfl 1 rfl ?_
  obtain ⟨r1, σ1, hq1, h⟩ := xb2_some h
  refine x_calliS (pc := 1) (As := [.int v1]) (rest := []) X (kX8_noText l X.2.2.2.2.2.2.2 F _ _ _ _ hq1) kvX8_61 ⟨rfl, rfl, Nat.le_of_ble_eq_true rfl, Nat.le_of_ble_eq_true rfl⟩ rfl rfl (Nat.le_of_ble_eq_true rfl) dX8_type_1 ?_
  refine x_if_ne (pc := 4) X 18 dX8_type_4 (by decide) (fun hc => ?_) (fun hc => ?_)
  · have h := xif hc h
    refine x_sub [] rfl ?_
    exact wX8_type_L18 X hr hl F _ h
  · have h := xit hc h
    refine x_iload_n (pc := 7) X dX8_type_7 rfl 2 rfl ?_
    refine x_if_lt (pc := 8) X 18 dX8_type_8 (by decide) (fun hc => ?_) (fun hc => ?_)
    · have h := xit hc h
      refine x_sub [] rfl ?_
      exact wX8_type_L18 X hr hl F _ h
    · have h := xif hc h
      refine x_iload_n (pc := 11) X dX8_type_11 rfl 2 rfl ?_
      refine x_sipush (pc := 12) (v := 255) X dX8_type_12 (by decide) ?_
      refine x_icmp_le (pc := 15) X 21 dX8_type_15 (by decide) (fun hc => ?_) (fun hc => ?_)
      · have h := xit hc h
        refine x_aload_n (pc := 21) X dX8_type_21 rfl 0 rfl ?_
        refine x_iload_n (pc := 22) X dX8_type_22 rfl 1 rfl ?_
        obtain ⟨r23, σ23, hq23, h⟩ := xb2_some h
        obtain ⟨hb23, h⟩ := xck_some h
        have hb23 := of_decide_eq_true hb23
        refine x_callrV (pc := 23) (As := [.int v1]) (rest := []) X (kX8_textOf l X.2.2.2.2.2.2.2 F _ _ _ _ hq23) kvX8_65 rfl (qX8) ⟨rfl, rfl, Nat.le_of_ble_eq_true rfl, Nat.le_of_ble_eq_true rfl⟩ rfl rfl (Nat.le_of_ble_eq_true rfl) dX8_type_23 ?_
        refine x_astore_n (pc := 26) (lv' := [(3, .ref (ad (12 + r23))), (0, .ref (ad 0)), (1, .int v1), (2, .int v2)]) X dX8_type_26 rfl (by decide) rfl ?_
        refine x_aload_n (pc := 27) X dX8_type_27 rfl 0 rfl ?_
        obtain ⟨r28, σ28, hq28, h⟩ := xb2_some h
        refine x_calliV (pc := 28) (As := []) (rest := []) X (kX6_isFull l X.2.2.2.2.2.2.2 F r23 hb23 _ _ _ hq28) kvX8_69 rfl (qX6 r23 hb23) ⟨rfl, rfl, Nat.le_of_ble_eq_true rfl, Nat.le_of_ble_eq_true rfl⟩ rfl rfl (Nat.le_of_ble_eq_true rfl) dX8_type_28 ?_
        refine x_if_eq (pc := 31) X 37 dX8_type_31 (by decide) (fun hc => ?_) (fun hc => ?_)
        · have h := xit hc h
          refine x_aload_n (pc := 37) X dX8_type_37 rfl 0 rfl ?_
          refine x_iload_n (pc := 38) X dX8_type_38 rfl 3 rfl ?_
          obtain ⟨σ39, hq39, h⟩ := xb1_some h
          refine x_callvV (pc := 39) (As := [.int v2]) (rest := []) X (kX6_append l X.2.2.2.2.2.2.2 F r23 hb23 _ _ _ hq39) kvX8_75 rfl (qX6 r23 hb23) ⟨rfl, rfl, Nat.le_of_ble_eq_true rfl, Nat.le_of_ble_eq_true rfl⟩ rfl rfl (Nat.le_of_ble_eq_true rfl) dX8_type_39 ?_
          refine x_aload_n (pc := 42) X dX8_type_42 rfl 0 rfl ?_
          refine gX8_79 (pc := 43) X r23 hb23 dX8_type_43 ?_
          exact x_iret (pc := 46) X hr hl h dX8_type_46
        · have h := xif hc h
          refine x_bipush (pc := 34) (v := (-4)) X dX8_type_34 (by decide) ?_
          exact x_iret (pc := 36) X hr hl h dX8_type_36
      · have h := xif hc h
        refine x_sub [] rfl ?_
        exact wX8_type_L18 X hr hl F _ h
set_option maxRecDepth 100000 in
set_option maxHeartbeats 4000000 in
theorem kX8_wipe (l : Launch) {D : va_G} {A : Nat → Prop} {ad : Nat → Nat} {cI cX : ClassId} (hD : ∀ σ, va_D A ((wC ad cI cX) σ)) (F : Nat) (v1 : Int32) (σ : xSt) (r : Int32) (σ' : xSt) (h : mX8_wipe F v1 σ = some (r, σ')) : xM l yX8_wipe cX8_wipe 4 (some .int) ({ frames := 4, cells := 0, slots := 0, locals := 85 }) D (tyC cI cX) A (wC ad cI cX) [.ref (ad 0), .int v1] σ (xQi D A (wC ad cI cX) r σ') := by
  refine xM_of (lv := [(0, .ref (ad 0)), (1, .int v1)]) [.ref (ad 0), .int v1] (by decide) hD rfl (Nat.le_of_ble_eq_true rfl) ?_
  intro p e s m args below meth c X hr hl
  unfold mX8_wipe at h
  refine x_iload_n (pc := 0) X dX8_wipe_0 rfl 1 rfl ?_
  obtain ⟨r1, σ1, hq1, h⟩ := xb2_some h
  refine x_calliS (pc := 1) (As := [.int v1]) (rest := []) X (kX8_noText l X.2.2.2.2.2.2.2 F _ _ _ _ hq1) kvX8_61 ⟨rfl, rfl, Nat.le_of_ble_eq_true rfl, Nat.le_of_ble_eq_true rfl⟩ rfl rfl (Nat.le_of_ble_eq_true rfl) dX8_wipe_1 ?_
  refine x_if_eq (pc := 4) X 10 dX8_wipe_4 (by decide) (fun hc => ?_) (fun hc => ?_)
  · have h := xit hc h
    refine x_aload_n (pc := 10) X dX8_wipe_10 rfl 0 rfl ?_
    refine x_iload_n (pc := 11) X dX8_wipe_11 rfl 1 rfl ?_
    obtain ⟨r12, σ12, hq12, h⟩ := xb2_some h
    obtain ⟨hb12, h⟩ := xck_some h
    have hb12 := of_decide_eq_true hb12
    refine x_callrV (pc := 12) (As := [.int v1]) (rest := []) X (kX8_textOf l X.2.2.2.2.2.2.2 F _ _ _ _ hq12) kvX8_65 rfl (qX8) ⟨rfl, rfl, Nat.le_of_ble_eq_true rfl, Nat.le_of_ble_eq_true rfl⟩ rfl rfl (Nat.le_of_ble_eq_true rfl) dX8_wipe_12 ?_
    refine x_astore_n (pc := 15) (lv' := [(2, .ref (ad (12 + r12))), (0, .ref (ad 0)), (1, .int v1)]) X dX8_wipe_15 rfl (by decide) rfl ?_
    refine x_aload_n (pc := 16) X dX8_wipe_16 rfl 0 rfl ?_
    refine gX8_79 (pc := 17) X r12 hb12 dX8_wipe_17 ?_
    refine x_istore_n (pc := 20) (lv' := [(3, .int (xI σ12 (10 + r12))), (2, .ref (ad (12 + r12))), (0, .ref (ad 0)), (1, .int v1)]) X dX8_wipe_20 rfl (by decide) rfl ?_
    refine x_aload_n (pc := 21) X dX8_wipe_21 rfl 1 rfl ?_
    refine x_iconst (pc := 22) (v := 0) X dX8_wipe_22 (by decide) ?_
    obtain ⟨σ23, hq23, h⟩ := xb1_some h
    refine x_callvV (pc := 23) (As := [.int 0]) (rest := []) X (kX6_shorten l X.2.2.2.2.2.2.2 F r12 hb12 _ _ _ hq23) kvX8_82 rfl (qX6 r12 hb12) ⟨rfl, rfl, Nat.le_of_ble_eq_true rfl, Nat.le_of_ble_eq_true rfl⟩ rfl rfl (Nat.le_of_ble_eq_true rfl) dX8_wipe_23 ?_
    refine x_iload_n (pc := 26) X dX8_wipe_26 rfl 0 rfl ?_
    exact x_iret (pc := 27) X hr hl h dX8_wipe_27
  · have h := xif hc h
    refine x_bipush (pc := 7) (v := (-2)) X dX8_wipe_7 (by decide) ?_
    exact x_iret (pc := 9) X hr hl h dX8_wipe_9
set_option maxRecDepth 100000 in
set_option maxHeartbeats 4000000 in
theorem kX8_undo (l : Launch) {D : va_G} {A : Nat → Prop} {ad : Nat → Nat} {cI cX : ClassId} (hD : ∀ σ, va_D A ((wC ad cI cX) σ)) (F : Nat) (v1 : Int32) (σ : xSt) (r : Int32) (σ' : xSt) (h : mX8_undo F v1 σ = some (r, σ')) : xM l yX8_undo cX8_undo 3 (some .int) ({ frames := 4, cells := 0, slots := 0, locals := 85 }) D (tyC cI cX) A (wC ad cI cX) [.ref (ad 0), .int v1] σ (xQi D A (wC ad cI cX) r σ') := by
  refine xM_of (lv := [(0, .ref (ad 0)), (1, .int v1)]) [.ref (ad 0), .int v1] (by decide) hD rfl (Nat.le_of_ble_eq_true rfl) ?_
  intro p e s m args below meth c X hr hl
  unfold mX8_undo at h
  refine x_iload_n (pc := 0) X dX8_undo_0 rfl 1 rfl ?_
  obtain ⟨r1, σ1, hq1, h⟩ := xb2_some h
  refine x_calliS (pc := 1) (As := [.int v1]) (rest := []) X (kX8_noText l X.2.2.2.2.2.2.2 F _ _ _ _ hq1) kvX8_61 ⟨rfl, rfl, Nat.le_of_ble_eq_true rfl, Nat.le_of_ble_eq_true rfl⟩ rfl rfl (Nat.le_of_ble_eq_true rfl) dX8_undo_1 ?_
  refine x_if_eq (pc := 4) X 10 dX8_undo_4 (by decide) (fun hc => ?_) (fun hc => ?_)
  · have h := xit hc h
    refine x_aload_n (pc := 10) X dX8_undo_10 rfl 0 rfl ?_
    refine x_iload_n (pc := 11) X dX8_undo_11 rfl 1 rfl ?_
    obtain ⟨r12, σ12, hq12, h⟩ := xb2_some h
    obtain ⟨hb12, h⟩ := xck_some h
    have hb12 := of_decide_eq_true hb12
    refine x_callrV (pc := 12) (As := [.int v1]) (rest := []) X (kX8_textOf l X.2.2.2.2.2.2.2 F _ _ _ _ hq12) kvX8_65 rfl (qX8) ⟨rfl, rfl, Nat.le_of_ble_eq_true rfl, Nat.le_of_ble_eq_true rfl⟩ rfl rfl (Nat.le_of_ble_eq_true rfl) dX8_undo_12 ?_
    refine x_astore_n (pc := 15) (lv' := [(2, .ref (ad (12 + r12))), (0, .ref (ad 0)), (1, .int v1)]) X dX8_undo_15 rfl (by decide) rfl ?_
    refine x_aload_n (pc := 16) X dX8_undo_16 rfl 0 rfl ?_
    refine gX8_79 (pc := 17) X r12 hb12 dX8_undo_17 ?_
    refine x_if_ne (pc := 20) X 26 dX8_undo_20 (by decide) (fun hc => ?_) (fun hc => ?_)
    · have h := xif hc h
      refine x_aload_n (pc := 26) X dX8_undo_26 rfl 0 rfl ?_
      refine x_aload_n (pc := 27) X dX8_undo_27 rfl 0 rfl ?_
      refine gX8_79 (pc := 28) X r12 hb12 dX8_undo_28 ?_
      refine x_iconst (pc := 31) (v := 1) X dX8_undo_31 (by decide) ?_
      refine x_isub (pc := 32) X dX8_undo_32 ?_
      obtain ⟨σ33, hq33, h⟩ := xb1_some h
      refine x_callvV (pc := 33) (As := [.int ((xI σ12 (10 + r12)) - 1)]) (rest := []) X (kX6_shorten l X.2.2.2.2.2.2.2 F r12 hb12 _ _ _ hq33) kvX8_82 rfl (qX6 r12 hb12) ⟨rfl, rfl, Nat.le_of_ble_eq_true rfl, Nat.le_of_ble_eq_true rfl⟩ rfl rfl (Nat.le_of_ble_eq_true rfl) dX8_undo_33 ?_
      refine x_aload_n (pc := 36) X dX8_undo_36 rfl 0 rfl ?_
      refine gX8_79 (pc := 37) X r12 hb12 dX8_undo_37 ?_
      exact x_iret (pc := 40) X hr hl h dX8_undo_40
    · have h := xit hc h
      refine x_bipush (pc := 23) (v := (-3)) X dX8_undo_23 (by decide) ?_
      exact x_iret (pc := 25) X hr hl h dX8_undo_25
  · have h := xif hc h
    refine x_bipush (pc := 7) (v := (-2)) X dX8_undo_7 (by decide) ?_
    exact x_iret (pc := 9) X hr hl h dX8_undo_9
set_option maxRecDepth 100000 in
set_option maxHeartbeats 4000000 in
theorem wX8_fault_L20 {p : Program} {l : Launch} {e : Env} {s : State} {m : MethodId} {args : Array Value} {below : List Frame} {meth : Method} {c : Code} {D : va_G} {A : Nat → Prop} {ad : Nat → Nat} {cI cX : ClassId} {r : Int32} {σ' : xSt} (X : xX p s m args c cX8_fault 2 RX8 D (tyC cI cX) A (wC ad cI cX)) (hr : meth.sig.returnType = (some .int)) (hl : meth.locks = false) (F : Nat) (t0 : Int32) (σ : xSt) (h : mX8_fault_L20 F t0 σ = some (r, σ')) : xG p l e ({ frames := 2, cells := 0, slots := 0, locals := 43 }) s m args below meth c (MQ below (xQi D A (wC ad cI cX) r σ') args s 0 0 A) 2 D A (wC ad cI cX) σ 20 [] [.int t0] := by
  unfold mX8_fault_L20 at h
  exact x_iret (pc := 20) X hr hl h dX8_fault_20
set_option maxRecDepth 100000 in
set_option maxHeartbeats 4000000 in
theorem kX8_fault (l : Launch) {D : va_G} {A : Nat → Prop} {ad : Nat → Nat} {cI cX : ClassId} (hD : ∀ σ, va_D A ((wC ad cI cX) σ)) (F : Nat) (v1 : Int32) (σ : xSt) (r : Int32) (σ' : xSt) (h : mX8_fault F v1 σ = some (r, σ')) : xM l yX8_fault cX8_fault 2 (some .int) ({ frames := 2, cells := 0, slots := 0, locals := 43 }) D (tyC cI cX) A (wC ad cI cX) [.ref (ad 0), .int v1] σ (xQi D A (wC ad cI cX) r σ') := by
  refine xM_of (lv := [(0, .ref (ad 0)), (1, .int v1)]) [.ref (ad 0), .int v1] (by decide) hD rfl (Nat.le_of_ble_eq_true rfl) ?_
  intro p e s m args below meth c X hr hl
  unfold mX8_fault at h
  refine x_iload_n (pc := 0) X dX8_fault_0 rfl 1 rfl ?_
  obtain ⟨r1, σ1, hq1, h⟩ := xb2_some h
  refine x_calliS (pc := 1) (As := [.int v1]) (rest := []) X (kX8_noText l X.2.2.2.2.2.2.2 F _ _ _ _ hq1) kvX8_61 ⟨rfl, rfl, Nat.le_of_ble_eq_true rfl, Nat.le_of_ble_eq_true rfl⟩ rfl rfl (Nat.le_of_ble_eq_true rfl) dX8_fault_1 ?_
  refine x_if_eq (pc := 4) X 12 dX8_fault_4 (by decide) (fun hc => ?_) (fun hc => ?_)
  · have h := xit hc h
    refine x_aload_n (pc := 12) X dX8_fault_12 rfl 0 rfl ?_
    refine x_iload_n (pc := 13) X dX8_fault_13 rfl 1 rfl ?_
    obtain ⟨r14, σ14, hq14, h⟩ := xb2_some h
    obtain ⟨hb14, h⟩ := xck_some h
    have hb14 := of_decide_eq_true hb14
    refine x_callrV (pc := 14) (As := [.int v1]) (rest := []) X (kX8_textOf l X.2.2.2.2.2.2.2 F _ _ _ _ hq14) kvX8_65 rfl (qX8) ⟨rfl, rfl, Nat.le_of_ble_eq_true rfl, Nat.le_of_ble_eq_true rfl⟩ rfl rfl (Nat.le_of_ble_eq_true rfl) dX8_fault_14 ?_
    obtain ⟨r17, σ17, hq17, h⟩ := xb2_some h
    refine x_calliV (pc := 17) (As := []) (rest := []) X (kX6_faultPlace l X.2.2.2.2.2.2.2 F r14 hb14 _ _ _ hq17) kvX8_85 rfl (qX6 r14 hb14) ⟨rfl, rfl, Nat.le_of_ble_eq_true rfl, Nat.le_of_ble_eq_true rfl⟩ rfl rfl (Nat.le_of_ble_eq_true rfl) dX8_fault_17 ?_
    refine x_sub [] rfl ?_
    exact wX8_fault_L20 X hr hl F _ _ h
  · have h := xif hc h
    refine x_bipush (pc := 7) (v := (-2)) X dX8_fault_7 (by decide) ?_
    refine x_goto (pc := 9) X 20 dX8_fault_9 (by decide) ?_
    refine x_sub [] rfl ?_
    exact wX8_fault_L20 X hr hl F _ _ h
set_option maxRecDepth 100000 in
set_option maxHeartbeats 4000000 in
theorem kX8_thing (l : Launch) {D : va_G} {A : Nat → Prop} {ad : Nat → Nat} {cI cX : ClassId} (hD : ∀ σ, va_D A ((wC ad cI cX) σ)) (F : Nat) (v1 : Int32) (v2 : Int32) (σ : xSt) (r : Int32) (σ' : xSt) (h : mX8_thing F v1 v2 σ = some (r, σ')) : xM l yX8_thing cX8_thing 3 (some .int) ({ frames := 1, cells := 0, slots := 0, locals := 22 }) D (tyC cI cX) A (wC ad cI cX) [.ref (ad 0), .int v1, .int v2] σ (xQi D A (wC ad cI cX) r σ') := by
  refine xM_of (lv := [(0, .ref (ad 0)), (1, .int v1), (2, .int v2)]) [.ref (ad 0), .int v1, .int v2] (by decide) hD rfl (Nat.le_of_ble_eq_true rfl) ?_
  intro p e s m args below meth c X hr hl
  unfold mX8_thing at h
  refine x_aload_n (pc := 0) X dX8_thing_0 rfl 0 rfl ?_
  refine gX8_12 (pc := 1) X dX8_thing_1 ?_
  refine gX8_89 (pc := 4) X dX8_thing_4 ?_
  refine x_iload_n (pc := 7) X dX8_thing_7 rfl 1 rfl ?_
  refine x_iload_n (pc := 8) X dX8_thing_8 rfl 2 rfl ?_
  obtain ⟨r9, σ9, hq9, h⟩ := xb2_some h
  refine x_calliV (pc := 9) (As := [.int v1, .int v2]) (rest := []) X (kX6_part l X.2.2.2.2.2.2.2 F 0 (by decide) _ _ _ _ _ hq9) kvX8_93 rfl (qX6 0 (by decide)) ⟨rfl, rfl, Nat.le_of_ble_eq_true rfl, Nat.le_of_ble_eq_true rfl⟩ rfl rfl (Nat.le_of_ble_eq_true rfl) dX8_thing_9 ?_
  exact x_iret (pc := 12) X hr hl h dX8_thing_12
set_option maxRecDepth 100000 in
set_option maxHeartbeats 4000000 in
theorem kX8_person (l : Launch) {D : va_G} {A : Nat → Prop} {ad : Nat → Nat} {cI cX : ClassId} (hD : ∀ σ, va_D A ((wC ad cI cX) σ)) (F : Nat) (v1 : Int32) (v2 : Int32) (σ : xSt) (r : Int32) (σ' : xSt) (h : mX8_person F v1 v2 σ = some (r, σ')) : xM l yX8_person cX8_person 3 (some .int) ({ frames := 1, cells := 0, slots := 0, locals := 22 }) D (tyC cI cX) A (wC ad cI cX) [.ref (ad 0), .int v1, .int v2] σ (xQi D A (wC ad cI cX) r σ') := by
  refine xM_of (lv := [(0, .ref (ad 0)), (1, .int v1), (2, .int v2)]) [.ref (ad 0), .int v1, .int v2] (by decide) hD rfl (Nat.le_of_ble_eq_true rfl) ?_
  intro p e s m args below meth c X hr hl
  unfold mX8_person at h
  refine x_aload_n (pc := 0) X dX8_person_0 rfl 0 rfl ?_
  refine gX8_12 (pc := 1) X dX8_person_1 ?_
  refine gX8_97 (pc := 4) X dX8_person_4 ?_
  refine x_iload_n (pc := 7) X dX8_person_7 rfl 1 rfl ?_
  refine x_iload_n (pc := 8) X dX8_person_8 rfl 2 rfl ?_
  obtain ⟨r9, σ9, hq9, h⟩ := xb2_some h
  refine x_calliV (pc := 9) (As := [.int v1, .int v2]) (rest := []) X (kX6_part l X.2.2.2.2.2.2.2 F 1 (by decide) _ _ _ _ _ hq9) kvX8_93 rfl (qX6 1 (by decide)) ⟨rfl, rfl, Nat.le_of_ble_eq_true rfl, Nat.le_of_ble_eq_true rfl⟩ rfl rfl (Nat.le_of_ble_eq_true rfl) dX8_person_9 ?_
  exact x_iret (pc := 12) X hr hl h dX8_person_12
set_option maxRecDepth 100000 in
set_option maxHeartbeats 4000000 in
theorem wX8_noHour_L15 {p : Program} {l : Launch} {e : Env} {s : State} {m : MethodId} {args : Array Value} {below : List Frame} {meth : Method} {c : Code} {D : va_G} {A : Nat → Prop} {ad : Nat → Nat} {cI cX : ClassId} {r : Int32} {σ' : xSt} (X : xX p s m args c cX8_noHour 1 RX8 D (tyC cI cX) A (wC ad cI cX)) (hr : meth.sig.returnType = (some .boolean)) (hl : meth.locks = false) (F : Nat) (t0 : Int32) (σ : xSt) (h : mX8_noHour_L15 F t0 σ = some (r, σ')) : xG p l e ({ frames := 0, cells := 0, slots := 0, locals := 0 }) s m args below meth c (MQ below (xQi D A (wC ad cI cX) r σ') args s 0 0 A) 1 D A (wC ad cI cX) σ 15 [] [.int t0] := by
  unfold mX8_noHour_L15 at h
  obtain ⟨hb15, h⟩ := xck_some h
  exact x_zret (pc := 15) X hr hl hb15 h dX8_noHour_15
set_option maxRecDepth 100000 in
set_option maxHeartbeats 4000000 in
theorem wX8_noHour_L10 {p : Program} {l : Launch} {e : Env} {s : State} {m : MethodId} {args : Array Value} {below : List Frame} {meth : Method} {c : Code} {D : va_G} {A : Nat → Prop} {ad : Nat → Nat} {cI cX : ClassId} {r : Int32} {σ' : xSt} (X : xX p s m args c cX8_noHour 1 RX8 D (tyC cI cX) A (wC ad cI cX)) (hr : meth.sig.returnType = (some .boolean)) (hl : meth.locks = false) (F : Nat) (σ : xSt) (h : mX8_noHour_L10 F σ = some (r, σ')) : xG p l e ({ frames := 0, cells := 0, slots := 0, locals := 0 }) s m args below meth c (MQ below (xQi D A (wC ad cI cX) r σ') args s 0 0 A) 1 D A (wC ad cI cX) σ 10 [] [] := by
  unfold mX8_noHour_L10 at h
  refine x_iconst (pc := 10) (v := 1) X dX8_noHour_10 (by decide) ?_
  refine x_goto (pc := 11) X 15 dX8_noHour_11 (by decide) ?_
  refine x_sub [] rfl ?_
  exact wX8_noHour_L15 X hr hl F _ _ h
set_option maxRecDepth 100000 in
set_option maxHeartbeats 4000000 in
theorem kX8_noHour (l : Launch) {D : va_G} {A : Nat → Prop} {ad : Nat → Nat} {cI cX : ClassId} (hD : ∀ σ, va_D A ((wC ad cI cX) σ)) (F : Nat) (v0 : Int32) (σ : xSt) (r : Int32) (σ' : xSt) (h : mX8_noHour F v0 σ = some (r, σ')) : xM l yX8_noHour cX8_noHour 1 (some .boolean) ({ frames := 0, cells := 0, slots := 0, locals := 0 }) D (tyC cI cX) A (wC ad cI cX) [.int v0] σ (xQi D A (wC ad cI cX) r σ') := by
  refine xM_of (lv := [(0, .int v0)]) [.int v0] (by decide) hD rfl (Nat.le_of_ble_eq_true rfl) ?_
  intro p e s m args below meth c X hr hl
  unfold mX8_noHour at h
  refine x_iload_n (pc := 0) X dX8_noHour_0 rfl 0 rfl ?_
  refine x_if_lt (pc := 1) X 10 dX8_noHour_1 (by decide) (fun hc => ?_) (fun hc => ?_)
  · have h := xit hc h
    refine x_sub [] rfl ?_
    exact wX8_noHour_L10 X hr hl F _ h
  · have h := xif hc h
    refine x_iload_n (pc := 4) X dX8_noHour_4 rfl 0 rfl ?_
    refine x_bipush (pc := 5) (v := 24) X dX8_noHour_5 (by decide) ?_
    refine x_icmp_lt (pc := 7) X 14 dX8_noHour_7 (by decide) (fun hc => ?_) (fun hc => ?_)
    · have h := xit hc h
      refine x_iconst (pc := 14) (v := 0) X dX8_noHour_14 (by decide) ?_
      refine x_sub [] rfl ?_
      exact wX8_noHour_L15 X hr hl F _ _ h
    · have h := xif hc h
      refine x_sub [] rfl ?_
      exact wX8_noHour_L10 X hr hl F _ h
set_option maxRecDepth 100000 in
set_option maxHeartbeats 4000000 in
theorem wX8_noPersonNumber_L15 {p : Program} {l : Launch} {e : Env} {s : State} {m : MethodId} {args : Array Value} {below : List Frame} {meth : Method} {c : Code} {D : va_G} {A : Nat → Prop} {ad : Nat → Nat} {cI cX : ClassId} {r : Int32} {σ' : xSt} (X : xX p s m args c cX8_noPersonNumber 1 RX8 D (tyC cI cX) A (wC ad cI cX)) (hr : meth.sig.returnType = (some .boolean)) (hl : meth.locks = false) (F : Nat) (t0 : Int32) (σ : xSt) (h : mX8_noPersonNumber_L15 F t0 σ = some (r, σ')) : xG p l e ({ frames := 0, cells := 0, slots := 0, locals := 0 }) s m args below meth c (MQ below (xQi D A (wC ad cI cX) r σ') args s 0 0 A) 1 D A (wC ad cI cX) σ 15 [] [.int t0] := by
  unfold mX8_noPersonNumber_L15 at h
  obtain ⟨hb15, h⟩ := xck_some h
  exact x_zret (pc := 15) X hr hl hb15 h dX8_noPersonNumber_15
set_option maxRecDepth 100000 in
set_option maxHeartbeats 4000000 in
theorem wX8_noPersonNumber_L10 {p : Program} {l : Launch} {e : Env} {s : State} {m : MethodId} {args : Array Value} {below : List Frame} {meth : Method} {c : Code} {D : va_G} {A : Nat → Prop} {ad : Nat → Nat} {cI cX : ClassId} {r : Int32} {σ' : xSt} (X : xX p s m args c cX8_noPersonNumber 1 RX8 D (tyC cI cX) A (wC ad cI cX)) (hr : meth.sig.returnType = (some .boolean)) (hl : meth.locks = false) (F : Nat) (σ : xSt) (h : mX8_noPersonNumber_L10 F σ = some (r, σ')) : xG p l e ({ frames := 0, cells := 0, slots := 0, locals := 0 }) s m args below meth c (MQ below (xQi D A (wC ad cI cX) r σ') args s 0 0 A) 1 D A (wC ad cI cX) σ 10 [] [] := by
  unfold mX8_noPersonNumber_L10 at h
  refine x_iconst (pc := 10) (v := 1) X dX8_noPersonNumber_10 (by decide) ?_
  refine x_goto (pc := 11) X 15 dX8_noPersonNumber_11 (by decide) ?_
  refine x_sub [] rfl ?_
  exact wX8_noPersonNumber_L15 X hr hl F _ _ h
set_option maxRecDepth 100000 in
set_option maxHeartbeats 4000000 in
theorem kX8_noPersonNumber (l : Launch) {D : va_G} {A : Nat → Prop} {ad : Nat → Nat} {cI cX : ClassId} (hD : ∀ σ, va_D A ((wC ad cI cX) σ)) (F : Nat) (v0 : Int32) (σ : xSt) (r : Int32) (σ' : xSt) (h : mX8_noPersonNumber F v0 σ = some (r, σ')) : xM l yX8_noPersonNumber cX8_noPersonNumber 1 (some .boolean) ({ frames := 0, cells := 0, slots := 0, locals := 0 }) D (tyC cI cX) A (wC ad cI cX) [.int v0] σ (xQi D A (wC ad cI cX) r σ') := by
  refine xM_of (lv := [(0, .int v0)]) [.int v0] (by decide) hD rfl (Nat.le_of_ble_eq_true rfl) ?_
  intro p e s m args below meth c X hr hl
  unfold mX8_noPersonNumber at h
  refine x_iload_n (pc := 0) X dX8_noPersonNumber_0 rfl 0 rfl ?_
  refine x_if_lt (pc := 1) X 10 dX8_noPersonNumber_1 (by decide) (fun hc => ?_) (fun hc => ?_)
  · have h := xit hc h
    refine x_sub [] rfl ?_
    exact wX8_noPersonNumber_L10 X hr hl F _ h
  · have h := xif hc h
    refine x_iload_n (pc := 4) X dX8_noPersonNumber_4 rfl 0 rfl ?_
    refine x_bipush (pc := 5) (v := 8) X dX8_noPersonNumber_5 (by decide) ?_
    refine x_icmp_lt (pc := 7) X 14 dX8_noPersonNumber_7 (by decide) (fun hc => ?_) (fun hc => ?_)
    · have h := xit hc h
      refine x_iconst (pc := 14) (v := 0) X dX8_noPersonNumber_14 (by decide) ?_
      refine x_sub [] rfl ?_
      exact wX8_noPersonNumber_L15 X hr hl F _ _ h
    · have h := xif hc h
      refine x_sub [] rfl ?_
      exact wX8_noPersonNumber_L10 X hr hl F _ h
set_option maxRecDepth 100000 in
set_option maxHeartbeats 4000000 in
theorem wX8_noThingNumber_L15 {p : Program} {l : Launch} {e : Env} {s : State} {m : MethodId} {args : Array Value} {below : List Frame} {meth : Method} {c : Code} {D : va_G} {A : Nat → Prop} {ad : Nat → Nat} {cI cX : ClassId} {r : Int32} {σ' : xSt} (X : xX p s m args c cX8_noThingNumber 1 RX8 D (tyC cI cX) A (wC ad cI cX)) (hr : meth.sig.returnType = (some .boolean)) (hl : meth.locks = false) (F : Nat) (t0 : Int32) (σ : xSt) (h : mX8_noThingNumber_L15 F t0 σ = some (r, σ')) : xG p l e ({ frames := 0, cells := 0, slots := 0, locals := 0 }) s m args below meth c (MQ below (xQi D A (wC ad cI cX) r σ') args s 0 0 A) 1 D A (wC ad cI cX) σ 15 [] [.int t0] := by
  unfold mX8_noThingNumber_L15 at h
  obtain ⟨hb15, h⟩ := xck_some h
  exact x_zret (pc := 15) X hr hl hb15 h dX8_noThingNumber_15
set_option maxRecDepth 100000 in
set_option maxHeartbeats 4000000 in
theorem wX8_noThingNumber_L10 {p : Program} {l : Launch} {e : Env} {s : State} {m : MethodId} {args : Array Value} {below : List Frame} {meth : Method} {c : Code} {D : va_G} {A : Nat → Prop} {ad : Nat → Nat} {cI cX : ClassId} {r : Int32} {σ' : xSt} (X : xX p s m args c cX8_noThingNumber 1 RX8 D (tyC cI cX) A (wC ad cI cX)) (hr : meth.sig.returnType = (some .boolean)) (hl : meth.locks = false) (F : Nat) (σ : xSt) (h : mX8_noThingNumber_L10 F σ = some (r, σ')) : xG p l e ({ frames := 0, cells := 0, slots := 0, locals := 0 }) s m args below meth c (MQ below (xQi D A (wC ad cI cX) r σ') args s 0 0 A) 1 D A (wC ad cI cX) σ 10 [] [] := by
  unfold mX8_noThingNumber_L10 at h
  refine x_iconst (pc := 10) (v := 1) X dX8_noThingNumber_10 (by decide) ?_
  refine x_goto (pc := 11) X 15 dX8_noThingNumber_11 (by decide) ?_
  refine x_sub [] rfl ?_
  exact wX8_noThingNumber_L15 X hr hl F _ _ h
set_option maxRecDepth 100000 in
set_option maxHeartbeats 4000000 in
theorem kX8_noThingNumber (l : Launch) {D : va_G} {A : Nat → Prop} {ad : Nat → Nat} {cI cX : ClassId} (hD : ∀ σ, va_D A ((wC ad cI cX) σ)) (F : Nat) (v0 : Int32) (σ : xSt) (r : Int32) (σ' : xSt) (h : mX8_noThingNumber F v0 σ = some (r, σ')) : xM l yX8_noThingNumber cX8_noThingNumber 1 (some .boolean) ({ frames := 0, cells := 0, slots := 0, locals := 0 }) D (tyC cI cX) A (wC ad cI cX) [.int v0] σ (xQi D A (wC ad cI cX) r σ') := by
  refine xM_of (lv := [(0, .int v0)]) [.int v0] (by decide) hD rfl (Nat.le_of_ble_eq_true rfl) ?_
  intro p e s m args below meth c X hr hl
  unfold mX8_noThingNumber at h
  refine x_iload_n (pc := 0) X dX8_noThingNumber_0 rfl 0 rfl ?_
  refine x_if_lt (pc := 1) X 10 dX8_noThingNumber_1 (by decide) (fun hc => ?_) (fun hc => ?_)
  · have h := xit hc h
    refine x_sub [] rfl ?_
    exact wX8_noThingNumber_L10 X hr hl F _ h
  · have h := xif hc h
    refine x_iload_n (pc := 4) X dX8_noThingNumber_4 rfl 0 rfl ?_
    refine x_bipush (pc := 5) (v := 6) X dX8_noThingNumber_5 (by decide) ?_
    refine x_icmp_lt (pc := 7) X 14 dX8_noThingNumber_7 (by decide) (fun hc => ?_) (fun hc => ?_)
    · have h := xit hc h
      refine x_iconst (pc := 14) (v := 0) X dX8_noThingNumber_14 (by decide) ?_
      refine x_sub [] rfl ?_
      exact wX8_noThingNumber_L15 X hr hl F _ _ h
    · have h := xif hc h
      refine x_sub [] rfl ?_
      exact wX8_noThingNumber_L10 X hr hl F _ h
set_option maxRecDepth 100000 in
set_option maxHeartbeats 4000000 in
theorem wX8_sit_L21 {p : Program} {l : Launch} {e : Env} {s : State} {m : MethodId} {args : Array Value} {below : List Frame} {meth : Method} {c : Code} {D : va_G} {A : Nat → Prop} {ad : Nat → Nat} {cI cX : ClassId} {r : Int32} {σ' : xSt} (X : xX p s m args c cX8_sit 4 RX8 D (tyC cI cX) A (wC ad cI cX)) (hr : meth.sig.returnType = (some .int)) (hl : meth.locks = false) (F : Nat) (σ : xSt) (h : mX8_sit_L21 F σ = some (r, σ')) : xG p l e ({ frames := 1, cells := 0, slots := 0, locals := 24 }) s m args below meth c (MQ below (xQi D A (wC ad cI cX) r σ') args s 0 0 A) 4 D A (wC ad cI cX) σ 21 [] [] := by
  unfold mX8_sit_L21 at h
  refine x_bipush (pc := 21) (v := (-2)) X dX8_sit_21 (by decide) ?_
  exact x_iret (pc := 23) X hr hl h dX8_sit_23
set_option maxRecDepth 100000 in
set_option maxHeartbeats 4000000 in
theorem kX8_sit (l : Launch) {D : va_G} {A : Nat → Prop} {ad : Nat → Nat} {cI cX : ClassId} (hD : ∀ σ, va_D A ((wC ad cI cX) σ)) (F : Nat) (v1 : Int32) (v2 : Int32) (v3 : Int32) (σ : xSt) (r : Int32) (σ' : xSt) (h : mX8_sit F v1 v2 v3 σ = some (r, σ')) : xM l yX8_sit cX8_sit 4 (some .int) ({ frames := 1, cells := 0, slots := 0, locals := 24 }) D (tyC cI cX) A (wC ad cI cX) [.ref (ad 0), .int v1, .int v2, .int v3] σ (xQi D A (wC ad cI cX) r σ') := by
  refine xM_of (lv := [(0, .ref (ad 0)), (1, .int v1), (2, .int v2), (3, .int v3)]) [.ref (ad 0), .int v1, .int v2, .int v3] (by decide) hD rfl (Nat.le_of_ble_eq_true rfl) ?_
  intro p e s m args below meth c X hr hl
  unfold mX8_sit at h
  refine x_iload_n (pc := 0) X dX8_sit_0 rfl 1 rfl ?_
  obtain ⟨r1, σ1, hq1, h⟩ := xb2_some h
  refine x_calliS (pc := 1) (As := [.int v1]) (rest := []) X (kX8_noHour l X.2.2.2.2.2.2.2 F _ _ _ _ hq1) kvX8_100 ⟨rfl, rfl, Nat.le_of_ble_eq_true rfl, Nat.le_of_ble_eq_true rfl⟩ rfl rfl (Nat.le_of_ble_eq_true rfl) dX8_sit_1 ?_
  refine x_if_ne (pc := 4) X 21 dX8_sit_4 (by decide) (fun hc => ?_) (fun hc => ?_)
  · have h := xif hc h
    refine x_sub [] rfl ?_
    exact wX8_sit_L21 X hr hl F _ h
  · have h := xit hc h
    refine x_iload_n (pc := 7) X dX8_sit_7 rfl 2 rfl ?_
    obtain ⟨r8, σ8, hq8, h⟩ := xb2_some h
    refine x_calliS (pc := 8) (As := [.int v2]) (rest := []) X (kX8_noPersonNumber l X.2.2.2.2.2.2.2 F _ _ _ _ hq8) kvX8_103 ⟨rfl, rfl, Nat.le_of_ble_eq_true rfl, Nat.le_of_ble_eq_true rfl⟩ rfl rfl (Nat.le_of_ble_eq_true rfl) dX8_sit_8 ?_
    refine x_if_ne (pc := 11) X 21 dX8_sit_11 (by decide) (fun hc => ?_) (fun hc => ?_)
    · have h := xif hc h
      refine x_sub [] rfl ?_
      exact wX8_sit_L21 X hr hl F _ h
    · have h := xit hc h
      refine x_iload_n (pc := 14) X dX8_sit_14 rfl 3 rfl ?_
      obtain ⟨r15, σ15, hq15, h⟩ := xb2_some h
      refine x_calliS (pc := 15) (As := [.int v3]) (rest := []) X (kX8_noThingNumber l X.2.2.2.2.2.2.2 F _ _ _ _ hq15) kvX8_106 ⟨rfl, rfl, Nat.le_of_ble_eq_true rfl, Nat.le_of_ble_eq_true rfl⟩ rfl rfl (Nat.le_of_ble_eq_true rfl) dX8_sit_15 ?_
      refine x_if_eq (pc := 18) X 24 dX8_sit_18 (by decide) (fun hc => ?_) (fun hc => ?_)
      · have h := xit hc h
        refine x_aload_n (pc := 24) X dX8_sit_24 rfl 0 rfl ?_
        refine gX8_12 (pc := 25) X dX8_sit_25 ?_
        refine gX8_109 (pc := 28) X dX8_sit_28 ?_
        obtain ⟨r31, σ31, hq31, h⟩ := xb2_some h
        refine x_calliV (pc := 31) (As := []) (rest := []) X (kX7_isFull l X.2.2.2.2.2.2.2 F 0 (by decide) _ _ _ hq31) kvX8_112 rfl (qX7 0 (by decide)) ⟨rfl, rfl, Nat.le_of_ble_eq_true rfl, Nat.le_of_ble_eq_true rfl⟩ rfl rfl (Nat.le_of_ble_eq_true rfl) dX8_sit_31 ?_
        refine x_if_eq (pc := 34) X 40 dX8_sit_34 (by decide) (fun hc => ?_) (fun hc => ?_)
        · have h := xit hc h
          refine x_aload_n (pc := 40) X dX8_sit_40 rfl 0 rfl ?_
          refine gX8_12 (pc := 41) X dX8_sit_41 ?_
          refine gX8_109 (pc := 44) X dX8_sit_44 ?_
          refine x_iload_n (pc := 47) X dX8_sit_47 rfl 1 rfl ?_
          refine x_iload_n (pc := 48) X dX8_sit_48 rfl 3 rfl ?_
          refine x_iload_n (pc := 49) X dX8_sit_49 rfl 2 rfl ?_
          obtain ⟨σ50, hq50, h⟩ := xb1_some h
          refine x_callvV (pc := 50) (As := [.int v1, .int v3, .int v2]) (rest := []) X (kX7_add l X.2.2.2.2.2.2.2 F 0 (by decide) _ _ _ _ _ hq50) kvX8_113 rfl (qX7 0 (by decide)) ⟨rfl, rfl, Nat.le_of_ble_eq_true rfl, Nat.le_of_ble_eq_true rfl⟩ rfl rfl (Nat.le_of_ble_eq_true rfl) dX8_sit_50 ?_
          refine x_aload_n (pc := 53) X dX8_sit_53 rfl 0 rfl ?_
          refine gX8_12 (pc := 54) X dX8_sit_54 ?_
          refine gX8_109 (pc := 57) X dX8_sit_57 ?_
          refine gX8_117 (pc := 60) X 0 (by decide) dX8_sit_60 ?_
          exact x_iret (pc := 63) X hr hl h dX8_sit_63
        · have h := xif hc h
          refine x_bipush (pc := 37) (v := (-4)) X dX8_sit_37 (by decide) ?_
          exact x_iret (pc := 39) X hr hl h dX8_sit_39
      · have h := xif hc h
        refine x_sub [] rfl ?_
        exact wX8_sit_L21 X hr hl F _ h
set_option maxRecDepth 100000 in
set_option maxHeartbeats 4000000 in
theorem wX8_window_L14 {p : Program} {l : Launch} {e : Env} {s : State} {m : MethodId} {args : Array Value} {below : List Frame} {meth : Method} {c : Code} {D : va_G} {A : Nat → Prop} {ad : Nat → Nat} {cI cX : ClassId} {r : Int32} {σ' : xSt} (X : xX p s m args c cX8_window 3 RX8 D (tyC cI cX) A (wC ad cI cX)) (hr : meth.sig.returnType = (some .int)) (hl : meth.locks = false) (F : Nat) (σ : xSt) (h : mX8_window_L14 F σ = some (r, σ')) : xG p l e ({ frames := 1, cells := 0, slots := 0, locals := 24 }) s m args below meth c (MQ below (xQi D A (wC ad cI cX) r σ') args s 0 0 A) 3 D A (wC ad cI cX) σ 14 [] [] := by
  unfold mX8_window_L14 at h
  refine x_bipush (pc := 14) (v := (-2)) X dX8_window_14 (by decide) ?_
  exact x_iret (pc := 16) X hr hl h dX8_window_16
set_option maxRecDepth 100000 in
set_option maxHeartbeats 4000000 in
theorem kX8_window (l : Launch) {D : va_G} {A : Nat → Prop} {ad : Nat → Nat} {cI cX : ClassId} (hD : ∀ σ, va_D A ((wC ad cI cX) σ)) (F : Nat) (v1 : Int32) (v2 : Int32) (σ : xSt) (r : Int32) (σ' : xSt) (h : mX8_window F v1 v2 σ = some (r, σ')) : xM l yX8_window cX8_window 3 (some .int) ({ frames := 1, cells := 0, slots := 0, locals := 24 }) D (tyC cI cX) A (wC ad cI cX) [.ref (ad 0), .int v1, .int v2] σ (xQi D A (wC ad cI cX) r σ') := by
  refine xM_of (lv := [(0, .ref (ad 0)), (1, .int v1), (2, .int v2)]) [.ref (ad 0), .int v1, .int v2] (by decide) hD rfl (Nat.le_of_ble_eq_true rfl) ?_
  intro p e s m args below meth c X hr hl
  unfold mX8_window at h
  refine x_iload_n (pc := 0) X dX8_window_0 rfl 1 rfl ?_
  obtain ⟨r1, σ1, hq1, h⟩ := xb2_some h
  refine x_calliS (pc := 1) (As := [.int v1]) (rest := []) X (kX8_noHour l X.2.2.2.2.2.2.2 F _ _ _ _ hq1) kvX8_100 ⟨rfl, rfl, Nat.le_of_ble_eq_true rfl, Nat.le_of_ble_eq_true rfl⟩ rfl rfl (Nat.le_of_ble_eq_true rfl) dX8_window_1 ?_
  refine x_if_ne (pc := 4) X 14 dX8_window_4 (by decide) (fun hc => ?_) (fun hc => ?_)
  · have h := xif hc h
    refine x_sub [] rfl ?_
    exact wX8_window_L14 X hr hl F _ h
  · have h := xit hc h
    refine x_iload_n (pc := 7) X dX8_window_7 rfl 2 rfl ?_
    obtain ⟨r8, σ8, hq8, h⟩ := xb2_some h
    refine x_calliS (pc := 8) (As := [.int v2]) (rest := []) X (kX8_noThingNumber l X.2.2.2.2.2.2.2 F _ _ _ _ hq8) kvX8_106 ⟨rfl, rfl, Nat.le_of_ble_eq_true rfl, Nat.le_of_ble_eq_true rfl⟩ rfl rfl (Nat.le_of_ble_eq_true rfl) dX8_window_8 ?_
    refine x_if_eq (pc := 11) X 17 dX8_window_11 (by decide) (fun hc => ?_) (fun hc => ?_)
    · have h := xit hc h
      refine x_aload_n (pc := 17) X dX8_window_17 rfl 0 rfl ?_
      refine gX8_12 (pc := 18) X dX8_window_18 ?_
      refine gX8_120 (pc := 21) X dX8_window_21 ?_
      obtain ⟨r24, σ24, hq24, h⟩ := xb2_some h
      refine x_calliV (pc := 24) (As := []) (rest := []) X (kX7_isFull l X.2.2.2.2.2.2.2 F 1 (by decide) _ _ _ hq24) kvX8_112 rfl (qX7 1 (by decide)) ⟨rfl, rfl, Nat.le_of_ble_eq_true rfl, Nat.le_of_ble_eq_true rfl⟩ rfl rfl (Nat.le_of_ble_eq_true rfl) dX8_window_24 ?_
      refine x_if_eq (pc := 27) X 33 dX8_window_27 (by decide) (fun hc => ?_) (fun hc => ?_)
      · have h := xit hc h
        refine x_aload_n (pc := 33) X dX8_window_33 rfl 0 rfl ?_
        refine gX8_12 (pc := 34) X dX8_window_34 ?_
        refine gX8_120 (pc := 37) X dX8_window_37 ?_
        refine x_iload_n (pc := 40) X dX8_window_40 rfl 1 rfl ?_
        refine x_iload_n (pc := 41) X dX8_window_41 rfl 2 rfl ?_
        refine x_iconst (pc := 42) (v := 0) X dX8_window_42 (by decide) ?_
        obtain ⟨σ43, hq43, h⟩ := xb1_some h
        refine x_callvV (pc := 43) (As := [.int v1, .int v2, .int 0]) (rest := []) X (kX7_add l X.2.2.2.2.2.2.2 F 1 (by decide) _ _ _ _ _ hq43) kvX8_113 rfl (qX7 1 (by decide)) ⟨rfl, rfl, Nat.le_of_ble_eq_true rfl, Nat.le_of_ble_eq_true rfl⟩ rfl rfl (Nat.le_of_ble_eq_true rfl) dX8_window_43 ?_
        refine x_aload_n (pc := 46) X dX8_window_46 rfl 0 rfl ?_
        refine gX8_12 (pc := 47) X dX8_window_47 ?_
        refine gX8_120 (pc := 50) X dX8_window_50 ?_
        refine gX8_117 (pc := 53) X 1 (by decide) dX8_window_53 ?_
        exact x_iret (pc := 56) X hr hl h dX8_window_56
      · have h := xif hc h
        refine x_bipush (pc := 30) (v := (-4)) X dX8_window_30 (by decide) ?_
        exact x_iret (pc := 32) X hr hl h dX8_window_32
    · have h := xif hc h
      refine x_sub [] rfl ?_
      exact wX8_window_L14 X hr hl F _ h
set_option maxRecDepth 100000 in
set_option maxHeartbeats 4000000 in
theorem wX8_back_L33 {p : Program} {l : Launch} {e : Env} {s : State} {m : MethodId} {args : Array Value} {below : List Frame} {meth : Method} {c : Code} {D : va_G} {A : Nat → Prop} {ad : Nat → Nat} {cI cX : ClassId} {r : Int32} {σ' : xSt} (X : xX p s m args c cX8_back 3 RX8 D (tyC cI cX) A (wC ad cI cX)) (hr : meth.sig.returnType = (some .int)) (hl : meth.locks = false) (F : Nat) (kt0 : Nat) (σ : xSt) (h : mX8_back_L33 F kt0 σ = some (r, σ')) : xG p l e ({ frames := 1, cells := 0, slots := 0, locals := 22 }) s m args below meth c (MQ below (xQi D A (wC ad cI cX) r σ') args s 0 0 A) 3 D A (wC ad cI cX) σ 33 [] [.ref (ad (22 + kt0))] := by
  unfold mX8_back_L33 at h
  obtain ⟨hkt0, h⟩ := xck_some h
  have hkt0 := of_decide_eq_true hkt0
  refine x_astore_n (pc := 33) (lv' := [(2, .ref (ad (22 + kt0)))]) X dX8_back_33 rfl (by decide) rfl ?_
  refine x_aload_n (pc := 34) X dX8_back_34 rfl 0 rfl ?_
  refine gX8_117 (pc := 35) X kt0 hkt0 dX8_back_35 ?_
  refine x_if_ne (pc := 38) X 44 dX8_back_38 (by decide) (fun hc => ?_) (fun hc => ?_)
  · have h := xif hc h
    refine x_aload_n (pc := 44) X dX8_back_44 rfl 0 rfl ?_
    obtain ⟨σ45, hq45, h⟩ := xb1_some h
    refine x_callvV (pc := 45) (As := []) (rest := []) X (kX7_drop l X.2.2.2.2.2.2.2 F kt0 hkt0 _ _ hq45) kvX8_123 rfl (qX7 kt0 hkt0) ⟨rfl, rfl, Nat.le_of_ble_eq_true rfl, Nat.le_of_ble_eq_true rfl⟩ rfl rfl (Nat.le_of_ble_eq_true rfl) dX8_back_45 ?_
    refine x_aload_n (pc := 48) X dX8_back_48 rfl 0 rfl ?_
    refine gX8_117 (pc := 49) X kt0 hkt0 dX8_back_49 ?_
    exact x_iret (pc := 52) X hr hl h dX8_back_52
  · have h := xit hc h
    refine x_bipush (pc := 41) (v := (-3)) X dX8_back_41 (by decide) ?_
    exact x_iret (pc := 43) X hr hl h dX8_back_43
set_option maxRecDepth 100000 in
set_option maxHeartbeats 4000000 in
theorem wX8_back_L12 {p : Program} {l : Launch} {e : Env} {s : State} {m : MethodId} {args : Array Value} {below : List Frame} {meth : Method} {c : Code} {D : va_G} {A : Nat → Prop} {ad : Nat → Nat} {cI cX : ClassId} {r : Int32} {σ' : xSt} (X : xX p s m args c cX8_back 3 RX8 D (tyC cI cX) A (wC ad cI cX)) (hr : meth.sig.returnType = (some .int)) (hl : meth.locks = false) (F : Nat) (v1 : Int32) (σ : xSt) (h : mX8_back_L12 F v1 σ = some (r, σ')) : xG p l e ({ frames := 1, cells := 0, slots := 0, locals := 22 }) s m args below meth c (MQ below (xQi D A (wC ad cI cX) r σ') args s 0 0 A) 3 D A (wC ad cI cX) σ 12 [(0, .ref (ad 0)), (1, .int v1)] [] := by
  unfold mX8_back_L12 at h
  refine x_iload_n (pc := 12) X dX8_back_12 rfl 1 rfl ?_
  refine x_if_ne (pc := 13) X 26 dX8_back_13 (by decide) (fun hc => ?_) (fun hc => ?_)
  · have h := xif hc h
    refine x_aload_n (pc := 26) X dX8_back_26 rfl 0 rfl ?_
    refine gX8_12 (pc := 27) X dX8_back_27 ?_
    refine gX8_120 (pc := 30) X dX8_back_30 ?_
    refine x_sub [] rfl ?_
    exact wX8_back_L33 X hr hl F _ _ h
  · have h := xit hc h
    refine x_aload_n (pc := 16) X dX8_back_16 rfl 0 rfl ?_
    refine gX8_12 (pc := 17) X dX8_back_17 ?_
    refine gX8_109 (pc := 20) X dX8_back_20 ?_
    refine x_goto (pc := 23) X 33 dX8_back_23 (by decide) ?_
    refine x_sub [] rfl ?_
    exact wX8_back_L33 X hr hl F _ _ h
set_option maxRecDepth 100000 in
set_option maxHeartbeats 4000000 in
theorem kX8_back (l : Launch) {D : va_G} {A : Nat → Prop} {ad : Nat → Nat} {cI cX : ClassId} (hD : ∀ σ, va_D A ((wC ad cI cX) σ)) (F : Nat) (v1 : Int32) (σ : xSt) (r : Int32) (σ' : xSt) (h : mX8_back F v1 σ = some (r, σ')) : xM l yX8_back cX8_back 3 (some .int) ({ frames := 1, cells := 0, slots := 0, locals := 22 }) D (tyC cI cX) A (wC ad cI cX) [.ref (ad 0), .int v1] σ (xQi D A (wC ad cI cX) r σ') := by
  refine xM_of (lv := [(0, .ref (ad 0)), (1, .int v1)]) [.ref (ad 0), .int v1] (by decide) hD rfl (Nat.le_of_ble_eq_true rfl) ?_
  intro p e s m args below meth c X hr hl
  unfold mX8_back at h
  refine x_iload_n (pc := 0) X dX8_back_0 rfl 1 rfl ?_
  refine x_if_eq (pc := 1) X 12 dX8_back_1 (by decide) (fun hc => ?_) (fun hc => ?_)
  · have h := xit hc h
    refine x_sub [0, 1] rfl ?_
    exact wX8_back_L12 X hr hl F _ _ h
  · have h := xif hc h
    refine x_iload_n (pc := 4) X dX8_back_4 rfl 1 rfl ?_
    refine x_iconst (pc := 5) (v := 1) X dX8_back_5 (by decide) ?_
    refine x_icmp_eq (pc := 6) X 12 dX8_back_6 (by decide) (fun hc => ?_) (fun hc => ?_)
    · have h := xit hc h
      refine x_sub [0, 1] rfl ?_
      exact wX8_back_L12 X hr hl F _ _ h
    · have h := xif hc h
      refine x_bipush (pc := 9) (v := (-2)) X dX8_back_9 (by decide) ?_
      exact x_iret (pc := 11) X hr hl h dX8_back_11
set_option maxRecDepth 100000 in
set_option maxHeartbeats 4000000 in
theorem wX8_noSheet_L14 {p : Program} {l : Launch} {e : Env} {s : State} {m : MethodId} {args : Array Value} {below : List Frame} {meth : Method} {c : Code} {D : va_G} {A : Nat → Prop} {ad : Nat → Nat} {cI cX : ClassId} {r : Int32} {σ' : xSt} (X : xX p s m args c cX8_noSheet 1 RX8 D (tyC cI cX) A (wC ad cI cX)) (hr : meth.sig.returnType = (some .boolean)) (hl : meth.locks = false) (F : Nat) (t0 : Int32) (σ : xSt) (h : mX8_noSheet_L14 F t0 σ = some (r, σ')) : xG p l e ({ frames := 0, cells := 0, slots := 0, locals := 0 }) s m args below meth c (MQ below (xQi D A (wC ad cI cX) r σ') args s 0 0 A) 1 D A (wC ad cI cX) σ 14 [] [.int t0] := by
  unfold mX8_noSheet_L14 at h
  obtain ⟨hb14, h⟩ := xck_some h
  exact x_zret (pc := 14) X hr hl hb14 h dX8_noSheet_14
set_option maxRecDepth 100000 in
set_option maxHeartbeats 4000000 in
theorem wX8_noSheet_L9 {p : Program} {l : Launch} {e : Env} {s : State} {m : MethodId} {args : Array Value} {below : List Frame} {meth : Method} {c : Code} {D : va_G} {A : Nat → Prop} {ad : Nat → Nat} {cI cX : ClassId} {r : Int32} {σ' : xSt} (X : xX p s m args c cX8_noSheet 1 RX8 D (tyC cI cX) A (wC ad cI cX)) (hr : meth.sig.returnType = (some .boolean)) (hl : meth.locks = false) (F : Nat) (σ : xSt) (h : mX8_noSheet_L9 F σ = some (r, σ')) : xG p l e ({ frames := 0, cells := 0, slots := 0, locals := 0 }) s m args below meth c (MQ below (xQi D A (wC ad cI cX) r σ') args s 0 0 A) 1 D A (wC ad cI cX) σ 9 [] [] := by
  unfold mX8_noSheet_L9 at h
  refine x_iconst (pc := 9) (v := 1) X dX8_noSheet_9 (by decide) ?_
  refine x_goto (pc := 10) X 14 dX8_noSheet_10 (by decide) ?_
  refine x_sub [] rfl ?_
  exact wX8_noSheet_L14 X hr hl F _ _ h
set_option maxRecDepth 100000 in
set_option maxHeartbeats 4000000 in
theorem kX8_noSheet (l : Launch) {D : va_G} {A : Nat → Prop} {ad : Nat → Nat} {cI cX : ClassId} (hD : ∀ σ, va_D A ((wC ad cI cX) σ)) (F : Nat) (v0 : Int32) (σ : xSt) (r : Int32) (σ' : xSt) (h : mX8_noSheet F v0 σ = some (r, σ')) : xM l yX8_noSheet cX8_noSheet 1 (some .boolean) ({ frames := 0, cells := 0, slots := 0, locals := 0 }) D (tyC cI cX) A (wC ad cI cX) [.int v0] σ (xQi D A (wC ad cI cX) r σ') := by
  refine xM_of (lv := [(0, .int v0)]) [.int v0] (by decide) hD rfl (Nat.le_of_ble_eq_true rfl) ?_
  intro p e s m args below meth c X hr hl
  unfold mX8_noSheet at h
  refine x_iload_n (pc := 0) X dX8_noSheet_0 rfl 0 rfl ?_
  refine x_if_lt (pc := 1) X 9 dX8_noSheet_1 (by decide) (fun hc => ?_) (fun hc => ?_)
  · have h := xit hc h
    refine x_sub [] rfl ?_
    exact wX8_noSheet_L9 X hr hl F _ h
  · have h := xif hc h
    refine x_iload_n (pc := 4) X dX8_noSheet_4 rfl 0 rfl ?_
    refine x_iconst (pc := 5) (v := 4) X dX8_noSheet_5 (by decide) ?_
    refine x_icmp_lt (pc := 6) X 13 dX8_noSheet_6 (by decide) (fun hc => ?_) (fun hc => ?_)
    · have h := xit hc h
      refine x_iconst (pc := 13) (v := 0) X dX8_noSheet_13 (by decide) ?_
      refine x_sub [] rfl ?_
      exact wX8_noSheet_L14 X hr hl F _ _ h
    · have h := xif hc h
      refine x_sub [] rfl ?_
      exact wX8_noSheet_L9 X hr hl F _ h
