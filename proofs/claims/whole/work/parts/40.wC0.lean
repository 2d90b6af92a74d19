set_option maxRecDepth 100000 in
set_option maxHeartbeats 4000000 in
theorem wX0_become_L110 {p : Program} {l : Launch} {e : Env} {s : State} {m : MethodId} {args : Array Value} {below : List Frame} {meth : Method} {c : Code} {D : va_G} {A : Nat → Prop} {ad : Nat → Nat} {cI cX : ClassId} {σ' : xSt} (X : xX p s m args c cX0_become 12 RX0 D (tyC cI cX) A (wC ad cI cX)) (hr : meth.sig.returnType = none) (hl : meth.locks = false) (F : Nat) (t1 : Int64) (σ : xSt) (h : mX0_become_L110 F t1 σ = some σ') : xG p l e ({ frames := 1, cells := 0, slots := 0, locals := 23 }) s m args below meth c (MQ below (xQv D A (wC ad cI cX) σ') args s 0 0 A) 12 D A (wC ad cI cX) σ 110 [] [.long t1, .ref (ad 4)] := by
  unfold mX0_become_L110 at h
  refine uX0_13 (pc := 110) X dX0_become_110 ?_
  exact x_vret (pc := 113) X hr hl h dX0_become_113
set_option maxRecDepth 100000 in
set_option maxHeartbeats 4000000 in
theorem wX0_become_L93 {p : Program} {l : Launch} {e : Env} {s : State} {m : MethodId} {args : Array Value} {below : List Frame} {meth : Method} {c : Code} {D : va_G} {A : Nat → Prop} {ad : Nat → Nat} {cI cX : ClassId} {σ' : xSt} (X : xX p s m args c cX0_become 12 RX0 D (tyC cI cX) A (wC ad cI cX)) (hr : meth.sig.returnType = none) (hl : meth.locks = false) (F : Nat) (v3 : Int64) (v5 : Int64) (v9 : Int32) (t1 : Int64) (σ : xSt) (h : mX0_become_L93 F v3 v5 v9 t1 σ = some σ') : xG p l e ({ frames := 1, cells := 0, slots := 0, locals := 23 }) s m args below meth c (MQ below (xQv D A (wC ad cI cX) σ') args s 0 0 A) 12 D A (wC ad cI cX) σ 93 [(0, .ref (ad 4)), (3, .long v3), (5, .long v5), (9, .int v9)] [.long t1, .ref (ad 4)] := by
  unfold mX0_become_L93 at h
  refine uX0_7 (pc := 93) X dX0_become_93 ?_
  refine x_aload_n (pc := 96) X dX0_become_96 rfl 0 rfl ?_
  refine x_iload (pc := 97) X dX0_become_97 3 rfl ?_
  refine x_if_eq (pc := 99) X 106 dX0_become_99 (by decide) (fun hc => ?_) (fun hc => ?_)
  · have h := xit hc h
    refine x_lload_n (pc := 106) X dX0_become_106 rfl 1 rfl ?_
    refine x_lload (pc := 107) X dX0_become_107 2 rfl ?_
    obtain ⟨hb109, h⟩ := xck_some h
    refine x_ldiv (pc := 109) X dX0_become_109 (xnzL_n hb109) ?_
    refine x_sub [] rfl ?_
    exact wX0_become_L110 X hr hl F _ _ h
  · have h := xif hc h
    refine x_lconst (pc := 102) (v := 1) X dX0_become_102 rfl ?_
    refine x_goto (pc := 103) X 110 dX0_become_103 (by decide) ?_
    refine x_sub [] rfl ?_
    exact wX0_become_L110 X hr hl F _ _ h
set_option maxRecDepth 100000 in
set_option maxHeartbeats 4000000 in
theorem wX0_become_L77 {p : Program} {l : Launch} {e : Env} {s : State} {m : MethodId} {args : Array Value} {below : List Frame} {meth : Method} {c : Code} {D : va_G} {A : Nat → Prop} {ad : Nat → Nat} {cI cX : ClassId} {σ' : xSt} (X : xX p s m args c cX0_become 12 RX0 D (tyC cI cX) A (wC ad cI cX)) (hr : meth.sig.returnType = none) (hl : meth.locks = false) (F : Nat) (v1 : Int64) (v3 : Int64) (v5 : Int64) (t0 : Int32) (σ : xSt) (h : mX0_become_L77 F v1 v3 v5 t0 σ = some σ') : xG p l e ({ frames := 1, cells := 0, slots := 0, locals := 23 }) s m args below meth c (MQ below (xQv D A (wC ad cI cX) σ') args s 0 0 A) 12 D A (wC ad cI cX) σ 77 [(0, .ref (ad 4)), (1, .long v1), (3, .long v3), (5, .long v5)] [.int t0] := by
  unfold mX0_become_L77 at h
  refine x_istore (pc := 77) (lv' := [(9, .int t0), (0, .ref (ad 4)), (1, .long v1), (3, .long v3), (5, .long v5)]) X dX0_become_77 (by decide) rfl ?_
  refine x_aload_n (pc := 79) X dX0_become_79 rfl 1 rfl ?_
  refine x_iload (pc := 80) X dX0_become_80 0 rfl ?_
  refine x_if_eq (pc := 82) X 89 dX0_become_82 (by decide) (fun hc => ?_) (fun hc => ?_)
  · have h := xit hc h
    refine x_lload_n (pc := 89) X dX0_become_89 rfl 2 rfl ?_
    refine x_lload (pc := 90) X dX0_become_90 4 rfl ?_
    obtain ⟨hb92, h⟩ := xck_some h
    refine x_ldiv (pc := 92) X dX0_become_92 (xnzL_n hb92) ?_
    refine x_sub [1, 3, 4, 0] rfl ?_
    exact wX0_become_L93 X hr hl F _ _ _ _ _ h
  · have h := xif hc h
    refine x_lconst (pc := 85) (v := 0) X dX0_become_85 rfl ?_
    refine x_goto (pc := 86) X 93 dX0_become_86 (by decide) ?_
    refine x_sub [1, 3, 4, 0] rfl ?_
    exact wX0_become_L93 X hr hl F _ _ _ _ _ h
set_option maxRecDepth 100000 in
set_option maxHeartbeats 4000000 in
theorem wX0_become_L72 {p : Program} {l : Launch} {e : Env} {s : State} {m : MethodId} {args : Array Value} {below : List Frame} {meth : Method} {c : Code} {D : va_G} {A : Nat → Prop} {ad : Nat → Nat} {cI cX : ClassId} {σ' : xSt} (X : xX p s m args c cX0_become 12 RX0 D (tyC cI cX) A (wC ad cI cX)) (hr : meth.sig.returnType = none) (hl : meth.locks = false) (F : Nat) (v1 : Int64) (v3 : Int64) (v5 : Int64) (σ : xSt) (h : mX0_become_L72 F v1 v3 v5 σ = some σ') : xG p l e ({ frames := 1, cells := 0, slots := 0, locals := 23 }) s m args below meth c (MQ below (xQv D A (wC ad cI cX) σ') args s 0 0 A) 12 D A (wC ad cI cX) σ 72 [(0, .ref (ad 4)), (1, .long v1), (3, .long v3), (5, .long v5)] [] := by
  unfold mX0_become_L72 at h
  refine x_iconst (pc := 72) (v := 1) X dX0_become_72 (by decide) ?_
  refine x_goto (pc := 73) X 77 dX0_become_73 (by decide) ?_
  refine x_sub [0, 1, 2, 3] rfl ?_
  exact wX0_become_L77 X hr hl F _ _ _ _ _ h
set_option maxRecDepth 100000 in
set_option maxHeartbeats 4000000 in
theorem wX0_become_L53 {p : Program} {l : Launch} {e : Env} {s : State} {m : MethodId} {args : Array Value} {below : List Frame} {meth : Method} {c : Code} {D : va_G} {A : Nat → Prop} {ad : Nat → Nat} {cI cX : ClassId} {σ' : xSt} (X : xX p s m args c cX0_become 12 RX0 D (tyC cI cX) A (wC ad cI cX)) (hr : meth.sig.returnType = none) (hl : meth.locks = false) (F : Nat) (v1 : Int64) (v3 : Int64) (v5 : Int64) (σ : xSt) (h : mX0_become_L53 F v1 v3 v5 σ = some σ') : xG p l e ({ frames := 1, cells := 0, slots := 0, locals := 23 }) s m args below meth c (MQ below (xQv D A (wC ad cI cX) σ') args s 0 0 A) 12 D A (wC ad cI cX) σ 53 [(0, .ref (ad 4)), (1, .long v1), (3, .long v3), (5, .long v5)] [] := by
  unfold mX0_become_L53 at h
  refine x_lload_n (pc := 53) X dX0_become_53 rfl 1 rfl ?_
  refine x_lconst (pc := 54) (v := 0) X dX0_become_54 rfl ?_
  refine x_lcmp (pc := 55) X dX0_become_55 ?_
  refine x_if_eq (pc := 56) X 72 dX0_become_56 (by decide) (fun hc => ?_) (fun hc => ?_)
  · have h := xit hc h
    refine x_sub [0, 1, 2, 3] rfl ?_
    exact wX0_become_L72 X hr hl F _ _ _ _ h
  · have h := xif hc h
    refine x_lload_n (pc := 59) X dX0_become_59 rfl 2 rfl ?_
    refine x_lconst (pc := 60) (v := 0) X dX0_become_60 rfl ?_
    refine x_lcmp (pc := 61) X dX0_become_61 ?_
    refine x_if_eq (pc := 62) X 72 dX0_become_62 (by decide) (fun hc => ?_) (fun hc => ?_)
    · have h := xit hc h
      refine x_sub [0, 1, 2, 3] rfl ?_
      exact wX0_become_L72 X hr hl F _ _ _ _ h
    · have h := xif hc h
      refine x_lload (pc := 65) X dX0_become_65 3 rfl ?_
      refine x_lconst (pc := 67) (v := 0) X dX0_become_67 rfl ?_
      refine x_lcmp (pc := 68) X dX0_become_68 ?_
      refine x_if_ne (pc := 69) X 76 dX0_become_69 (by decide) (fun hc => ?_) (fun hc => ?_)
      · have h := xif hc h
        refine x_iconst (pc := 76) (v := 0) X dX0_become_76 (by decide) ?_
        refine x_sub [0, 1, 2, 3] rfl ?_
        exact wX0_become_L77 X hr hl F _ _ _ _ _ h
      · have h := xit hc h
        refine x_sub [0, 1, 2, 3] rfl ?_
        exact wX0_become_L72 X hr hl F _ _ _ _ h
set_option maxRecDepth 100000 in
set_option maxHeartbeats 4000000 in
theorem wX0_become_S17 {p : Program} {l : Launch} {e : Env} {s : State} {m : MethodId} {args : Array Value} {below : List Frame} {meth : Method} {c : Code} {D : va_G} {A : Nat → Prop} {ad : Nat → Nat} {cI cX : ClassId} {σ' : xSt} {c17 : Int64 → Int64 → Int64 → Int64 → Int32 → xSt → Option (xSt)} (X : xX p s m args c cX0_become 12 RX0 D (tyC cI cX) A (wC ad cI cX)) (hr : meth.sig.returnType = none) (hl : meth.locks = false) (F : Nat) (hc17 : ∀ (v1 : Int64) (v3 : Int64) (v5 : Int64) (v7 : Int64) (v9 : Int32) (σ : xSt), c17 v1 v3 v5 v7 v9 σ = some σ' → xG p l e ({ frames := 1, cells := 0, slots := 0, locals := 23 }) s m args below meth c (MQ below (xQv D A (wC ad cI cX) σ') args s 0 0 A) 12 D A (wC ad cI cX) σ 17 [(0, .ref (ad 4)), (1, .long v1), (3, .long v3), (5, .long v5), (7, .long v7), (9, .int v9)] []) (v1 : Int64) (v3 : Int64) (v5 : Int64) (v7 : Int64) (v9 : Int32) (σ : xSt) (h : mX0_become_S17 F c17 v1 v3 v5 v7 v9 σ = some σ') : xG p l e ({ frames := 1, cells := 0, slots := 0, locals := 23 }) s m args below meth c (MQ below (xQv D A (wC ad cI cX) σ') args s 0 0 A) 12 D A (wC ad cI cX) σ 17 [(0, .ref (ad 4)), (1, .long v1), (3, .long v3), (5, .long v5), (7, .long v7), (9, .int v9)] [] := by
  unfold mX0_become_S17 at h
  refine x_iload (pc := 17) X dX0_become_17 5 rfl ?_
  refine x_sipush (pc := 19) (v := 200) X dX0_become_19 (by decide) ?_
  refine x_icmp_ge (pc := 22) X 53 dX0_become_22 (by decide) (fun hc => ?_) (fun hc => ?_)
  · have h := xit hc h
    refine x_sub [0, 1, 2, 3] rfl ?_
    exact wX0_become_L53 X hr hl F _ _ _ _ h
  · have h := xif hc h
    refine x_lload (pc := 25) X dX0_become_25 4 rfl ?_
    refine x_lconst (pc := 27) (v := 0) X dX0_become_27 rfl ?_
    refine x_lcmp (pc := 28) X dX0_become_28 ?_
    refine x_if_eq (pc := 29) X 53 dX0_become_29 (by decide) (fun hc => ?_) (fun hc => ?_)
    · have h := xit hc h
      refine x_sub [0, 1, 2, 3] rfl ?_
      exact wX0_become_L53 X hr hl F _ _ _ _ h
    · have h := xif hc h
      refine x_lload (pc := 32) X dX0_become_32 3 rfl ?_
      refine x_lload (pc := 34) X dX0_become_34 4 rfl ?_
      obtain ⟨hb36, h⟩ := xck_some h
      refine x_lrem (pc := 36) X dX0_become_36 (xnzL_n hb36) ?_
      refine x_lstore (pc := 37) (lv' := [(10, .long (v5 - v5 / v7 * v7)), (0, .ref (ad 4)), (1, .long v1), (3, .long v3), (5, .long v5), (7, .long v7), (9, .int v9)]) X dX0_become_37 (by decide) rfl ?_
      refine x_lload (pc := 39) X dX0_become_39 5 rfl ?_
      refine x_lstore (pc := 41) (lv' := [(5, .long v7), (10, .long (v5 - v5 / v7 * v7)), (0, .ref (ad 4)), (1, .long v1), (3, .long v3), (7, .long v7), (9, .int v9)]) X dX0_become_41 (by decide) rfl ?_
      refine x_lload (pc := 43) X dX0_become_43 1 rfl ?_
      refine x_lstore (pc := 45) (lv' := [(7, .long (v5 - v5 / v7 * v7)), (5, .long v7), (10, .long (v5 - v5 / v7 * v7)), (0, .ref (ad 4)), (1, .long v1), (3, .long v3), (9, .int v9)]) X dX0_become_45 (by decide) rfl ?_
      refine x_iinc (pc := 47) (v := (v9 + 1)) (lv' := [(9, .int (v9 + 1)), (7, .long (v5 - v5 / v7 * v7)), (5, .long v7), (10, .long (v5 - v5 / v7 * v7)), (0, .ref (ad 4)), (1, .long v1), (3, .long v3)]) X dX0_become_47 6 rfl rfl (by decide) rfl ?_
      refine x_goto (pc := 50) X 17 dX0_become_50 (by decide) ?_
      refine x_sub [4, 5, 6, 2, 1, 0] rfl ?_
      exact hc17 _ _ _ _ _ _ h
theorem wX0_become_L17 {p : Program} {l : Launch} {e : Env} {s : State} {m : MethodId} {args : Array Value} {below : List Frame} {meth : Method} {c : Code} {D : va_G} {A : Nat → Prop} {ad : Nat → Nat} {cI cX : ClassId} {σ' : xSt} (X : xX p s m args c cX0_become 12 RX0 D (tyC cI cX) A (wC ad cI cX)) (hr : meth.sig.returnType = none) (hl : meth.locks = false) (F : Nat) : ∀ (n : Nat) (v1 : Int64) (v3 : Int64) (v5 : Int64) (v7 : Int64) (v9 : Int32) (σ : xSt), mX0_become_L17 F n v1 v3 v5 v7 v9 σ = some σ' → xG p l e ({ frames := 1, cells := 0, slots := 0, locals := 23 }) s m args below meth c (MQ below (xQv D A (wC ad cI cX) σ') args s 0 0 A) 12 D A (wC ad cI cX) σ 17 [(0, .ref (ad 4)), (1, .long v1), (3, .long v3), (5, .long v5), (7, .long v7), (9, .int v9)] [] := by
  intro n
  induction n with
  | zero => intro v1 v3 v5 v7 v9 σ h; cases h
  | succ n ih => intro v1 v3 v5 v7 v9 σ h; exact wX0_become_S17 X hr hl F ih v1 v3 v5 v7 v9 σ h
set_option maxRecDepth 100000 in
set_option maxHeartbeats 4000000 in
theorem kX0_become (l : Launch) {D : va_G} {A : Nat → Prop} {ad : Nat → Nat} {cI cX : ClassId} (hD : ∀ σ, va_D A ((wC ad cI cX) σ)) (F : Nat) (v1 : Int64) (v3 : Int64) (σ : xSt) (σ' : xSt) (h : mX0_become F v1 v3 σ = some σ') : xM l yX0_become cX0_become 12 none ({ frames := 1, cells := 0, slots := 0, locals := 23 }) D (tyC cI cX) A (wC ad cI cX) [.ref (ad 4), .long v1, .long v3] σ (xQv D A (wC ad cI cX) σ') := by
  refine xM_of (lv := [(0, .ref (ad 4)), (1, .long v1), (3, .long v3)]) [.ref (ad 4), .long v1, .long v3] (by decide) hD rfl (Nat.le_of_ble_eq_true rfl) ?_
  intro p e s m args below meth c X hr hl
  unfold mX0_become at h
  refine x_lload_n (pc := 0) X dX0_become_0 rfl 1 rfl ?_
  refine x_lload_n (pc := 1) X dX0_become_1 rfl 2 rfl ?_
  refine x_mmaxL (pc := 2) X kvX0_16 ⟨Nat.le_of_ble_eq_true rfl, Nat.le_of_ble_eq_true rfl⟩ dX0_become_2 ?_
  refine x_lstore (pc := 5) (lv' := [(5, .long (if v3 < v1 then v1 else v3)), (0, .ref (ad 4)), (1, .long v1), (3, .long v3)]) X dX0_become_5 (by decide) rfl ?_
  refine x_lload_n (pc := 7) X dX0_become_7 rfl 2 rfl ?_
  refine x_lload_n (pc := 8) X dX0_become_8 rfl 3 rfl ?_
  refine x_mminL (pc := 9) X kvX0_22 ⟨Nat.le_of_ble_eq_true rfl, Nat.le_of_ble_eq_true rfl⟩ dX0_become_9 ?_
  refine x_lstore (pc := 12) (lv' := [(7, .long (if v3 < v1 then v3 else v1)), (5, .long (if v3 < v1 then v1 else v3)), (0, .ref (ad 4)), (1, .long v1), (3, .long v3)]) X dX0_become_12 (by decide) rfl ?_
  refine x_iconst (pc := 14) (v := 0) X dX0_become_14 (by decide) ?_
  refine x_istore (pc := 15) (lv' := [(9, .int 0), (7, .long (if v3 < v1 then v3 else v1)), (5, .long (if v3 < v1 then v1 else v3)), (0, .ref (ad 4)), (1, .long v1), (3, .long v3)]) X dX0_become_15 (by decide) rfl ?_
  refine x_sub [3, 4, 5, 2, 1, 0] rfl ?_
  exact wX0_become_L17 X hr hl F F _ _ _ _ _ _ h
set_option maxRecDepth 100000 in
set_option maxHeartbeats 4000000 in
theorem wX2_lacksThing_L20 {p : Program} {l : Launch} {e : Env} {s : State} {m : MethodId} {args : Array Value} {below : List Frame} {meth : Method} {c : Code} {D : va_G} {A : Nat → Prop} {ad : Nat → Nat} {cI cX : ClassId} {r : Int32} {σ' : xSt} (X : xX p s m args c cX2_lacksThing 2 RX2 D (tyC cI cX) A (wC ad cI cX)) (hr : meth.sig.returnType = (some .boolean)) (hl : meth.locks = false) (F : Nat) (t0 : Int32) (σ : xSt) (h : mX2_lacksThing_L20 F t0 σ = some (r, σ')) : xG p l e ({ frames := 0, cells := 0, slots := 0, locals := 0 }) s m args below meth c (MQ below (xQi D A (wC ad cI cX) r σ') args s 0 0 A) 2 D A (wC ad cI cX) σ 20 [] [.int t0] := by
  unfold mX2_lacksThing_L20 at h
  obtain ⟨hb20, h⟩ := xck_some h
  exact x_zret (pc := 20) X hr hl hb20 h dX2_lacksThing_20
set_option maxRecDepth 100000 in
set_option maxHeartbeats 4000000 in
theorem wX2_lacksThing_L15 {p : Program} {l : Launch} {e : Env} {s : State} {m : MethodId} {args : Array Value} {below : List Frame} {meth : Method} {c : Code} {D : va_G} {A : Nat → Prop} {ad : Nat → Nat} {cI cX : ClassId} {r : Int32} {σ' : xSt} (X : xX p s m args c cX2_lacksThing 2 RX2 D (tyC cI cX) A (wC ad cI cX)) (hr : meth.sig.returnType = (some .boolean)) (hl : meth.locks = false) (F : Nat) (σ : xSt) (h : mX2_lacksThing_L15 F σ = some (r, σ')) : xG p l e ({ frames := 0, cells := 0, slots := 0, locals := 0 }) s m args below meth c (MQ below (xQi D A (wC ad cI cX) r σ') args s 0 0 A) 2 D A (wC ad cI cX) σ 15 [] [] := by
  unfold mX2_lacksThing_L15 at h
  refine x_iconst (pc := 15) (v := 1) X dX2_lacksThing_15 (by decide) ?_
  refine x_goto (pc := 16) X 20 dX2_lacksThing_16 (by decide) ?_
  refine x_sub [] rfl ?_
  exact wX2_lacksThing_L20 X hr hl F _ _ h
set_option maxRecDepth 100000 in
set_option maxHeartbeats 4000000 in
theorem kX2_lacksThing (l : Launch) {D : va_G} {A : Nat → Prop} {ad : Nat → Nat} {cI cX : ClassId} (hD : ∀ σ, va_D A ((wC ad cI cX) σ)) (F : Nat) (v1 : Int32) (σ : xSt) (r : Int32) (σ' : xSt) (h : mX2_lacksThing F v1 σ = some (r, σ')) : xM l yX2_lacksThing cX2_lacksThing 2 (some .boolean) ({ frames := 0, cells := 0, slots := 0, locals := 0 }) D (tyC cI cX) A (wC ad cI cX) [.ref (ad 1), .int v1] σ (xQi D A (wC ad cI cX) r σ') := by
  refine xM_of (lv := [(0, .ref (ad 1)), (1, .int v1)]) [.ref (ad 1), .int v1] (by decide) hD rfl (Nat.le_of_ble_eq_true rfl) ?_
  intro p e s m args below meth c X hr hl
  unfold mX2_lacksThing at h
  refine x_iload_n (pc := 0) X dX2_lacksThing_0 rfl 1 rfl ?_
  refine x_if_lt (pc := 1) X 15 dX2_lacksThing_1 (by decide) (fun hc => ?_) (fun hc => ?_)
  · have h := xit hc h
    refine x_sub [] rfl ?_
    exact wX2_lacksThing_L15 X hr hl F _ h
  · have h := xif hc h
    refine x_iload_n (pc := 4) X dX2_lacksThing_4 rfl 1 rfl ?_
    refine x_aload_n (pc := 5) X dX2_lacksThing_5 rfl 0 rfl ?_
    refine gX2_14 (pc := 6) X dX2_lacksThing_6 ?_
    refine gX2_42 (pc := 9) X 0 (by decide) dX2_lacksThing_9 ?_
    refine x_icmp_lt (pc := 12) X 19 dX2_lacksThing_12 (by decide) (fun hc => ?_) (fun hc => ?_)
    · have h := xit hc h
      refine x_iconst (pc := 19) (v := 0) X dX2_lacksThing_19 (by decide) ?_
      refine x_sub [] rfl ?_
      exact wX2_lacksThing_L20 X hr hl F _ _ h
    · have h := xif hc h
      refine x_sub [] rfl ?_
      exact wX2_lacksThing_L15 X hr hl F _ h
set_option maxRecDepth 100000 in
set_option maxHeartbeats 4000000 in
theorem kX3_begin (l : Launch) {D : va_G} {A : Nat → Prop} {ad : Nat → Nat} {cI cX : ClassId} (hD : ∀ σ, va_D A ((wC ad cI cX) σ)) (F : Nat) (v1 : Int32) (σ : xSt) (σ' : xSt) (h : mX3_begin F v1 σ = some σ') : xM l yX3_begin cX3_begin 2 none ({ frames := 0, cells := 0, slots := 0, locals := 0 }) D (tyC cI cX) A (wC ad cI cX) [.ref (ad 5), .int v1] σ (xQv D A (wC ad cI cX) σ') := by
  refine xM_of (lv := [(0, .ref (ad 5)), (1, .int v1)]) [.ref (ad 5), .int v1] (by decide) hD rfl (Nat.le_of_ble_eq_true rfl) ?_
  intro p e s m args below meth c X hr hl
  unfold mX3_begin at h
  refine x_aload_n (pc := 0) X dX3_begin_0 rfl 0 rfl ?_
  refine x_iload_n (pc := 1) X dX3_begin_1 rfl 1 rfl ?_
  obtain ⟨hb2, h⟩ := xck_some h
  refine uX3_25 (pc := 2) X hb2 dX3_begin_2 ?_
  refine x_aload_n (pc := 5) X dX3_begin_5 rfl 0 rfl ?_
  refine x_iconst (pc := 6) (v := 0) X dX3_begin_6 (by decide) ?_
  refine uX3_21 (pc := 7) X dX3_begin_7 ?_
  exact x_vret (pc := 10) X hr hl h dX3_begin_10
set_option maxRecDepth 100000 in
set_option maxHeartbeats 4000000 in
theorem wX3_fade_L70 {p : Program} {l : Launch} {e : Env} {s : State} {m : MethodId} {args : Array Value} {below : List Frame} {meth : Method} {c : Code} {D : va_G} {A : Nat → Prop} {ad : Nat → Nat} {cI cX : ClassId} {σ' : xSt} (X : xX p s m args c cX3_fade 4 RX3 D (tyC cI cX) A (wC ad cI cX)) (hr : meth.sig.returnType = none) (hl : meth.locks = false) (F : Nat) (v1 : Int32) (σ : xSt) (h : mX3_fade_L70 F v1 σ = some σ') : xG p l e ({ frames := 0, cells := 0, slots := 0, locals := 0 }) s m args below meth c (MQ below (xQv D A (wC ad cI cX) σ') args s 0 0 A) 4 D A (wC ad cI cX) σ 70 [(0, .ref (ad 5)), (1, .int v1)] [] := by
  unfold mX3_fade_L70 at h
  refine x_aload_n (pc := 70) X dX3_fade_70 rfl 0 rfl ?_
  refine x_iload_n (pc := 71) X dX3_fade_71 rfl 1 rfl ?_
  refine uX3_21 (pc := 72) X dX3_fade_72 ?_
  exact x_vret (pc := 75) X hr hl h dX3_fade_75
set_option maxRecDepth 100000 in
set_option maxHeartbeats 4000000 in
theorem wX3_fade_L64 {p : Program} {l : Launch} {e : Env} {s : State} {m : MethodId} {args : Array Value} {below : List Frame} {meth : Method} {c : Code} {D : va_G} {A : Nat → Prop} {ad : Nat → Nat} {cI cX : ClassId} {σ' : xSt} {c4 : Int32 → Int32 → xSt → Option (xSt)} (X : xX p s m args c cX3_fade 4 RX3 D (tyC cI cX) A (wC ad cI cX)) (hr : meth.sig.returnType = none) (hl : meth.locks = false) (F : Nat) (hc4 : ∀ (v1 : Int32) (v2 : Int32) (σ : xSt), c4 v1 v2 σ = some σ' → xG p l e ({ frames := 0, cells := 0, slots := 0, locals := 0 }) s m args below meth c (MQ below (xQv D A (wC ad cI cX) σ') args s 0 0 A) 4 D A (wC ad cI cX) σ 4 [(0, .ref (ad 5)), (1, .int v1), (2, .int v2)] []) (v1 : Int32) (v2 : Int32) (σ : xSt) (h : mX3_fade_L64 F c4 v1 v2 σ = some σ') : xG p l e ({ frames := 0, cells := 0, slots := 0, locals := 0 }) s m args below meth c (MQ below (xQv D A (wC ad cI cX) σ') args s 0 0 A) 4 D A (wC ad cI cX) σ 64 [(0, .ref (ad 5)), (1, .int v1), (2, .int v2)] [] := by
  unfold mX3_fade_L64 at h
  refine x_iinc (pc := 64) (v := (v2 + 1)) (lv' := [(2, .int (v2 + 1)), (0, .ref (ad 5)), (1, .int v1)]) X dX3_fade_64 2 rfl rfl (by decide) rfl ?_
  refine x_goto (pc := 67) X 4 dX3_fade_67 (by decide) ?_
  refine x_sub [1, 2, 0] rfl ?_
  exact hc4 _ _ _ h
set_option maxRecDepth 100000 in
set_option maxHeartbeats 4000000 in
theorem wX3_fade_S4 {p : Program} {l : Launch} {e : Env} {s : State} {m : MethodId} {args : Array Value} {below : List Frame} {meth : Method} {c : Code} {D : va_G} {A : Nat → Prop} {ad : Nat → Nat} {cI cX : ClassId} {σ' : xSt} {c4 : Int32 → Int32 → xSt → Option (xSt)} (X : xX p s m args c cX3_fade 4 RX3 D (tyC cI cX) A (wC ad cI cX)) (hr : meth.sig.returnType = none) (hl : meth.locks = false) (F : Nat) (hc4 : ∀ (v1 : Int32) (v2 : Int32) (σ : xSt), c4 v1 v2 σ = some σ' → xG p l e ({ frames := 0, cells := 0, slots := 0, locals := 0 }) s m args below meth c (MQ below (xQv D A (wC ad cI cX) σ') args s 0 0 A) 4 D A (wC ad cI cX) σ 4 [(0, .ref (ad 5)), (1, .int v1), (2, .int v2)] []) (v1 : Int32) (v2 : Int32) (σ : xSt) (h : mX3_fade_S4 F c4 v1 v2 σ = some σ') : xG p l e ({ frames := 0, cells := 0, slots := 0, locals := 0 }) s m args below meth c (MQ below (xQv D A (wC ad cI cX) σ') args s 0 0 A) 4 D A (wC ad cI cX) σ 4 [(0, .ref (ad 5)), (1, .int v1), (2, .int v2)] [] := by
  unfold mX3_fade_S4 at h
  refine x_iload_n (pc := 4) X dX3_fade_4 rfl 2 rfl ?_
  refine x_aload_n (pc := 5) X dX3_fade_5 rfl 0 rfl ?_
  refine gX3_21 (pc := 6) X dX3_fade_6 ?_
  refine x_icmp_ge (pc := 9) X 70 dX3_fade_9 (by decide) (fun hc => ?_) (fun hc => ?_)
  · have h := xit hc h
    refine x_sub [0, 1] rfl ?_
    exact wX3_fade_L70 X hr hl F _ _ h
  · have h := xif hc h
    refine x_aload_n (pc := 12) X dX3_fade_12 rfl 0 rfl ?_
    refine gX3_15 (pc := 13) X dX3_fade_13 ?_
    refine x_iload_n (pc := 16) X dX3_fade_16 rfl 2 rfl ?_
    obtain ⟨hb17, h⟩ := xck_some h
    refine x_iald (pc := 17) X 10 0 (qaX3_strengths) rfl hb17 dX3_fade_17 ?_
    refine x_aload_n (pc := 18) X dX3_fade_18 rfl 0 rfl ?_
    refine gX3_18 (pc := 19) X dX3_fade_19 ?_
    refine x_iload_n (pc := 22) X dX3_fade_22 rfl 2 rfl ?_
    obtain ⟨hb23, h⟩ := xck_some h
    refine x_iald (pc := 23) X 11 0 (qaX3_fasts) rfl hb23 dX3_fade_23 ?_
    refine x_isub (pc := 24) X dX3_fade_24 ?_
    refine x_istore_n (pc := 25) (lv' := [(3, .int ((xA σ 3 (Int32.toNatClampNeg v2)) - (xA σ 4 (Int32.toNatClampNeg v2)))), (0, .ref (ad 5)), (1, .int v1), (2, .int v2)]) X dX3_fade_25 rfl (by decide) rfl ?_
    refine x_iload_n (pc := 26) X dX3_fade_26 rfl 0 rfl ?_
    refine x_if_le (pc := 27) X 64 dX3_fade_27 (by decide) (fun hc => ?_) (fun hc => ?_)
    · have h := xit hc h
      refine x_sub [1, 2, 3] rfl ?_
      exact wX3_fade_L64 X hr hl F hc4 _ _ _ h
    · have h := xif hc h
      refine x_aload_n (pc := 30) X dX3_fade_30 rfl 1 rfl ?_
      refine gX3_9 (pc := 31) X dX3_fade_31 ?_
      refine x_iload_n (pc := 34) X dX3_fade_34 rfl 2 rfl ?_
      refine x_aload_n (pc := 35) X dX3_fade_35 rfl 1 rfl ?_
      refine gX3_9 (pc := 36) X dX3_fade_36 ?_
      refine x_iload_n (pc := 39) X dX3_fade_39 rfl 3 rfl ?_
      obtain ⟨hb40, h⟩ := xck_some h
      refine x_iald (pc := 40) X 9 0 (qaX3_smells) rfl hb40 dX3_fade_40 ?_
      obtain ⟨hb41, h⟩ := xck_some h
      refine x_iast (pc := 41) (σ' := (xsA σ 2 (Int32.toNatClampNeg v1) (xA σ 2 (Int32.toNatClampNeg v2)))) X 9 0 (qaX3_smells) rfl (saX3_smells _) hb41 dX3_fade_41 ?_
      refine x_aload_n (pc := 42) X dX3_fade_42 rfl 1 rfl ?_
      refine gX3_15 (pc := 43) X dX3_fade_43 ?_
      refine x_iload_n (pc := 46) X dX3_fade_46 rfl 2 rfl ?_
      refine x_iload_n (pc := 47) X dX3_fade_47 rfl 0 rfl ?_
      obtain ⟨hb48, h⟩ := xck_some h
      refine x_iast (pc := 48) (σ' := (xsA (xsA σ 2 (Int32.toNatClampNeg v1) (xA σ 2 (Int32.toNatClampNeg v2))) 3 (Int32.toNatClampNeg v1) ((xA σ 3 (Int32.toNatClampNeg v2)) - (xA σ 4 (Int32.toNatClampNeg v2))))) X 10 0 (qaX3_strengths) rfl (saX3_strengths _) hb48 dX3_fade_48 ?_
      refine x_aload_n (pc := 49) X dX3_fade_49 rfl 1 rfl ?_
      refine gX3_18 (pc := 50) X dX3_fade_50 ?_
      refine x_iload_n (pc := 53) X dX3_fade_53 rfl 2 rfl ?_
      refine x_aload_n (pc := 54) X dX3_fade_54 rfl 1 rfl ?_
      refine gX3_18 (pc := 55) X dX3_fade_55 ?_
      refine x_iload_n (pc := 58) X dX3_fade_58 rfl 3 rfl ?_
      obtain ⟨hb59, h⟩ := xck_some h
      refine x_iald (pc := 59) X 11 0 (qaX3_fasts) rfl hb59 dX3_fade_59 ?_
      obtain ⟨hb60, h⟩ := xck_some h
      refine x_iast (pc := 60) (σ' := (xsA (xsA (xsA σ 2 (Int32.toNatClampNeg v1) (xA σ 2 (Int32.toNatClampNeg v2))) 3 (Int32.toNatClampNeg v1) ((xA σ 3 (Int32.toNatClampNeg v2)) - (xA σ 4 (Int32.toNatClampNeg v2)))) 4 (Int32.toNatClampNeg v1) (xA (xsA (xsA σ 2 (Int32.toNatClampNeg v1) (xA σ 2 (Int32.toNatClampNeg v2))) 3 (Int32.toNatClampNeg v1) ((xA σ 3 (Int32.toNatClampNeg v2)) - (xA σ 4 (Int32.toNatClampNeg v2)))) 4 (Int32.toNatClampNeg v2)))) X 11 0 (qaX3_fasts) rfl (saX3_fasts _) hb60 dX3_fade_60 ?_
      refine x_iinc (pc := 61) (v := (v1 + 1)) (lv' := [(1, .int (v1 + 1)), (3, .int ((xA σ 3 (Int32.toNatClampNeg v2)) - (xA σ 4 (Int32.toNatClampNeg v2)))), (0, .ref (ad 5)), (2, .int v2)]) X dX3_fade_61 2 rfl rfl (by decide) rfl ?_
      refine x_sub [2, 0, 3] rfl ?_
      exact wX3_fade_L64 X hr hl F hc4 _ _ _ h
theorem wX3_fade_L4 {p : Program} {l : Launch} {e : Env} {s : State} {m : MethodId} {args : Array Value} {below : List Frame} {meth : Method} {c : Code} {D : va_G} {A : Nat → Prop} {ad : Nat → Nat} {cI cX : ClassId} {σ' : xSt} (X : xX p s m args c cX3_fade 4 RX3 D (tyC cI cX) A (wC ad cI cX)) (hr : meth.sig.returnType = none) (hl : meth.locks = false) (F : Nat) : ∀ (n : Nat) (v1 : Int32) (v2 : Int32) (σ : xSt), mX3_fade_L4 F n v1 v2 σ = some σ' → xG p l e ({ frames := 0, cells := 0, slots := 0, locals := 0 }) s m args below meth c (MQ below (xQv D A (wC ad cI cX) σ') args s 0 0 A) 4 D A (wC ad cI cX) σ 4 [(0, .ref (ad 5)), (1, .int v1), (2, .int v2)] [] := by
  intro n
  induction n with
  | zero => intro v1 v2 σ h; cases h
  | succ n ih => intro v1 v2 σ h; exact wX3_fade_S4 X hr hl F ih v1 v2 σ h
set_option maxRecDepth 100000 in
set_option maxHeartbeats 4000000 in
theorem kX3_fade (l : Launch) {D : va_G} {A : Nat → Prop} {ad : Nat → Nat} {cI cX : ClassId} (hD : ∀ σ, va_D A ((wC ad cI cX) σ)) (F : Nat) (σ : xSt) (σ' : xSt) (h : mX3_fade F σ = some σ') : xM l yX3_fade cX3_fade 4 none ({ frames := 0, cells := 0, slots := 0, locals := 0 }) D (tyC cI cX) A (wC ad cI cX) [.ref (ad 5)] σ (xQv D A (wC ad cI cX) σ') := by
  refine xM_of (lv := [(0, .ref (ad 5))]) [.ref (ad 5)] (by decide) hD rfl (Nat.le_of_ble_eq_true rfl) ?_
  intro p e s m args below meth c X hr hl
  unfold mX3_fade at h
  refine x_iconst (pc := 0) (v := 0) X dX3_fade_0 (by decide) ?_
  refine x_istore_n (pc := 1) (lv' := [(1, .int 0), (0, .ref (ad 5))]) X dX3_fade_1 rfl (by decide) rfl ?_
  refine x_iconst (pc := 2) (v := 0) X dX3_fade_2 (by decide) ?_
  refine x_istore_n (pc := 3) (lv' := [(2, .int 0), (1, .int 0), (0, .ref (ad 5))]) X dX3_fade_3 rfl (by decide) rfl ?_
  refine x_sub [2, 1, 0] rfl ?_
  exact wX3_fade_L4 X hr hl F F _ _ _ h
set_option maxRecDepth 100000 in
set_option maxHeartbeats 4000000 in
theorem wX2_lacksPerson_L20 {p : Program} {l : Launch} {e : Env} {s : State} {m : MethodId} {args : Array Value} {below : List Frame} {meth : Method} {c : Code} {D : va_G} {A : Nat → Prop} {ad : Nat → Nat} {cI cX : ClassId} {r : Int32} {σ' : xSt} (X : xX p s m args c cX2_lacksPerson 2 RX2 D (tyC cI cX) A (wC ad cI cX)) (hr : meth.sig.returnType = (some .boolean)) (hl : meth.locks = false) (F : Nat) (t0 : Int32) (σ : xSt) (h : mX2_lacksPerson_L20 F t0 σ = some (r, σ')) : xG p l e ({ frames := 0, cells := 0, slots := 0, locals := 0 }) s m args below meth c (MQ below (xQi D A (wC ad cI cX) r σ') args s 0 0 A) 2 D A (wC ad cI cX) σ 20 [] [.int t0] := by
  unfold mX2_lacksPerson_L20 at h
  obtain ⟨hb20, h⟩ := xck_some h
  exact x_zret (pc := 20) X hr hl hb20 h dX2_lacksPerson_20
set_option maxRecDepth 100000 in
set_option maxHeartbeats 4000000 in
theorem wX2_lacksPerson_L15 {p : Program} {l : Launch} {e : Env} {s : State} {m : MethodId} {args : Array Value} {below : List Frame} {meth : Method} {c : Code} {D : va_G} {A : Nat → Prop} {ad : Nat → Nat} {cI cX : ClassId} {r : Int32} {σ' : xSt} (X : xX p s m args c cX2_lacksPerson 2 RX2 D (tyC cI cX) A (wC ad cI cX)) (hr : meth.sig.returnType = (some .boolean)) (hl : meth.locks = false) (F : Nat) (σ : xSt) (h : mX2_lacksPerson_L15 F σ = some (r, σ')) : xG p l e ({ frames := 0, cells := 0, slots := 0, locals := 0 }) s m args below meth c (MQ below (xQi D A (wC ad cI cX) r σ') args s 0 0 A) 2 D A (wC ad cI cX) σ 15 [] [] := by
  unfold mX2_lacksPerson_L15 at h
  refine x_iconst (pc := 15) (v := 1) X dX2_lacksPerson_15 (by decide) ?_
  refine x_goto (pc := 16) X 20 dX2_lacksPerson_16 (by decide) ?_
  refine x_sub [] rfl ?_
  exact wX2_lacksPerson_L20 X hr hl F _ _ h
set_option maxRecDepth 100000 in
set_option maxHeartbeats 4000000 in
theorem kX2_lacksPerson (l : Launch) {D : va_G} {A : Nat → Prop} {ad : Nat → Nat} {cI cX : ClassId} (hD : ∀ σ, va_D A ((wC ad cI cX) σ)) (F : Nat) (v1 : Int32) (σ : xSt) (r : Int32) (σ' : xSt) (h : mX2_lacksPerson F v1 σ = some (r, σ')) : xM l yX2_lacksPerson cX2_lacksPerson 2 (some .boolean) ({ frames := 0, cells := 0, slots := 0, locals := 0 }) D (tyC cI cX) A (wC ad cI cX) [.ref (ad 1), .int v1] σ (xQi D A (wC ad cI cX) r σ') := by
  refine xM_of (lv := [(0, .ref (ad 1)), (1, .int v1)]) [.ref (ad 1), .int v1] (by decide) hD rfl (Nat.le_of_ble_eq_true rfl) ?_
  intro p e s m args below meth c X hr hl
  unfold mX2_lacksPerson at h
  refine x_iload_n (pc := 0) X dX2_lacksPerson_0 rfl 1 rfl ?_
  refine x_if_lt (pc := 1) X 15 dX2_lacksPerson_1 (by decide) (fun hc => ?_) (fun hc => ?_)
  · have h := xit hc h
    refine x_sub [] rfl ?_
    exact wX2_lacksPerson_L15 X hr hl F _ h
  · have h := xif hc h
    refine x_iload_n (pc := 4) X dX2_lacksPerson_4 rfl 1 rfl ?_
    refine x_aload_n (pc := 5) X dX2_lacksPerson_5 rfl 0 rfl ?_
    refine gX2_20 (pc := 6) X dX2_lacksPerson_6 ?_
    refine gX2_42 (pc := 9) X 1 (by decide) dX2_lacksPerson_9 ?_
    refine x_icmp_lt (pc := 12) X 19 dX2_lacksPerson_12 (by decide) (fun hc => ?_) (fun hc => ?_)
    · have h := xit hc h
      refine x_iconst (pc := 19) (v := 0) X dX2_lacksPerson_19 (by decide) ?_
      refine x_sub [] rfl ?_
      exact wX2_lacksPerson_L20 X hr hl F _ _ h
    · have h := xif hc h
      refine x_sub [] rfl ?_
      exact wX2_lacksPerson_L15 X hr hl F _ h
set_option maxRecDepth 100000 in
set_option maxHeartbeats 4000000 in
theorem wX3_come_L146 {p : Program} {l : Launch} {e : Env} {s : State} {m : MethodId} {args : Array Value} {below : List Frame} {meth : Method} {c : Code} {D : va_G} {A : Nat → Prop} {ad : Nat → Nat} {cI cX : ClassId} {σ' : xSt} (X : xX p s m args c cX3_come 7 RX3 D (tyC cI cX) A (wC ad cI cX)) (hr : meth.sig.returnType = none) (hl : meth.locks = false) (F : Nat) (v1 : Int32) (v2 : Int32) (v3 : Int32) (σ : xSt) (h : mX3_come_L146 F v1 v2 v3 σ = some σ') : xG p l e ({ frames := 0, cells := 0, slots := 0, locals := 0 }) s m args below meth c (MQ below (xQv D A (wC ad cI cX) σ') args s 0 0 A) 7 D A (wC ad cI cX) σ 146 [(0, .ref (ad 5)), (1, .int v1), (2, .int v2), (3, .int v3)] [] := by
  unfold mX3_come_L146 at h
  refine x_aload_n (pc := 146) X dX3_come_146 rfl 0 rfl ?_
  refine gX3_9 (pc := 147) X dX3_come_147 ?_
  refine x_iconst (pc := 150) (v := 0) X dX3_come_150 (by decide) ?_
  refine x_iload_n (pc := 151) X dX3_come_151 rfl 1 rfl ?_
  obtain ⟨hb152, h⟩ := xck_some h
  refine x_iast (pc := 152) (σ' := (xsA σ 2 (Int32.toNatClampNeg 0) v1)) X 9 0 (qaX3_smells) rfl (saX3_smells _) hb152 dX3_come_152 ?_
  refine x_aload_n (pc := 153) X dX3_come_153 rfl 0 rfl ?_
  refine gX3_15 (pc := 154) X dX3_come_154 ?_
  refine x_iconst (pc := 157) (v := 0) X dX3_come_157 (by decide) ?_
  refine x_iload_n (pc := 158) X dX3_come_158 rfl 2 rfl ?_
  obtain ⟨hb159, h⟩ := xck_some h
  refine x_iast (pc := 159) (σ' := (xsA (xsA σ 2 (Int32.toNatClampNeg 0) v1) 3 (Int32.toNatClampNeg 0) v2)) X 10 0 (qaX3_strengths) rfl (saX3_strengths _) hb159 dX3_come_159 ?_
  refine x_aload_n (pc := 160) X dX3_come_160 rfl 0 rfl ?_
  refine gX3_18 (pc := 161) X dX3_come_161 ?_
  refine x_iconst (pc := 164) (v := 0) X dX3_come_164 (by decide) ?_
  refine x_iload_n (pc := 165) X dX3_come_165 rfl 3 rfl ?_
  obtain ⟨hb166, h⟩ := xck_some h
  refine x_iast (pc := 166) (σ' := (xsA (xsA (xsA σ 2 (Int32.toNatClampNeg 0) v1) 3 (Int32.toNatClampNeg 0) v2) 4 (Int32.toNatClampNeg 0) v3)) X 11 0 (qaX3_fasts) rfl (saX3_fasts _) hb166 dX3_come_166 ?_
  exact x_vret (pc := 167) X hr hl h dX3_come_167
set_option maxRecDepth 100000 in
set_option maxHeartbeats 4000000 in
theorem wX3_come_S87 {p : Program} {l : Launch} {e : Env} {s : State} {m : MethodId} {args : Array Value} {below : List Frame} {meth : Method} {c : Code} {D : va_G} {A : Nat → Prop} {ad : Nat → Nat} {cI cX : ClassId} {σ' : xSt} {c87 : Int32 → Int32 → Int32 → Int32 → xSt → Option (xSt)} (X : xX p s m args c cX3_come 7 RX3 D (tyC cI cX) A (wC ad cI cX)) (hr : meth.sig.returnType = none) (hl : meth.locks = false) (F : Nat) (hc87 : ∀ (v1 : Int32) (v2 : Int32) (v3 : Int32) (v6 : Int32) (σ : xSt), c87 v1 v2 v3 v6 σ = some σ' → xG p l e ({ frames := 0, cells := 0, slots := 0, locals := 0 }) s m args below meth c (MQ below (xQv D A (wC ad cI cX) σ') args s 0 0 A) 7 D A (wC ad cI cX) σ 87 [(0, .ref (ad 5)), (1, .int v1), (2, .int v2), (3, .int v3), (6, .int v6)] []) (v1 : Int32) (v2 : Int32) (v3 : Int32) (v6 : Int32) (σ : xSt) (h : mX3_come_S87 F c87 v1 v2 v3 v6 σ = some σ') : xG p l e ({ frames := 0, cells := 0, slots := 0, locals := 0 }) s m args below meth c (MQ below (xQv D A (wC ad cI cX) σ') args s 0 0 A) 7 D A (wC ad cI cX) σ 87 [(0, .ref (ad 5)), (1, .int v1), (2, .int v2), (3, .int v3), (6, .int v6)] [] := by
  unfold mX3_come_S87 at h
  refine x_iload (pc := 87) X dX3_come_87 4 rfl ?_
  refine x_if_le (pc := 89) X 146 dX3_come_89 (by decide) (fun hc => ?_) (fun hc => ?_)
  · have h := xit hc h
    refine x_sub [0, 1, 2, 3] rfl ?_
    exact wX3_come_L146 X hr hl F _ _ _ _ h
  · have h := xif hc h
    refine x_aload_n (pc := 92) X dX3_come_92 rfl 0 rfl ?_
    refine gX3_9 (pc := 93) X dX3_come_93 ?_
    refine x_iload (pc := 96) X dX3_come_96 4 rfl ?_
    refine x_aload_n (pc := 98) X dX3_come_98 rfl 0 rfl ?_
    refine gX3_9 (pc := 99) X dX3_come_99 ?_
    refine x_iload (pc := 102) X dX3_come_102 4 rfl ?_
    refine x_iconst (pc := 104) (v := 1) X dX3_come_104 (by decide) ?_
    refine x_isub (pc := 105) X dX3_come_105 ?_
    obtain ⟨hb106, h⟩ := xck_some h
    refine x_iald (pc := 106) X 9 0 (qaX3_smells) rfl hb106 dX3_come_106 ?_
    obtain ⟨hb107, h⟩ := xck_some h
    refine x_iast (pc := 107) (σ' := (xsA σ 2 (Int32.toNatClampNeg v6) (xA σ 2 (Int32.toNatClampNeg (v6 - 1))))) X 9 0 (qaX3_smells) rfl (saX3_smells _) hb107 dX3_come_107 ?_
    refine x_aload_n (pc := 108) X dX3_come_108 rfl 0 rfl ?_
    refine gX3_15 (pc := 109) X dX3_come_109 ?_
    refine x_iload (pc := 112) X dX3_come_112 4 rfl ?_
    refine x_aload_n (pc := 114) X dX3_come_114 rfl 0 rfl ?_
    refine gX3_15 (pc := 115) X dX3_come_115 ?_
    refine x_iload (pc := 118) X dX3_come_118 4 rfl ?_
    refine x_iconst (pc := 120) (v := 1) X dX3_come_120 (by decide) ?_
    refine x_isub (pc := 121) X dX3_come_121 ?_
    obtain ⟨hb122, h⟩ := xck_some h
    refine x_iald (pc := 122) X 10 0 (qaX3_strengths) rfl hb122 dX3_come_122 ?_
    obtain ⟨hb123, h⟩ := xck_some h
    refine x_iast (pc := 123) (σ' := (xsA (xsA σ 2 (Int32.toNatClampNeg v6) (xA σ 2 (Int32.toNatClampNeg (v6 - 1)))) 3 (Int32.toNatClampNeg v6) (xA (xsA σ 2 (Int32.toNatClampNeg v6) (xA σ 2 (Int32.toNatClampNeg (v6 - 1)))) 3 (Int32.toNatClampNeg (v6 - 1))))) X 10 0 (qaX3_strengths) rfl (saX3_strengths _) hb123 dX3_come_123 ?_
    refine x_aload_n (pc := 124) X dX3_come_124 rfl 0 rfl ?_
    refine gX3_18 (pc := 125) X dX3_come_125 ?_
    refine x_iload (pc := 128) X dX3_come_128 4 rfl ?_
    refine x_aload_n (pc := 130) X dX3_come_130 rfl 0 rfl ?_
    refine gX3_18 (pc := 131) X dX3_come_131 ?_
    refine x_iload (pc := 134) X dX3_come_134 4 rfl ?_
    refine x_iconst (pc := 136) (v := 1) X dX3_come_136 (by decide) ?_
    refine x_isub (pc := 137) X dX3_come_137 ?_
    obtain ⟨hb138, h⟩ := xck_some h
    refine x_iald (pc := 138) X 11 0 (qaX3_fasts) rfl hb138 dX3_come_138 ?_
    obtain ⟨hb139, h⟩ := xck_some h
    refine x_iast (pc := 139) (σ' := (xsA (xsA (xsA σ 2 (Int32.toNatClampNeg v6) (xA σ 2 (Int32.toNatClampNeg (v6 - 1)))) 3 (Int32.toNatClampNeg v6) (xA (xsA σ 2 (Int32.toNatClampNeg v6) (xA σ 2 (Int32.toNatClampNeg (v6 - 1)))) 3 (Int32.toNatClampNeg (v6 - 1)))) 4 (Int32.toNatClampNeg v6) (xA (xsA (xsA σ 2 (Int32.toNatClampNeg v6) (xA σ 2 (Int32.toNatClampNeg (v6 - 1)))) 3 (Int32.toNatClampNeg v6) (xA (xsA σ 2 (Int32.toNatClampNeg v6) (xA σ 2 (Int32.toNatClampNeg (v6 - 1)))) 3 (Int32.toNatClampNeg (v6 - 1)))) 4 (Int32.toNatClampNeg (v6 - 1))))) X 11 0 (qaX3_fasts) rfl (saX3_fasts _) hb139 dX3_come_139 ?_
    refine x_iinc (pc := 140) (v := (v6 + (-1))) (lv' := [(6, .int (v6 + (-1))), (0, .ref (ad 5)), (1, .int v1), (2, .int v2), (3, .int v3)]) X dX3_come_140 4 rfl rfl (by decide) rfl ?_
    refine x_goto (pc := 143) X 87 dX3_come_143 (by decide) ?_
    refine x_sub [1, 2, 3, 4, 0] rfl ?_
    exact hc87 _ _ _ _ _ h
theorem wX3_come_L87 {p : Program} {l : Launch} {e : Env} {s : State} {m : MethodId} {args : Array Value} {below : List Frame} {meth : Method} {c : Code} {D : va_G} {A : Nat → Prop} {ad : Nat → Nat} {cI cX : ClassId} {σ' : xSt} (X : xX p s m args c cX3_come 7 RX3 D (tyC cI cX) A (wC ad cI cX)) (hr : meth.sig.returnType = none) (hl : meth.locks = false) (F : Nat) : ∀ (n : Nat) (v1 : Int32) (v2 : Int32) (v3 : Int32) (v6 : Int32) (σ : xSt), mX3_come_L87 F n v1 v2 v3 v6 σ = some σ' → xG p l e ({ frames := 0, cells := 0, slots := 0, locals := 0 }) s m args below meth c (MQ below (xQv D A (wC ad cI cX) σ') args s 0 0 A) 7 D A (wC ad cI cX) σ 87 [(0, .ref (ad 5)), (1, .int v1), (2, .int v2), (3, .int v3), (6, .int v6)] [] := by
  intro n
  induction n with
  | zero => intro v1 v2 v3 v6 σ h; cases h
  | succ n ih => intro v1 v2 v3 v6 σ h; exact wX3_come_S87 X hr hl F ih v1 v2 v3 v6 σ h
set_option maxRecDepth 100000 in
set_option maxHeartbeats 4000000 in
theorem wX3_come_L85 {p : Program} {l : Launch} {e : Env} {s : State} {m : MethodId} {args : Array Value} {below : List Frame} {meth : Method} {c : Code} {D : va_G} {A : Nat → Prop} {ad : Nat → Nat} {cI cX : ClassId} {σ' : xSt} (X : xX p s m args c cX3_come 7 RX3 D (tyC cI cX) A (wC ad cI cX)) (hr : meth.sig.returnType = none) (hl : meth.locks = false) (F : Nat) (v1 : Int32) (v2 : Int32) (v3 : Int32) (t0 : Int32) (σ : xSt) (h : mX3_come_L85 F v1 v2 v3 t0 σ = some σ') : xG p l e ({ frames := 0, cells := 0, slots := 0, locals := 0 }) s m args below meth c (MQ below (xQv D A (wC ad cI cX) σ') args s 0 0 A) 7 D A (wC ad cI cX) σ 85 [(0, .ref (ad 5)), (1, .int v1), (2, .int v2), (3, .int v3)] [.int t0] := by
  unfold mX3_come_L85 at h
  refine x_istore (pc := 85) (lv' := [(6, .int t0), (0, .ref (ad 5)), (1, .int v1), (2, .int v2), (3, .int v3)]) X dX3_come_85 (by decide) rfl ?_
  refine x_sub [1, 2, 3, 4, 0] rfl ?_
  exact wX3_come_L87 X hr hl F F _ _ _ _ _ h
set_option maxRecDepth 100000 in
set_option maxHeartbeats 4000000 in
theorem wX3_come_L65 {p : Program} {l : Launch} {e : Env} {s : State} {m : MethodId} {args : Array Value} {below : List Frame} {meth : Method} {c : Code} {D : va_G} {A : Nat → Prop} {ad : Nat → Nat} {cI cX : ClassId} {σ' : xSt} (X : xX p s m args c cX3_come 7 RX3 D (tyC cI cX) A (wC ad cI cX)) (hr : meth.sig.returnType = none) (hl : meth.locks = false) (F : Nat) (v1 : Int32) (v2 : Int32) (v3 : Int32) (v5 : Int32) (σ : xSt) (h : mX3_come_L65 F v1 v2 v3 v5 σ = some σ') : xG p l e ({ frames := 0, cells := 0, slots := 0, locals := 0 }) s m args below meth c (MQ below (xQv D A (wC ad cI cX) σ') args s 0 0 A) 7 D A (wC ad cI cX) σ 65 [(0, .ref (ad 5)), (1, .int v1), (2, .int v2), (3, .int v3), (5, .int v5)] [] := by
  unfold mX3_come_L65 at h
  refine x_iload (pc := 65) X dX3_come_65 4 rfl ?_
  refine x_aload_n (pc := 67) X dX3_come_67 rfl 0 rfl ?_
  refine gX3_21 (pc := 68) X dX3_come_68 ?_
  refine x_icmp_ge (pc := 71) X 79 dX3_come_71 (by decide) (fun hc => ?_) (fun hc => ?_)
  · have h := xit hc h
    refine x_aload_n (pc := 79) X dX3_come_79 rfl 0 rfl ?_
    refine gX3_21 (pc := 80) X dX3_come_80 ?_
    refine x_iconst (pc := 83) (v := 1) X dX3_come_83 (by decide) ?_
    refine x_isub (pc := 84) X dX3_come_84 ?_
    refine x_sub [0, 1, 2, 3] rfl ?_
    exact wX3_come_L85 X hr hl F _ _ _ _ _ h
  · have h := xif hc h
    refine x_iload (pc := 74) X dX3_come_74 4 rfl ?_
    refine x_goto (pc := 76) X 85 dX3_come_76 (by decide) ?_
    refine x_sub [0, 1, 2, 3] rfl ?_
    exact wX3_come_L85 X hr hl F _ _ _ _ _ h
set_option maxRecDepth 100000 in
set_option maxHeartbeats 4000000 in
theorem wX3_come_L29 {p : Program} {l : Launch} {e : Env} {s : State} {m : MethodId} {args : Array Value} {below : List Frame} {meth : Method} {c : Code} {D : va_G} {A : Nat → Prop} {ad : Nat → Nat} {cI cX : ClassId} {σ' : xSt} (X : xX p s m args c cX3_come 7 RX3 D (tyC cI cX) A (wC ad cI cX)) (hr : meth.sig.returnType = none) (hl : meth.locks = false) (F : Nat) (v1 : Int32) (v2 : Int32) (v3 : Int32) (v4 : Int32) (v5 : Int32) (σ : xSt) (h : mX3_come_L29 F v1 v2 v3 v4 v5 σ = some σ') : xG p l e ({ frames := 0, cells := 0, slots := 0, locals := 0 }) s m args below meth c (MQ below (xQv D A (wC ad cI cX) σ') args s 0 0 A) 7 D A (wC ad cI cX) σ 29 [(0, .ref (ad 5)), (1, .int v1), (2, .int v2), (3, .int v3), (4, .int v4), (5, .int v5)] [] := by
  unfold mX3_come_L29 at h
  refine x_iload (pc := 29) X dX3_come_29 5 rfl ?_
  refine x_aload_n (pc := 31) X dX3_come_31 rfl 0 rfl ?_
  refine gX3_21 (pc := 32) X dX3_come_32 ?_
  refine x_icmp_ne (pc := 35) X 65 dX3_come_35 (by decide) (fun hc => ?_) (fun hc => ?_)
  · have h := xif hc h
    refine x_sub [0, 1, 2, 3, 5] rfl ?_
    exact wX3_come_L65 X hr hl F _ _ _ _ _ h
  · have h := xit hc h
    refine x_aload_n (pc := 38) X dX3_come_38 rfl 0 rfl ?_
    refine gX3_21 (pc := 39) X dX3_come_39 ?_
    refine x_iload (pc := 42) X dX3_come_42 4 rfl ?_
    refine x_icmp_ge (pc := 44) X 65 dX3_come_44 (by decide) (fun hc => ?_) (fun hc => ?_)
    · have h := xit hc h
      refine x_sub [0, 1, 2, 3, 5] rfl ?_
      exact wX3_come_L65 X hr hl F _ _ _ _ _ h
    · have h := xif hc h
      refine x_aload_n (pc := 47) X dX3_come_47 rfl 0 rfl ?_
      refine gX3_21 (pc := 48) X dX3_come_48 ?_
      refine x_iconst (pc := 51) (v := 5) X dX3_come_51 (by decide) ?_
      refine x_icmp_ge (pc := 52) X 65 dX3_come_52 (by decide) (fun hc => ?_) (fun hc => ?_)
      · have h := xit hc h
        refine x_sub [0, 1, 2, 3, 5] rfl ?_
        exact wX3_come_L65 X hr hl F _ _ _ _ _ h
      · have h := xif hc h
        refine x_aload_n (pc := 55) X dX3_come_55 rfl 0 rfl ?_
        refine x_dup (pc := 56) X dX3_come_56 rfl ?_
        refine gX3_21 (pc := 57) X dX3_come_57 ?_
        refine x_iconst (pc := 60) (v := 1) X dX3_come_60 (by decide) ?_
        refine x_iadd (pc := 61) X dX3_come_61 ?_
        refine uX3_21 (pc := 62) X dX3_come_62 ?_
        refine x_sub [0, 1, 2, 3, 5] rfl ?_
        exact wX3_come_L65 X hr hl F _ _ _ _ _ h
set_option maxRecDepth 100000 in
set_option maxHeartbeats 4000000 in
theorem wX3_come_S3 {p : Program} {l : Launch} {e : Env} {s : State} {m : MethodId} {args : Array Value} {below : List Frame} {meth : Method} {c : Code} {D : va_G} {A : Nat → Prop} {ad : Nat → Nat} {cI cX : ClassId} {σ' : xSt} {c3 : Int32 → Int32 → Int32 → Int32 → Int32 → xSt → Option (xSt)} (X : xX p s m args c cX3_come 7 RX3 D (tyC cI cX) A (wC ad cI cX)) (hr : meth.sig.returnType = none) (hl : meth.locks = false) (F : Nat) (hc3 : ∀ (v1 : Int32) (v2 : Int32) (v3 : Int32) (v4 : Int32) (v5 : Int32) (σ : xSt), c3 v1 v2 v3 v4 v5 σ = some σ' → xG p l e ({ frames := 0, cells := 0, slots := 0, locals := 0 }) s m args below meth c (MQ below (xQv D A (wC ad cI cX) σ') args s 0 0 A) 7 D A (wC ad cI cX) σ 3 [(0, .ref (ad 5)), (1, .int v1), (2, .int v2), (3, .int v3), (4, .int v4), (5, .int v5)] []) (v1 : Int32) (v2 : Int32) (v3 : Int32) (v4 : Int32) (v5 : Int32) (σ : xSt) (h : mX3_come_S3 F c3 v1 v2 v3 v4 v5 σ = some σ') : xG p l e ({ frames := 0, cells := 0, slots := 0, locals := 0 }) s m args below meth c (MQ below (xQv D A (wC ad cI cX) σ') args s 0 0 A) 7 D A (wC ad cI cX) σ 3 [(0, .ref (ad 5)), (1, .int v1), (2, .int v2), (3, .int v3), (4, .int v4), (5, .int v5)] [] := by
  unfold mX3_come_S3 at h
  refine x_iload (pc := 3) X dX3_come_3 5 rfl ?_
  refine x_aload_n (pc := 5) X dX3_come_5 rfl 0 rfl ?_
  refine gX3_21 (pc := 6) X dX3_come_6 ?_
  refine x_icmp_ge (pc := 9) X 29 dX3_come_9 (by decide) (fun hc => ?_) (fun hc => ?_)
  · have h := xit hc h
    refine x_sub [0, 1, 2, 3, 4, 5] rfl ?_
    exact wX3_come_L29 X hr hl F _ _ _ _ _ _ h
  · have h := xif hc h
    refine x_aload_n (pc := 12) X dX3_come_12 rfl 0 rfl ?_
    refine gX3_9 (pc := 13) X dX3_come_13 ?_
    refine x_iload (pc := 16) X dX3_come_16 5 rfl ?_
    obtain ⟨hb18, h⟩ := xck_some h
    refine x_iald (pc := 18) X 9 0 (qaX3_smells) rfl hb18 dX3_come_18 ?_
    refine x_iload_n (pc := 19) X dX3_come_19 rfl 1 rfl ?_
    refine x_icmp_eq (pc := 20) X 29 dX3_come_20 (by decide) (fun hc => ?_) (fun hc => ?_)
    · have h := xit hc h
      refine x_sub [0, 1, 2, 3, 4, 5] rfl ?_
      exact wX3_come_L29 X hr hl F _ _ _ _ _ _ h
    · have h := xif hc h
      refine x_iinc (pc := 23) (v := (v5 + 1)) (lv' := [(5, .int (v5 + 1)), (0, .ref (ad 5)), (1, .int v1), (2, .int v2), (3, .int v3), (4, .int v4)]) X dX3_come_23 5 rfl rfl (by decide) rfl ?_
      refine x_goto (pc := 26) X 3 dX3_come_26 (by decide) ?_
      refine x_sub [1, 2, 3, 4, 5, 0] rfl ?_
      exact hc3 _ _ _ _ _ _ h
theorem wX3_come_L3 {p : Program} {l : Launch} {e : Env} {s : State} {m : MethodId} {args : Array Value} {below : List Frame} {meth : Method} {c : Code} {D : va_G} {A : Nat → Prop} {ad : Nat → Nat} {cI cX : ClassId} {σ' : xSt} (X : xX p s m args c cX3_come 7 RX3 D (tyC cI cX) A (wC ad cI cX)) (hr : meth.sig.returnType = none) (hl : meth.locks = false) (F : Nat) : ∀ (n : Nat) (v1 : Int32) (v2 : Int32) (v3 : Int32) (v4 : Int32) (v5 : Int32) (σ : xSt), mX3_come_L3 F n v1 v2 v3 v4 v5 σ = some σ' → xG p l e ({ frames := 0, cells := 0, slots := 0, locals := 0 }) s m args below meth c (MQ below (xQv D A (wC ad cI cX) σ') args s 0 0 A) 7 D A (wC ad cI cX) σ 3 [(0, .ref (ad 5)), (1, .int v1), (2, .int v2), (3, .int v3), (4, .int v4), (5, .int v5)] [] := by
  intro n
  induction n with
  | zero => intro v1 v2 v3 v4 v5 σ h; cases h
  | succ n ih => intro v1 v2 v3 v4 v5 σ h; exact wX3_come_S3 X hr hl F ih v1 v2 v3 v4 v5 σ h
set_option maxRecDepth 100000 in
set_option maxHeartbeats 4000000 in
theorem kX3_come (l : Launch) {D : va_G} {A : Nat → Prop} {ad : Nat → Nat} {cI cX : ClassId} (hD : ∀ σ, va_D A ((wC ad cI cX) σ)) (F : Nat) (v1 : Int32) (v2 : Int32) (v3 : Int32) (v4 : Int32) (σ : xSt) (σ' : xSt) (h : mX3_come F v1 v2 v3 v4 σ = some σ') : xM l yX3_come cX3_come 7 none ({ frames := 0, cells := 0, slots := 0, locals := 0 }) D (tyC cI cX) A (wC ad cI cX) [.ref (ad 5), .int v1, .int v2, .int v3, .int v4] σ (xQv D A (wC ad cI cX) σ') := by
  refine xM_of (lv := [(0, .ref (ad 5)), (1, .int v1), (2, .int v2), (3, .int v3), (4, .int v4)]) [.ref (ad 5), .int v1, .int v2, .int v3, .int v4] (by decide) hD rfl (Nat.le_of_ble_eq_true rfl) ?_
  intro p e s m args below meth c X hr hl
  unfold mX3_come at h
  refine x_iconst (pc := 0) (v := 0) X dX3_come_0 (by decide) ?_
  refine x_istore (pc := 1) (lv' := [(5, .int 0), (0, .ref (ad 5)), (1, .int v1), (2, .int v2), (3, .int v3), (4, .int v4)]) X dX3_come_1 (by decide) rfl ?_
  refine x_sub [1, 2, 3, 4, 5, 0] rfl ?_
  exact wX3_come_L3 X hr hl F F _ _ _ _ _ _ h
set_option maxRecDepth 100000 in
set_option maxHeartbeats 4000000 in
theorem wX3_loseOver_L84 {p : Program} {l : Launch} {e : Env} {s : State} {m : MethodId} {args : Array Value} {below : List Frame} {meth : Method} {c : Code} {D : va_G} {A : Nat → Prop} {ad : Nat → Nat} {cI cX : ClassId} {σ' : xSt} (X : xX p s m args c cX3_loseOver 2 RX3 D (tyC cI cX) A (wC ad cI cX)) (hr : meth.sig.returnType = none) (hl : meth.locks = false) (F : Nat) (σ : xSt) (h : mX3_loseOver_L84 F σ = some σ') : xG p l e ({ frames := 0, cells := 0, slots := 0, locals := 0 }) s m args below meth c (MQ below (xQv D A (wC ad cI cX) σ') args s 0 0 A) 2 D A (wC ad cI cX) σ 84 [] [] := by
  unfold mX3_loseOver_L84 at h
  exact x_vret (pc := 84) X hr hl h dX3_loseOver_84
set_option maxRecDepth 100000 in
set_option maxHeartbeats 4000000 in
theorem wX3_loseOver_L67 {p : Program} {l : Launch} {e : Env} {s : State} {m : MethodId} {args : Array Value} {below : List Frame} {meth : Method} {c : Code} {D : va_G} {A : Nat → Prop} {ad : Nat → Nat} {cI cX : ClassId} {σ' : xSt} (X : xX p s m args c cX3_loseOver 2 RX3 D (tyC cI cX) A (wC ad cI cX)) (hr : meth.sig.returnType = none) (hl : meth.locks = false) (F : Nat) (σ : xSt) (h : mX3_loseOver_L67 F σ = some σ') : xG p l e ({ frames := 0, cells := 0, slots := 0, locals := 0 }) s m args below meth c (MQ below (xQv D A (wC ad cI cX) σ') args s 0 0 A) 2 D A (wC ad cI cX) σ 67 [(0, .ref (ad 5))] [] := by
  unfold mX3_loseOver_L67 at h
  refine x_aload_n (pc := 67) X dX3_loseOver_67 rfl 0 rfl ?_
  refine gX3_21 (pc := 68) X dX3_loseOver_68 ?_
  refine x_if_le (pc := 71) X 84 dX3_loseOver_71 (by decide) (fun hc => ?_) (fun hc => ?_)
  · have h := xit hc h
    refine x_sub [] rfl ?_
    exact wX3_loseOver_L84 X hr hl F _ h
  · have h := xif hc h
    refine x_aload_n (pc := 74) X dX3_loseOver_74 rfl 0 rfl ?_
    refine x_dup (pc := 75) X dX3_loseOver_75 rfl ?_
    refine gX3_21 (pc := 76) X dX3_loseOver_76 ?_
    refine x_iconst (pc := 79) (v := 1) X dX3_loseOver_79 (by decide) ?_
    refine x_isub (pc := 80) X dX3_loseOver_80 ?_
    refine uX3_21 (pc := 81) X dX3_loseOver_81 ?_
    refine x_sub [] rfl ?_
    exact wX3_loseOver_L84 X hr hl F _ h
set_option maxRecDepth 100000 in
set_option maxHeartbeats 4000000 in
theorem wX3_loseOver_S2 {p : Program} {l : Launch} {e : Env} {s : State} {m : MethodId} {args : Array Value} {below : List Frame} {meth : Method} {c : Code} {D : va_G} {A : Nat → Prop} {ad : Nat → Nat} {cI cX : ClassId} {σ' : xSt} {c2 : Int32 → xSt → Option (xSt)} (X : xX p s m args c cX3_loseOver 2 RX3 D (tyC cI cX) A (wC ad cI cX)) (hr : meth.sig.returnType = none) (hl : meth.locks = false) (F : Nat) (hc2 : ∀ (v1 : Int32) (σ : xSt), c2 v1 σ = some σ' → xG p l e ({ frames := 0, cells := 0, slots := 0, locals := 0 }) s m args below meth c (MQ below (xQv D A (wC ad cI cX) σ') args s 0 0 A) 2 D A (wC ad cI cX) σ 2 [(0, .ref (ad 5)), (1, .int v1)] []) (v1 : Int32) (σ : xSt) (h : mX3_loseOver_S2 F c2 v1 σ = some σ') : xG p l e ({ frames := 0, cells := 0, slots := 0, locals := 0 }) s m args below meth c (MQ below (xQv D A (wC ad cI cX) σ') args s 0 0 A) 2 D A (wC ad cI cX) σ 2 [(0, .ref (ad 5)), (1, .int v1)] [] := by
  unfold mX3_loseOver_S2 at h
  refine x_iload_n (pc := 2) X dX3_loseOver_2 rfl 1 rfl ?_
  refine x_iconst (pc := 3) (v := 1) X dX3_loseOver_3 (by decide) ?_
  refine x_iadd (pc := 4) X dX3_loseOver_4 ?_
  refine x_aload_n (pc := 5) X dX3_loseOver_5 rfl 0 rfl ?_
  refine gX3_21 (pc := 6) X dX3_loseOver_6 ?_
  refine x_icmp_ge (pc := 9) X 67 dX3_loseOver_9 (by decide) (fun hc => ?_) (fun hc => ?_)
  · have h := xit hc h
    refine x_sub [0] rfl ?_
    exact wX3_loseOver_L67 X hr hl F _ h
  · have h := xif hc h
    refine x_aload_n (pc := 12) X dX3_loseOver_12 rfl 0 rfl ?_
    refine gX3_25 (pc := 13) X dX3_loseOver_13 ?_
    refine x_if_ne (pc := 16) X 67 dX3_loseOver_16 (by decide) (fun hc => ?_) (fun hc => ?_)
    · have h := xif hc h
      refine x_sub [0] rfl ?_
      exact wX3_loseOver_L67 X hr hl F _ h
    · have h := xit hc h
      refine x_aload_n (pc := 19) X dX3_loseOver_19 rfl 0 rfl ?_
      refine gX3_9 (pc := 20) X dX3_loseOver_20 ?_
      refine x_iload_n (pc := 23) X dX3_loseOver_23 rfl 1 rfl ?_
      refine x_aload_n (pc := 24) X dX3_loseOver_24 rfl 0 rfl ?_
      refine gX3_9 (pc := 25) X dX3_loseOver_25 ?_
      refine x_iload_n (pc := 28) X dX3_loseOver_28 rfl 1 rfl ?_
      refine x_iconst (pc := 29) (v := 1) X dX3_loseOver_29 (by decide) ?_
      refine x_iadd (pc := 30) X dX3_loseOver_30 ?_
      obtain ⟨hb31, h⟩ := xck_some h
      refine x_iald (pc := 31) X 9 0 (qaX3_smells) rfl hb31 dX3_loseOver_31 ?_
      obtain ⟨hb32, h⟩ := xck_some h
      refine x_iast (pc := 32) (σ' := (xsA σ 2 (Int32.toNatClampNeg v1) (xA σ 2 (Int32.toNatClampNeg (v1 + 1))))) X 9 0 (qaX3_smells) rfl (saX3_smells _) hb32 dX3_loseOver_32 ?_
      refine x_aload_n (pc := 33) X dX3_loseOver_33 rfl 0 rfl ?_
      refine gX3_15 (pc := 34) X dX3_loseOver_34 ?_
      refine x_iload_n (pc := 37) X dX3_loseOver_37 rfl 1 rfl ?_
      refine x_aload_n (pc := 38) X dX3_loseOver_38 rfl 0 rfl ?_
      refine gX3_15 (pc := 39) X dX3_loseOver_39 ?_
      refine x_iload_n (pc := 42) X dX3_loseOver_42 rfl 1 rfl ?_
      refine x_iconst (pc := 43) (v := 1) X dX3_loseOver_43 (by decide) ?_
      refine x_iadd (pc := 44) X dX3_loseOver_44 ?_
      obtain ⟨hb45, h⟩ := xck_some h
      refine x_iald (pc := 45) X 10 0 (qaX3_strengths) rfl hb45 dX3_loseOver_45 ?_
      obtain ⟨hb46, h⟩ := xck_some h
      refine x_iast (pc := 46) (σ' := (xsA (xsA σ 2 (Int32.toNatClampNeg v1) (xA σ 2 (Int32.toNatClampNeg (v1 + 1)))) 3 (Int32.toNatClampNeg v1) (xA (xsA σ 2 (Int32.toNatClampNeg v1) (xA σ 2 (Int32.toNatClampNeg (v1 + 1)))) 3 (Int32.toNatClampNeg (v1 + 1))))) X 10 0 (qaX3_strengths) rfl (saX3_strengths _) hb46 dX3_loseOver_46 ?_
      refine x_aload_n (pc := 47) X dX3_loseOver_47 rfl 0 rfl ?_
      refine gX3_18 (pc := 48) X dX3_loseOver_48 ?_
      refine x_iload_n (pc := 51) X dX3_loseOver_51 rfl 1 rfl ?_
      refine x_aload_n (pc := 52) X dX3_loseOver_52 rfl 0 rfl ?_
      refine gX3_18 (pc := 53) X dX3_loseOver_53 ?_
      refine x_iload_n (pc := 56) X dX3_loseOver_56 rfl 1 rfl ?_
      refine x_iconst (pc := 57) (v := 1) X dX3_loseOver_57 (by decide) ?_
      refine x_iadd (pc := 58) X dX3_loseOver_58 ?_
      obtain ⟨hb59, h⟩ := xck_some h
      refine x_iald (pc := 59) X 11 0 (qaX3_fasts) rfl hb59 dX3_loseOver_59 ?_
      obtain ⟨hb60, h⟩ := xck_some h
      refine x_iast (pc := 60) (σ' := (xsA (xsA (xsA σ 2 (Int32.toNatClampNeg v1) (xA σ 2 (Int32.toNatClampNeg (v1 + 1)))) 3 (Int32.toNatClampNeg v1) (xA (xsA σ 2 (Int32.toNatClampNeg v1) (xA σ 2 (Int32.toNatClampNeg (v1 + 1)))) 3 (Int32.toNatClampNeg (v1 + 1)))) 4 (Int32.toNatClampNeg v1) (xA (xsA (xsA σ 2 (Int32.toNatClampNeg v1) (xA σ 2 (Int32.toNatClampNeg (v1 + 1)))) 3 (Int32.toNatClampNeg v1) (xA (xsA σ 2 (Int32.toNatClampNeg v1) (xA σ 2 (Int32.toNatClampNeg (v1 + 1)))) 3 (Int32.toNatClampNeg (v1 + 1)))) 4 (Int32.toNatClampNeg (v1 + 1))))) X 11 0 (qaX3_fasts) rfl (saX3_fasts _) hb60 dX3_loseOver_60 ?_
      refine x_iinc (pc := 61) (v := (v1 + 1)) (lv' := [(1, .int (v1 + 1)), (0, .ref (ad 5))]) X dX3_loseOver_61 1 rfl rfl (by decide) rfl ?_
      refine x_goto (pc := 64) X 2 dX3_loseOver_64 (by decide) ?_
      refine x_sub [1, 0] rfl ?_
      exact hc2 _ _ h
theorem wX3_loseOver_L2 {p : Program} {l : Launch} {e : Env} {s : State} {m : MethodId} {args : Array Value} {below : List Frame} {meth : Method} {c : Code} {D : va_G} {A : Nat → Prop} {ad : Nat → Nat} {cI cX : ClassId} {σ' : xSt} (X : xX p s m args c cX3_loseOver 2 RX3 D (tyC cI cX) A (wC ad cI cX)) (hr : meth.sig.returnType = none) (hl : meth.locks = false) (F : Nat) : ∀ (n : Nat) (v1 : Int32) (σ : xSt), mX3_loseOver_L2 F n v1 σ = some σ' → xG p l e ({ frames := 0, cells := 0, slots := 0, locals := 0 }) s m args below meth c (MQ below (xQv D A (wC ad cI cX) σ') args s 0 0 A) 2 D A (wC ad cI cX) σ 2 [(0, .ref (ad 5)), (1, .int v1)] [] := by
  intro n
  induction n with
  | zero => intro v1 σ h; cases h
  | succ n ih => intro v1 σ h; exact wX3_loseOver_S2 X hr hl F ih v1 σ h
set_option maxRecDepth 100000 in
set_option maxHeartbeats 4000000 in
theorem kX3_loseOver (l : Launch) {D : va_G} {A : Nat → Prop} {ad : Nat → Nat} {cI cX : ClassId} (hD : ∀ σ, va_D A ((wC ad cI cX) σ)) (F : Nat) (σ : xSt) (σ' : xSt) (h : mX3_loseOver F σ = some σ') : xM l yX3_loseOver cX3_loseOver 2 none ({ frames := 0, cells := 0, slots := 0, locals := 0 }) D (tyC cI cX) A (wC ad cI cX) [.ref (ad 5)] σ (xQv D A (wC ad cI cX) σ') := by
  refine xM_of (lv := [(0, .ref (ad 5))]) [.ref (ad 5)] (by decide) hD rfl (Nat.le_of_ble_eq_true rfl) ?_
  intro p e s m args below meth c X hr hl
  unfold mX3_loseOver at h
  refine x_iconst (pc := 0) (v := 0) X dX3_loseOver_0 (by decide) ?_
  refine x_istore_n (pc := 1) (lv' := [(1, .int 0), (0, .ref (ad 5))]) X dX3_loseOver_1 rfl (by decide) rfl ?_
  refine x_sub [1, 0] rfl ?_
  exact wX3_loseOver_L2 X hr hl F F _ _ h
set_option maxRecDepth 100000 in
set_option maxHeartbeats 4000000 in
theorem wX8_holds_L14 {p : Program} {l : Launch} {e : Env} {s : State} {m : MethodId} {args : Array Value} {below : List Frame} {meth : Method} {c : Code} {D : va_G} {A : Nat → Prop} {ad : Nat → Nat} {cI cX : ClassId} {r : Int32} {σ' : xSt} (X : xX p s m args c cX8_holds 2 RX8 D (tyC cI cX) A (wC ad cI cX)) (hr : meth.sig.returnType = (some .boolean)) (hl : meth.locks = false) (F : Nat) (t0 : Int32) (σ : xSt) (h : mX8_holds_L14 F t0 σ = some (r, σ')) : xG p l e ({ frames := 0, cells := 0, slots := 0, locals := 0 }) s m args below meth c (MQ below (xQi D A (wC ad cI cX) r σ') args s 0 0 A) 2 D A (wC ad cI cX) σ 14 [] [.int t0] := by
  unfold mX8_holds_L14 at h
  obtain ⟨hb14, h⟩ := xck_some h
  exact x_zret (pc := 14) X hr hl hb14 h dX8_holds_14
set_option maxRecDepth 100000 in
set_option maxHeartbeats 4000000 in
theorem kX8_holds (l : Launch) {D : va_G} {A : Nat → Prop} {ad : Nat → Nat} {cI cX : ClassId} (hD : ∀ σ, va_D A ((wC ad cI cX) σ)) (F : Nat) (v0 : Int32) (v1 : Int32) (σ : xSt) (r : Int32) (σ' : xSt) (h : mX8_holds F v0 v1 σ = some (r, σ')) : xM l yX8_holds cX8_holds 2 (some .boolean) ({ frames := 0, cells := 0, slots := 0, locals := 0 }) D (tyC cI cX) A (wC ad cI cX) [.int v0, .int v1] σ (xQi D A (wC ad cI cX) r σ') := by
  refine xM_of (lv := [(0, .int v0), (1, .int v1)]) [.int v0, .int v1] (by decide) hD rfl (Nat.le_of_ble_eq_true rfl) ?_
  intro p e s m args below meth c X hr hl
  unfold mX8_holds at h
  refine x_iload_n (pc := 0) X dX8_holds_0 rfl 0 rfl ?_
  refine x_iload_n (pc := 1) X dX8_holds_1 rfl 1 rfl ?_
  refine x_ishr (pc := 2) X dX8_holds_2 ?_
  refine x_iconst (pc := 3) (v := 1) X dX8_holds_3 (by decide) ?_
  refine x_iand (pc := 4) X dX8_holds_4 ?_
  refine x_iconst (pc := 5) (v := 1) X dX8_holds_5 (by decide) ?_
  refine x_icmp_ne (pc := 6) X 13 dX8_holds_6 (by decide) (fun hc => ?_) (fun hc => ?_)
  · have h := xif hc h
    refine x_iconst (pc := 13) (v := 0) X dX8_holds_13 (by decide) ?_
    refine x_sub [] rfl ?_
    exact wX8_holds_L14 X hr hl F _ _ h
  · have h := xit hc h
    refine x_iconst (pc := 9) (v := 1) X dX8_holds_9 (by decide) ?_
    refine x_goto (pc := 10) X 14 dX8_holds_10 (by decide) ?_
    refine x_sub [] rfl ?_
    exact wX8_holds_L14 X hr hl F _ _ h
set_option maxRecDepth 100000 in
set_option maxHeartbeats 4000000 in
theorem wX3_toldBy_L52 {p : Program} {l : Launch} {e : Env} {s : State} {m : MethodId} {args : Array Value} {below : List Frame} {meth : Method} {c : Code} {D : va_G} {A : Nat → Prop} {ad : Nat → Nat} {cI cX : ClassId} {r : Int32} {σ' : xSt} (X : xX p s m args c cX3_toldBy 4 RX3 D (tyC cI cX) A (wC ad cI cX)) (hr : meth.sig.returnType = (some .int)) (hl : meth.locks = false) (F : Nat) (v2 : Int32) (σ : xSt) (h : mX3_toldBy_L52 F v2 σ = some (r, σ')) : xG p l e ({ frames := 0, cells := 0, slots := 0, locals := 0 }) s m args below meth c (MQ below (xQi D A (wC ad cI cX) r σ') args s 0 0 A) 4 D A (wC ad cI cX) σ 52 [(2, .int v2)] [] := by
  unfold mX3_toldBy_L52 at h
  refine x_iload_n (pc := 52) X dX3_toldBy_52 rfl 0 rfl ?_
  exact x_iret (pc := 53) X hr hl h dX3_toldBy_53
set_option maxRecDepth 100000 in
set_option maxHeartbeats 4000000 in
theorem wX3_toldBy_L42 {p : Program} {l : Launch} {e : Env} {s : State} {m : MethodId} {args : Array Value} {below : List Frame} {meth : Method} {c : Code} {D : va_G} {A : Nat → Prop} {ad : Nat → Nat} {cI cX : ClassId} {r : Int32} {σ' : xSt} {c4 : Int32 → Int32 → Int32 → xSt → Option (Int32 × xSt)} (X : xX p s m args c cX3_toldBy 4 RX3 D (tyC cI cX) A (wC ad cI cX)) (hr : meth.sig.returnType = (some .int)) (hl : meth.locks = false) (F : Nat) (hc4 : ∀ (v1 : Int32) (v2 : Int32) (v3 : Int32) (σ : xSt), c4 v1 v2 v3 σ = some (r, σ') → xG p l e ({ frames := 0, cells := 0, slots := 0, locals := 0 }) s m args below meth c (MQ below (xQi D A (wC ad cI cX) r σ') args s 0 0 A) 4 D A (wC ad cI cX) σ 4 [(0, .ref (ad 5)), (1, .int v1), (2, .int v2), (3, .int v3)] []) (v1 : Int32) (v3 : Int32) (t0 : Int32) (t1 : Int32) (t3 : Int32) (σ : xSt) (h : mX3_toldBy_L42 F c4 v1 v3 t0 t1 t3 σ = some (r, σ')) : xG p l e ({ frames := 0, cells := 0, slots := 0, locals := 0 }) s m args below meth c (MQ below (xQi D A (wC ad cI cX) r σ') args s 0 0 A) 4 D A (wC ad cI cX) σ 42 [(0, .ref (ad 5)), (1, .int v1), (3, .int v3)] [.int t3, .ref (ad 9), .int t1, .int t0] := by
  unfold mX3_toldBy_L42 at h
  obtain ⟨hb42, h⟩ := xck_some h
  refine x_iald (pc := 42) X 9 0 (qaX3_smells) rfl hb42 dX3_toldBy_42 ?_
  refine x_ishl (pc := 43) X dX3_toldBy_43 ?_
  refine x_ior (pc := 44) X dX3_toldBy_44 ?_
  refine x_istore_n (pc := 45) (lv' := [(2, .int (t0 ||| (t1 <<< ((xA σ 2 (Int32.toNatClampNeg t3)) &&& 31)))), (0, .ref (ad 5)), (1, .int v1), (3, .int v3)]) X dX3_toldBy_45 rfl (by decide) rfl ?_
  refine x_iinc (pc := 46) (v := (v3 + 1)) (lv' := [(3, .int (v3 + 1)), (2, .int (t0 ||| (t1 <<< ((xA σ 2 (Int32.toNatClampNeg t3)) &&& 31)))), (0, .ref (ad 5)), (1, .int v1)]) X dX3_toldBy_46 3 rfl rfl (by decide) rfl ?_
  refine x_goto (pc := 49) X 4 dX3_toldBy_49 (by decide) ?_
  refine x_sub [2, 3, 1, 0] rfl ?_
  exact hc4 _ _ _ _ h
set_option maxRecDepth 100000 in
set_option maxHeartbeats 4000000 in
theorem wX3_toldBy_S4 {p : Program} {l : Launch} {e : Env} {s : State} {m : MethodId} {args : Array Value} {below : List Frame} {meth : Method} {c : Code} {D : va_G} {A : Nat → Prop} {ad : Nat → Nat} {cI cX : ClassId} {r : Int32} {σ' : xSt} {c4 : Int32 → Int32 → Int32 → xSt → Option (Int32 × xSt)} (X : xX p s m args c cX3_toldBy 4 RX3 D (tyC cI cX) A (wC ad cI cX)) (hr : meth.sig.returnType = (some .int)) (hl : meth.locks = false) (F : Nat) (hc4 : ∀ (v1 : Int32) (v2 : Int32) (v3 : Int32) (σ : xSt), c4 v1 v2 v3 σ = some (r, σ') → xG p l e ({ frames := 0, cells := 0, slots := 0, locals := 0 }) s m args below meth c (MQ below (xQi D A (wC ad cI cX) r σ') args s 0 0 A) 4 D A (wC ad cI cX) σ 4 [(0, .ref (ad 5)), (1, .int v1), (2, .int v2), (3, .int v3)] []) (v1 : Int32) (v2 : Int32) (v3 : Int32) (σ : xSt) (h : mX3_toldBy_S4 F c4 v1 v2 v3 σ = some (r, σ')) : xG p l e ({ frames := 0, cells := 0, slots := 0, locals := 0 }) s m args below meth c (MQ below (xQi D A (wC ad cI cX) r σ') args s 0 0 A) 4 D A (wC ad cI cX) σ 4 [(0, .ref (ad 5)), (1, .int v1), (2, .int v2), (3, .int v3)] [] := by
  unfold mX3_toldBy_S4 at h
  refine x_iload_n (pc := 4) X dX3_toldBy_4 rfl 3 rfl ?_
  refine x_aload_n (pc := 5) X dX3_toldBy_5 rfl 0 rfl ?_
  refine gX3_21 (pc := 6) X dX3_toldBy_6 ?_
  refine x_icmp_ge (pc := 9) X 52 dX3_toldBy_9 (by decide) (fun hc => ?_) (fun hc => ?_)
  · have h := xit hc h
    refine x_sub [2] rfl ?_
    exact wX3_toldBy_L52 X hr hl F _ _ h
  · have h := xif hc h
    refine x_iload_n (pc := 12) X dX3_toldBy_12 rfl 3 rfl ?_
    refine x_iload_n (pc := 13) X dX3_toldBy_13 rfl 1 rfl ?_
    refine x_icmp_ge (pc := 14) X 52 dX3_toldBy_14 (by decide) (fun hc => ?_) (fun hc => ?_)
    · have h := xit hc h
      refine x_sub [2] rfl ?_
      exact wX3_toldBy_L52 X hr hl F _ _ h
    · have h := xif hc h
      refine x_iload_n (pc := 17) X dX3_toldBy_17 rfl 2 rfl ?_
      refine x_iconst (pc := 18) (v := 1) X dX3_toldBy_18 (by decide) ?_
      refine x_aload_n (pc := 19) X dX3_toldBy_19 rfl 0 rfl ?_
      refine gX3_9 (pc := 20) X dX3_toldBy_20 ?_
      refine x_aload_n (pc := 23) X dX3_toldBy_23 rfl 0 rfl ?_
      refine gX3_25 (pc := 24) X dX3_toldBy_24 ?_
      refine x_if_eq (pc := 27) X 41 dX3_toldBy_27 (by decide) (fun hc => ?_) (fun hc => ?_)
      · have h := xit hc h
        refine x_iload_n (pc := 41) X dX3_toldBy_41 rfl 3 rfl ?_
        refine x_sub [0, 1, 3] rfl ?_
        exact wX3_toldBy_L42 X hr hl F hc4 _ _ _ _ _ _ h
      · have h := xif hc h
        refine x_aload_n (pc := 30) X dX3_toldBy_30 rfl 0 rfl ?_
        refine gX3_21 (pc := 31) X dX3_toldBy_31 ?_
        refine x_iconst (pc := 34) (v := 1) X dX3_toldBy_34 (by decide) ?_
        refine x_isub (pc := 35) X dX3_toldBy_35 ?_
        refine x_iload_n (pc := 36) X dX3_toldBy_36 rfl 3 rfl ?_
        refine x_isub (pc := 37) X dX3_toldBy_37 ?_
        refine x_goto (pc := 38) X 42 dX3_toldBy_38 (by decide) ?_
        refine x_sub [0, 1, 3] rfl ?_
        exact wX3_toldBy_L42 X hr hl F hc4 _ _ _ _ _ _ h
theorem wX3_toldBy_L4 {p : Program} {l : Launch} {e : Env} {s : State} {m : MethodId} {args : Array Value} {below : List Frame} {meth : Method} {c : Code} {D : va_G} {A : Nat → Prop} {ad : Nat → Nat} {cI cX : ClassId} {r : Int32} {σ' : xSt} (X : xX p s m args c cX3_toldBy 4 RX3 D (tyC cI cX) A (wC ad cI cX)) (hr : meth.sig.returnType = (some .int)) (hl : meth.locks = false) (F : Nat) : ∀ (n : Nat) (v1 : Int32) (v2 : Int32) (v3 : Int32) (σ : xSt), mX3_toldBy_L4 F n v1 v2 v3 σ = some (r, σ') → xG p l e ({ frames := 0, cells := 0, slots := 0, locals := 0 }) s m args below meth c (MQ below (xQi D A (wC ad cI cX) r σ') args s 0 0 A) 4 D A (wC ad cI cX) σ 4 [(0, .ref (ad 5)), (1, .int v1), (2, .int v2), (3, .int v3)] [] := by
  intro n
  induction n with
  | zero => intro v1 v2 v3 σ h; cases h
  | succ n ih => intro v1 v2 v3 σ h; exact wX3_toldBy_S4 X hr hl F ih v1 v2 v3 σ h
set_option maxRecDepth 100000 in
set_option maxHeartbeats 4000000 in
theorem kX3_toldBy (l : Launch) {D : va_G} {A : Nat → Prop} {ad : Nat → Nat} {cI cX : ClassId} (hD : ∀ σ, va_D A ((wC ad cI cX) σ)) (F : Nat) (v1 : Int32) (σ : xSt) (r : Int32) (σ' : xSt) (h : mX3_toldBy F v1 σ = some (r, σ')) : xM l yX3_toldBy cX3_toldBy 4 (some .int) ({ frames := 0, cells := 0, slots := 0, locals := 0 }) D (tyC cI cX) A (wC ad cI cX) [.ref (ad 5), .int v1] σ (xQi D A (wC ad cI cX) r σ') := by
  refine xM_of (lv := [(0, .ref (ad 5)), (1, .int v1)]) [.ref (ad 5), .int v1] (by decide) hD rfl (Nat.le_of_ble_eq_true rfl) ?_
  intro p e s m args below meth c X hr hl
  unfold mX3_toldBy at h
  refine x_iconst (pc := 0) (v := 0) X dX3_toldBy_0 (by decide) ?_
  refine x_istore_n (pc := 1) (lv' := [(2, .int 0), (0, .ref (ad 5)), (1, .int v1)]) X dX3_toldBy_1 rfl (by decide) rfl ?_
  refine x_iconst (pc := 2) (v := 0) X dX3_toldBy_2 (by decide) ?_
  refine x_istore_n (pc := 3) (lv' := [(3, .int 0), (2, .int 0), (0, .ref (ad 5)), (1, .int v1)]) X dX3_toldBy_3 rfl (by decide) rfl ?_
  refine x_sub [2, 3, 1, 0] rfl ?_
  exact wX3_toldBy_L4 X hr hl F F _ _ _ _ h
set_option maxRecDepth 100000 in
set_option maxHeartbeats 4000000 in
theorem wX2_tellsBehind_L287 {p : Program} {l : Launch} {e : Env} {s : State} {m : MethodId} {args : Array Value} {below : List Frame} {meth : Method} {c : Code} {D : va_G} {A : Nat → Prop} {ad : Nat → Nat} {cI cX : ClassId} {r : Int32} {σ' : xSt} (X : xX p s m args c cX2_tellsBehind 10 RX2 D (tyC cI cX) A (wC ad cI cX)) (hr : meth.sig.returnType = (some .int)) (hl : meth.locks = false) (F : Nat) (v1 : Int32) (σ : xSt) (h : mX2_tellsBehind_L287 F v1 σ = some (r, σ')) : xG p l e ({ frames := 1, cells := 0, slots := 0, locals := 26 }) s m args below meth c (MQ below (xQi D A (wC ad cI cX) r σ') args s 0 0 A) 10 D A (wC ad cI cX) σ 287 [(0, .ref (ad 1)), (1, .int v1)] [] := by
  unfold mX2_tellsBehind_L287 at h
  refine x_aload_n (pc := 287) X dX2_tellsBehind_287 rfl 0 rfl ?_
  refine gX2_38 (pc := 288) X dX2_tellsBehind_288 ?_
  refine x_aload_n (pc := 291) X dX2_tellsBehind_291 rfl 0 rfl ?_
  refine gX2_14 (pc := 292) X dX2_tellsBehind_292 ?_
  refine gX2_80 (pc := 295) X 0 (by decide) dX2_tellsBehind_295 ?_
  refine x_iload_n (pc := 298) X dX2_tellsBehind_298 rfl 1 rfl ?_
  obtain ⟨hb299, h⟩ := xck_some h
  refine x_iald (pc := 299) X (18 + 0) 0 (qaX6_second 0 (by decide)) rfl hb299 dX2_tellsBehind_299 ?_
  obtain ⟨r300, σ300, hq300, h⟩ := xb2_some h
  refine x_calliV (pc := 300) (As := [.int (xA σ (10 + 0) (Int32.toNatClampNeg v1))]) (rest := []) X (kX3_toldBy l X.2.2.2.2.2.2.2 F _ _ _ _ hq300) kvX2_94 rfl (qX3) ⟨rfl, rfl, Nat.le_of_ble_eq_true rfl, Nat.le_of_ble_eq_true rfl⟩ rfl rfl (Nat.le_of_ble_eq_true rfl) dX2_tellsBehind_300 ?_
  exact x_iret (pc := 303) X hr hl h dX2_tellsBehind_303
set_option maxRecDepth 100000 in
set_option maxHeartbeats 4000000 in
theorem wX2_tellsBehind_L281 {p : Program} {l : Launch} {e : Env} {s : State} {m : MethodId} {args : Array Value} {below : List Frame} {meth : Method} {c : Code} {D : va_G} {A : Nat → Prop} {ad : Nat → Nat} {cI cX : ClassId} {r : Int32} {σ' : xSt} {c44 : Int32 → Int32 → Int32 → Int32 → Int32 → Int32 → xSt → Option (Int32 × xSt)} (X : xX p s m args c cX2_tellsBehind 10 RX2 D (tyC cI cX) A (wC ad cI cX)) (hr : meth.sig.returnType = (some .int)) (hl : meth.locks = false) (F : Nat) (hc44 : ∀ (v1 : Int32) (v2 : Int32) (v3 : Int32) (v4 : Int32) (v5 : Int32) (v6 : Int32) (σ : xSt), c44 v1 v2 v3 v4 v5 v6 σ = some (r, σ') → xG p l e ({ frames := 1, cells := 0, slots := 0, locals := 26 }) s m args below meth c (MQ below (xQi D A (wC ad cI cX) r σ') args s 0 0 A) 10 D A (wC ad cI cX) σ 44 [(0, .ref (ad 1)), (1, .int v1), (2, .int v2), (3, .int v3), (4, .int v4), (5, .int v5), (6, .int v6)] []) (v1 : Int32) (v2 : Int32) (v3 : Int32) (v4 : Int32) (v5 : Int32) (v6 : Int32) (σ : xSt) (h : mX2_tellsBehind_L281 F c44 v1 v2 v3 v4 v5 v6 σ = some (r, σ')) : xG p l e ({ frames := 1, cells := 0, slots := 0, locals := 26 }) s m args below meth c (MQ below (xQi D A (wC ad cI cX) r σ') args s 0 0 A) 10 D A (wC ad cI cX) σ 281 [(0, .ref (ad 1)), (1, .int v1), (2, .int v2), (3, .int v3), (4, .int v4), (5, .int v5), (6, .int v6)] [] := by
  unfold mX2_tellsBehind_L281 at h
  refine x_iinc (pc := 281) (v := (v6 + 1)) (lv' := [(6, .int (v6 + 1)), (0, .ref (ad 1)), (1, .int v1), (2, .int v2), (3, .int v3), (4, .int v4), (5, .int v5)]) X dX2_tellsBehind_281 6 rfl rfl (by decide) rfl ?_
  refine x_goto (pc := 284) X 44 dX2_tellsBehind_284 (by decide) ?_
  refine x_sub [1, 2, 3, 4, 5, 6, 0] rfl ?_
  exact hc44 _ _ _ _ _ _ _ h
set_option maxRecDepth 100000 in
set_option maxHeartbeats 4000000 in
theorem wX2_tellsBehind_L265 {p : Program} {l : Launch} {e : Env} {s : State} {m : MethodId} {args : Array Value} {below : List Frame} {meth : Method} {c : Code} {D : va_G} {A : Nat → Prop} {ad : Nat → Nat} {cI cX : ClassId} {r : Int32} {σ' : xSt} {c44 : Int32 → Int32 → Int32 → Int32 → Int32 → Int32 → xSt → Option (Int32 × xSt)} (X : xX p s m args c cX2_tellsBehind 10 RX2 D (tyC cI cX) A (wC ad cI cX)) (hr : meth.sig.returnType = (some .int)) (hl : meth.locks = false) (F : Nat) (hc44 : ∀ (v1 : Int32) (v2 : Int32) (v3 : Int32) (v4 : Int32) (v5 : Int32) (v6 : Int32) (σ : xSt), c44 v1 v2 v3 v4 v5 v6 σ = some (r, σ') → xG p l e ({ frames := 1, cells := 0, slots := 0, locals := 26 }) s m args below meth c (MQ below (xQi D A (wC ad cI cX) r σ') args s 0 0 A) 10 D A (wC ad cI cX) σ 44 [(0, .ref (ad 1)), (1, .int v1), (2, .int v2), (3, .int v3), (4, .int v4), (5, .int v5), (6, .int v6)] []) (v1 : Int32) (v2 : Int32) (v3 : Int32) (v4 : Int32) (v5 : Int32) (v6 : Int32) (σ : xSt) (h : mX2_tellsBehind_L265 F c44 v1 v2 v3 v4 v5 v6 σ = some (r, σ')) : xG p l e ({ frames := 1, cells := 0, slots := 0, locals := 26 }) s m args below meth c (MQ below (xQi D A (wC ad cI cX) r σ') args s 0 0 A) 10 D A (wC ad cI cX) σ 265 [(0, .ref (ad 1)), (1, .int v1), (2, .int v2), (3, .int v3), (4, .int v4), (5, .int v5), (6, .int v6)] [] := by
  unfold mX2_tellsBehind_L265 at h
  refine x_iload_n (pc := 265) X dX2_tellsBehind_265 rfl 3 rfl ?_
  refine x_iload (pc := 266) X dX2_tellsBehind_266 6 rfl ?_
  obtain ⟨r268, σ268, hq268, h⟩ := xb2_some h
  refine x_calliN (pc := 268) (As := [.int v3, .int v6]) (rest := []) X (kX8_holds l X.2.2.2.2.2.2.2 F _ _ _ _ _ hq268) kvX2_90 ⟨rfl, rfl, Nat.le_of_ble_eq_true rfl, Nat.le_of_ble_eq_true rfl⟩ rfl rfl (Nat.le_of_ble_eq_true rfl) dX2_tellsBehind_268 ?_
  refine x_if_eq (pc := 271) X 281 dX2_tellsBehind_271 (by decide) (fun hc => ?_) (fun hc => ?_)
  · have h := xit hc h
    refine x_sub [0, 1, 2, 3, 4, 5, 6] rfl ?_
    exact wX2_tellsBehind_L281 X hr hl F hc44 _ _ _ _ _ _ _ h
  · have h := xif hc h
    refine x_aload_n (pc := 274) X dX2_tellsBehind_274 rfl 0 rfl ?_
    refine gX2_38 (pc := 275) X dX2_tellsBehind_275 ?_
    obtain ⟨σ278, hq278, h⟩ := xb1_some h
    refine x_callvV (pc := 278) (As := []) (rest := []) X (kX3_loseOver l X.2.2.2.2.2.2.2 F _ _ hq278) kvX2_87 rfl (qX3) ⟨rfl, rfl, Nat.le_of_ble_eq_true rfl, Nat.le_of_ble_eq_true rfl⟩ rfl rfl (Nat.le_of_ble_eq_true rfl) dX2_tellsBehind_278 ?_
    refine x_sub [0, 1, 2, 3, 4, 5, 6] rfl ?_
    exact wX2_tellsBehind_L281 X hr hl F hc44 _ _ _ _ _ _ _ h
set_option maxRecDepth 100000 in
set_option maxHeartbeats 4000000 in
theorem wX2_tellsBehind_L259 {p : Program} {l : Launch} {e : Env} {s : State} {m : MethodId} {args : Array Value} {below : List Frame} {meth : Method} {c : Code} {D : va_G} {A : Nat → Prop} {ad : Nat → Nat} {cI cX : ClassId} {r : Int32} {σ' : xSt} {c44 : Int32 → Int32 → Int32 → Int32 → Int32 → Int32 → xSt → Option (Int32 × xSt)} {c195 : Int32 → Int32 → Int32 → Int32 → Int32 → Int32 → xSt → Option (Int32 × xSt)} (X : xX p s m args c cX2_tellsBehind 10 RX2 D (tyC cI cX) A (wC ad cI cX)) (hr : meth.sig.returnType = (some .int)) (hl : meth.locks = false) (F : Nat) (hc44 : ∀ (v1 : Int32) (v2 : Int32) (v3 : Int32) (v4 : Int32) (v5 : Int32) (v6 : Int32) (σ : xSt), c44 v1 v2 v3 v4 v5 v6 σ = some (r, σ') → xG p l e ({ frames := 1, cells := 0, slots := 0, locals := 26 }) s m args below meth c (MQ below (xQi D A (wC ad cI cX) r σ') args s 0 0 A) 10 D A (wC ad cI cX) σ 44 [(0, .ref (ad 1)), (1, .int v1), (2, .int v2), (3, .int v3), (4, .int v4), (5, .int v5), (6, .int v6)] []) (hc195 : ∀ (v1 : Int32) (v2 : Int32) (v3 : Int32) (v4 : Int32) (v5 : Int32) (v6 : Int32) (σ : xSt), c195 v1 v2 v3 v4 v5 v6 σ = some (r, σ') → xG p l e ({ frames := 1, cells := 0, slots := 0, locals := 26 }) s m args below meth c (MQ below (xQi D A (wC ad cI cX) r σ') args s 0 0 A) 10 D A (wC ad cI cX) σ 195 [(0, .ref (ad 1)), (1, .int v1), (2, .int v2), (3, .int v3), (4, .int v4), (5, .int v5), (6, .int v6)] []) (v1 : Int32) (v2 : Int32) (v3 : Int32) (v4 : Int32) (v5 : Int32) (v6 : Int32) (σ : xSt) (h : mX2_tellsBehind_L259 F c44 c195 v1 v2 v3 v4 v5 v6 σ = some (r, σ')) : xG p l e ({ frames := 1, cells := 0, slots := 0, locals := 26 }) s m args below meth c (MQ below (xQi D A (wC ad cI cX) r σ') args s 0 0 A) 10 D A (wC ad cI cX) σ 259 [(0, .ref (ad 1)), (1, .int v1), (2, .int v2), (3, .int v3), (4, .int v4), (5, .int v5), (6, .int v6)] [] := by
  unfold mX2_tellsBehind_L259 at h
  refine x_iinc (pc := 259) (v := (v5 + 1)) (lv' := [(5, .int (v5 + 1)), (0, .ref (ad 1)), (1, .int v1), (2, .int v2), (3, .int v3), (4, .int v4), (6, .int v6)]) X dX2_tellsBehind_259 5 rfl rfl (by decide) rfl ?_
  refine x_goto (pc := 262) X 195 dX2_tellsBehind_262 (by decide) ?_
  refine x_sub [1, 2, 3, 4, 5, 0, 6] rfl ?_
  exact hc195 _ _ _ _ _ _ _ h
set_option maxRecDepth 100000 in
set_option maxHeartbeats 4000000 in
theorem wX2_tellsBehind_S195 {p : Program} {l : Launch} {e : Env} {s : State} {m : MethodId} {args : Array Value} {below : List Frame} {meth : Method} {c : Code} {D : va_G} {A : Nat → Prop} {ad : Nat → Nat} {cI cX : ClassId} {r : Int32} {σ' : xSt} {c44 : Int32 → Int32 → Int32 → Int32 → Int32 → Int32 → xSt → Option (Int32 × xSt)} {c195 : Int32 → Int32 → Int32 → Int32 → Int32 → Int32 → xSt → Option (Int32 × xSt)} (X : xX p s m args c cX2_tellsBehind 10 RX2 D (tyC cI cX) A (wC ad cI cX)) (hr : meth.sig.returnType = (some .int)) (hl : meth.locks = false) (F : Nat) (hc44 : ∀ (v1 : Int32) (v2 : Int32) (v3 : Int32) (v4 : Int32) (v5 : Int32) (v6 : Int32) (σ : xSt), c44 v1 v2 v3 v4 v5 v6 σ = some (r, σ') → xG p l e ({ frames := 1, cells := 0, slots := 0, locals := 26 }) s m args below meth c (MQ below (xQi D A (wC ad cI cX) r σ') args s 0 0 A) 10 D A (wC ad cI cX) σ 44 [(0, .ref (ad 1)), (1, .int v1), (2, .int v2), (3, .int v3), (4, .int v4), (5, .int v5), (6, .int v6)] []) (hc195 : ∀ (v1 : Int32) (v2 : Int32) (v3 : Int32) (v4 : Int32) (v5 : Int32) (v6 : Int32) (σ : xSt), c195 v1 v2 v3 v4 v5 v6 σ = some (r, σ') → xG p l e ({ frames := 1, cells := 0, slots := 0, locals := 26 }) s m args below meth c (MQ below (xQi D A (wC ad cI cX) r σ') args s 0 0 A) 10 D A (wC ad cI cX) σ 195 [(0, .ref (ad 1)), (1, .int v1), (2, .int v2), (3, .int v3), (4, .int v4), (5, .int v5), (6, .int v6)] []) (v1 : Int32) (v2 : Int32) (v3 : Int32) (v4 : Int32) (v5 : Int32) (v6 : Int32) (σ : xSt) (h : mX2_tellsBehind_S195 F c44 c195 v1 v2 v3 v4 v5 v6 σ = some (r, σ')) : xG p l e ({ frames := 1, cells := 0, slots := 0, locals := 26 }) s m args below meth c (MQ below (xQi D A (wC ad cI cX) r σ') args s 0 0 A) 10 D A (wC ad cI cX) σ 195 [(0, .ref (ad 1)), (1, .int v1), (2, .int v2), (3, .int v3), (4, .int v4), (5, .int v5), (6, .int v6)] [] := by
  unfold mX2_tellsBehind_S195 at h
  refine x_iload (pc := 195) X dX2_tellsBehind_195 5 rfl ?_
  refine x_aload_n (pc := 197) X dX2_tellsBehind_197 rfl 0 rfl ?_
  refine gX2_32 (pc := 198) X dX2_tellsBehind_198 ?_
  refine gX2_60 (pc := 201) X 1 (by decide) dX2_tellsBehind_201 ?_
  refine x_icmp_ge (pc := 204) X 265 dX2_tellsBehind_204 (by decide) (fun hc => ?_) (fun hc => ?_)
  · have h := xit hc h
    refine x_sub [0, 1, 2, 3, 4, 5, 6] rfl ?_
    exact wX2_tellsBehind_L265 X hr hl F hc44 _ _ _ _ _ _ _ h
  · have h := xif hc h
    refine x_aload_n (pc := 207) X dX2_tellsBehind_207 rfl 0 rfl ?_
    refine gX2_32 (pc := 208) X dX2_tellsBehind_208 ?_
    refine gX2_63 (pc := 211) X 1 (by decide) dX2_tellsBehind_211 ?_
    refine x_aload_n (pc := 214) X dX2_tellsBehind_214 rfl 0 rfl ?_
    refine gX2_32 (pc := 215) X dX2_tellsBehind_215 ?_
    refine gX2_66 (pc := 218) X 1 (by decide) dX2_tellsBehind_218 ?_
    refine x_iload (pc := 221) X dX2_tellsBehind_221 5 rfl ?_
    obtain ⟨hb223, h⟩ := xck_some h
    refine x_iald (pc := 223) X (34 + 1) 0 (qaX7_order 1 (by decide)) rfl hb223 dX2_tellsBehind_223 ?_
    obtain ⟨hb224, h⟩ := xck_some h
    refine x_iald (pc := 224) X (25 + 1) 0 (qaX7_hours 1 (by decide)) rfl hb224 dX2_tellsBehind_224 ?_
    refine x_iload (pc := 225) X dX2_tellsBehind_225 6 rfl ?_
    refine x_icmp_ne (pc := 227) X 265 dX2_tellsBehind_227 (by decide) (fun hc => ?_) (fun hc => ?_)
    · have h := xif hc h
      refine x_sub [0, 1, 2, 3, 4, 5, 6] rfl ?_
      exact wX2_tellsBehind_L265 X hr hl F hc44 _ _ _ _ _ _ _ h
    · have h := xit hc h
      refine x_aload_n (pc := 230) X dX2_tellsBehind_230 rfl 0 rfl ?_
      refine gX2_32 (pc := 231) X dX2_tellsBehind_231 ?_
      refine gX2_72 (pc := 234) X 1 (by decide) dX2_tellsBehind_234 ?_
      refine x_aload_n (pc := 237) X dX2_tellsBehind_237 rfl 0 rfl ?_
      refine gX2_32 (pc := 238) X dX2_tellsBehind_238 ?_
      refine gX2_66 (pc := 241) X 1 (by decide) dX2_tellsBehind_241 ?_
      refine x_iload (pc := 244) X dX2_tellsBehind_244 5 rfl ?_
      obtain ⟨hb246, h⟩ := xck_some h
      refine x_iald (pc := 246) X (34 + 1) 0 (qaX7_order 1 (by decide)) rfl hb246 dX2_tellsBehind_246 ?_
      obtain ⟨hb247, h⟩ := xck_some h
      refine x_iald (pc := 247) X (28 + 1) 0 (qaX7_things 1 (by decide)) rfl hb247 dX2_tellsBehind_247 ?_
      refine x_iload_n (pc := 248) X dX2_tellsBehind_248 rfl 1 rfl ?_
      refine x_icmp_ne (pc := 249) X 259 dX2_tellsBehind_249 (by decide) (fun hc => ?_) (fun hc => ?_)
      · have h := xif hc h
        refine x_sub [0, 1, 2, 3, 4, 5, 6] rfl ?_
        exact wX2_tellsBehind_L259 X hr hl F hc44 hc195 _ _ _ _ _ _ _ h
      · have h := xit hc h
        refine x_aload_n (pc := 252) X dX2_tellsBehind_252 rfl 0 rfl ?_
        refine gX2_38 (pc := 253) X dX2_tellsBehind_253 ?_
        obtain ⟨σ256, hq256, h⟩ := xb1_some h
        refine x_callvV (pc := 256) (As := []) (rest := []) X (kX3_loseOver l X.2.2.2.2.2.2.2 F _ _ hq256) kvX2_87 rfl (qX3) ⟨rfl, rfl, Nat.le_of_ble_eq_true rfl, Nat.le_of_ble_eq_true rfl⟩ rfl rfl (Nat.le_of_ble_eq_true rfl) dX2_tellsBehind_256 ?_
        refine x_sub [0, 1, 2, 3, 4, 5, 6] rfl ?_
        exact wX2_tellsBehind_L259 X hr hl F hc44 hc195 _ _ _ _ _ _ _ h
theorem wX2_tellsBehind_L195 {p : Program} {l : Launch} {e : Env} {s : State} {m : MethodId} {args : Array Value} {below : List Frame} {meth : Method} {c : Code} {D : va_G} {A : Nat → Prop} {ad : Nat → Nat} {cI cX : ClassId} {r : Int32} {σ' : xSt} {c44 : Int32 → Int32 → Int32 → Int32 → Int32 → Int32 → xSt → Option (Int32 × xSt)} (X : xX p s m args c cX2_tellsBehind 10 RX2 D (tyC cI cX) A (wC ad cI cX)) (hr : meth.sig.returnType = (some .int)) (hl : meth.locks = false) (F : Nat) (hc44 : ∀ (v1 : Int32) (v2 : Int32) (v3 : Int32) (v4 : Int32) (v5 : Int32) (v6 : Int32) (σ : xSt), c44 v1 v2 v3 v4 v5 v6 σ = some (r, σ') → xG p l e ({ frames := 1, cells := 0, slots := 0, locals := 26 }) s m args below meth c (MQ below (xQi D A (wC ad cI cX) r σ') args s 0 0 A) 10 D A (wC ad cI cX) σ 44 [(0, .ref (ad 1)), (1, .int v1), (2, .int v2), (3, .int v3), (4, .int v4), (5, .int v5), (6, .int v6)] []) : ∀ (n : Nat) (v1 : Int32) (v2 : Int32) (v3 : Int32) (v4 : Int32) (v5 : Int32) (v6 : Int32) (σ : xSt), mX2_tellsBehind_L195 F c44 n v1 v2 v3 v4 v5 v6 σ = some (r, σ') → xG p l e ({ frames := 1, cells := 0, slots := 0, locals := 26 }) s m args below meth c (MQ below (xQi D A (wC ad cI cX) r σ') args s 0 0 A) 10 D A (wC ad cI cX) σ 195 [(0, .ref (ad 1)), (1, .int v1), (2, .int v2), (3, .int v3), (4, .int v4), (5, .int v5), (6, .int v6)] [] := by
  intro n
  induction n with
  | zero => intro v1 v2 v3 v4 v5 v6 σ h; cases h
  | succ n ih => intro v1 v2 v3 v4 v5 v6 σ h; exact wX2_tellsBehind_S195 X hr hl F hc44 ih v1 v2 v3 v4 v5 v6 σ h
set_option maxRecDepth 100000 in
set_option maxHeartbeats 4000000 in
theorem wX2_tellsBehind_L189 {p : Program} {l : Launch} {e : Env} {s : State} {m : MethodId} {args : Array Value} {below : List Frame} {meth : Method} {c : Code} {D : va_G} {A : Nat → Prop} {ad : Nat → Nat} {cI cX : ClassId} {r : Int32} {σ' : xSt} {c44 : Int32 → Int32 → Int32 → Int32 → Int32 → Int32 → xSt → Option (Int32 × xSt)} {c57 : Int32 → Int32 → Int32 → Int32 → Int32 → Int32 → xSt → Option (Int32 × xSt)} (X : xX p s m args c cX2_tellsBehind 10 RX2 D (tyC cI cX) A (wC ad cI cX)) (hr : meth.sig.returnType = (some .int)) (hl : meth.locks = false) (F : Nat) (hc44 : ∀ (v1 : Int32) (v2 : Int32) (v3 : Int32) (v4 : Int32) (v5 : Int32) (v6 : Int32) (σ : xSt), c44 v1 v2 v3 v4 v5 v6 σ = some (r, σ') → xG p l e ({ frames := 1, cells := 0, slots := 0, locals := 26 }) s m args below meth c (MQ below (xQi D A (wC ad cI cX) r σ') args s 0 0 A) 10 D A (wC ad cI cX) σ 44 [(0, .ref (ad 1)), (1, .int v1), (2, .int v2), (3, .int v3), (4, .int v4), (5, .int v5), (6, .int v6)] []) (hc57 : ∀ (v1 : Int32) (v2 : Int32) (v3 : Int32) (v4 : Int32) (v5 : Int32) (v6 : Int32) (σ : xSt), c57 v1 v2 v3 v4 v5 v6 σ = some (r, σ') → xG p l e ({ frames := 1, cells := 0, slots := 0, locals := 26 }) s m args below meth c (MQ below (xQi D A (wC ad cI cX) r σ') args s 0 0 A) 10 D A (wC ad cI cX) σ 57 [(0, .ref (ad 1)), (1, .int v1), (2, .int v2), (3, .int v3), (4, .int v4), (5, .int v5), (6, .int v6)] []) (v1 : Int32) (v2 : Int32) (v3 : Int32) (v4 : Int32) (v5 : Int32) (v6 : Int32) (σ : xSt) (h : mX2_tellsBehind_L189 F c44 c57 v1 v2 v3 v4 v5 v6 σ = some (r, σ')) : xG p l e ({ frames := 1, cells := 0, slots := 0, locals := 26 }) s m args below meth c (MQ below (xQi D A (wC ad cI cX) r σ') args s 0 0 A) 10 D A (wC ad cI cX) σ 189 [(0, .ref (ad 1)), (1, .int v1), (2, .int v2), (3, .int v3), (4, .int v4), (5, .int v5), (6, .int v6)] [] := by
  unfold mX2_tellsBehind_L189 at h
  refine x_iinc (pc := 189) (v := (v4 + 1)) (lv' := [(4, .int (v4 + 1)), (0, .ref (ad 1)), (1, .int v1), (2, .int v2), (3, .int v3), (5, .int v5), (6, .int v6)]) X dX2_tellsBehind_189 4 rfl rfl (by decide) rfl ?_
  refine x_goto (pc := 192) X 57 dX2_tellsBehind_192 (by decide) ?_
  refine x_sub [1, 2, 3, 4, 0, 5, 6] rfl ?_
  exact hc57 _ _ _ _ _ _ _ h
set_option maxRecDepth 100000 in
set_option maxHeartbeats 4000000 in
theorem wX2_tellsBehind_S57 {p : Program} {l : Launch} {e : Env} {s : State} {m : MethodId} {args : Array Value} {below : List Frame} {meth : Method} {c : Code} {D : va_G} {A : Nat → Prop} {ad : Nat → Nat} {cI cX : ClassId} {r : Int32} {σ' : xSt} {c44 : Int32 → Int32 → Int32 → Int32 → Int32 → Int32 → xSt → Option (Int32 × xSt)} {c57 : Int32 → Int32 → Int32 → Int32 → Int32 → Int32 → xSt → Option (Int32 × xSt)} (X : xX p s m args c cX2_tellsBehind 10 RX2 D (tyC cI cX) A (wC ad cI cX)) (hr : meth.sig.returnType = (some .int)) (hl : meth.locks = false) (F : Nat) (hc44 : ∀ (v1 : Int32) (v2 : Int32) (v3 : Int32) (v4 : Int32) (v5 : Int32) (v6 : Int32) (σ : xSt), c44 v1 v2 v3 v4 v5 v6 σ = some (r, σ') → xG p l e ({ frames := 1, cells := 0, slots := 0, locals := 26 }) s m args below meth c (MQ below (xQi D A (wC ad cI cX) r σ') args s 0 0 A) 10 D A (wC ad cI cX) σ 44 [(0, .ref (ad 1)), (1, .int v1), (2, .int v2), (3, .int v3), (4, .int v4), (5, .int v5), (6, .int v6)] []) (hc57 : ∀ (v1 : Int32) (v2 : Int32) (v3 : Int32) (v4 : Int32) (v5 : Int32) (v6 : Int32) (σ : xSt), c57 v1 v2 v3 v4 v5 v6 σ = some (r, σ') → xG p l e ({ frames := 1, cells := 0, slots := 0, locals := 26 }) s m args below meth c (MQ below (xQi D A (wC ad cI cX) r σ') args s 0 0 A) 10 D A (wC ad cI cX) σ 57 [(0, .ref (ad 1)), (1, .int v1), (2, .int v2), (3, .int v3), (4, .int v4), (5, .int v5), (6, .int v6)] []) (v1 : Int32) (v2 : Int32) (v3 : Int32) (v4 : Int32) (v5 : Int32) (v6 : Int32) (σ : xSt) (h : mX2_tellsBehind_S57 F c44 c57 v1 v2 v3 v4 v5 v6 σ = some (r, σ')) : xG p l e ({ frames := 1, cells := 0, slots := 0, locals := 26 }) s m args below meth c (MQ below (xQi D A (wC ad cI cX) r σ') args s 0 0 A) 10 D A (wC ad cI cX) σ 57 [(0, .ref (ad 1)), (1, .int v1), (2, .int v2), (3, .int v3), (4, .int v4), (5, .int v5), (6, .int v6)] [] := by
  unfold mX2_tellsBehind_S57 at h
  refine x_iload (pc := 57) X dX2_tellsBehind_57 4 rfl ?_
  refine x_aload_n (pc := 59) X dX2_tellsBehind_59 rfl 0 rfl ?_
  refine gX2_28 (pc := 60) X dX2_tellsBehind_60 ?_
  refine gX2_60 (pc := 63) X 0 (by decide) dX2_tellsBehind_63 ?_
  refine x_icmp_ge (pc := 66) X 195 dX2_tellsBehind_66 (by decide) (fun hc => ?_) (fun hc => ?_)
  · have h := xit hc h
    refine x_sub [0, 1, 2, 3, 4, 5, 6] rfl ?_
    exact wX2_tellsBehind_L195 X hr hl F hc44 F _ _ _ _ _ _ _ h
  · have h := xif hc h
    refine x_aload_n (pc := 69) X dX2_tellsBehind_69 rfl 0 rfl ?_
    refine gX2_28 (pc := 70) X dX2_tellsBehind_70 ?_
    refine gX2_63 (pc := 73) X 0 (by decide) dX2_tellsBehind_73 ?_
    refine x_aload_n (pc := 76) X dX2_tellsBehind_76 rfl 0 rfl ?_
    refine gX2_28 (pc := 77) X dX2_tellsBehind_77 ?_
    refine gX2_66 (pc := 80) X 0 (by decide) dX2_tellsBehind_80 ?_
    refine x_iload (pc := 83) X dX2_tellsBehind_83 4 rfl ?_
    obtain ⟨hb85, h⟩ := xck_some h
    refine x_iald (pc := 85) X (34 + 0) 0 (qaX7_order 0 (by decide)) rfl hb85 dX2_tellsBehind_85 ?_
    obtain ⟨hb86, h⟩ := xck_some h
    refine x_iald (pc := 86) X (25 + 0) 0 (qaX7_hours 0 (by decide)) rfl hb86 dX2_tellsBehind_86 ?_
    refine x_iload (pc := 87) X dX2_tellsBehind_87 6 rfl ?_
    refine x_icmp_ne (pc := 89) X 195 dX2_tellsBehind_89 (by decide) (fun hc => ?_) (fun hc => ?_)
    · have h := xif hc h
      refine x_sub [0, 1, 2, 3, 4, 5, 6] rfl ?_
      exact wX2_tellsBehind_L195 X hr hl F hc44 F _ _ _ _ _ _ _ h
    · have h := xit hc h
      refine x_aload_n (pc := 92) X dX2_tellsBehind_92 rfl 0 rfl ?_
      refine gX2_28 (pc := 93) X dX2_tellsBehind_93 ?_
      refine gX2_66 (pc := 96) X 0 (by decide) dX2_tellsBehind_96 ?_
      refine x_iload (pc := 99) X dX2_tellsBehind_99 4 rfl ?_
      obtain ⟨hb101, h⟩ := xck_some h
      refine x_iald (pc := 101) X (34 + 0) 0 (qaX7_order 0 (by decide)) rfl hb101 dX2_tellsBehind_101 ?_
      refine x_istore (pc := 102) (lv' := [(7, .int (xA σ (24 + 0) (Int32.toNatClampNeg v4))), (0, .ref (ad 1)), (1, .int v1), (2, .int v2), (3, .int v3), (4, .int v4), (5, .int v5), (6, .int v6)]) X dX2_tellsBehind_102 (by decide) rfl ?_
      refine x_aload_n (pc := 104) X dX2_tellsBehind_104 rfl 1 rfl ?_
      refine gX2_28 (pc := 105) X dX2_tellsBehind_105 ?_
      refine gX2_69 (pc := 108) X 0 (by decide) dX2_tellsBehind_108 ?_
      refine x_iload (pc := 111) X dX2_tellsBehind_111 0 rfl ?_
      obtain ⟨hb113, h⟩ := xck_some h
      refine x_iald (pc := 113) X (31 + 0) 0 (qaX7_others 0 (by decide)) rfl hb113 dX2_tellsBehind_113 ?_
      refine x_istore (pc := 114) (lv' := [(8, .int (xA σ (21 + 0) (Int32.toNatClampNeg (xA σ (24 + 0) (Int32.toNatClampNeg v4))))), (7, .int (xA σ (24 + 0) (Int32.toNatClampNeg v4))), (0, .ref (ad 1)), (1, .int v1), (2, .int v2), (3, .int v3), (4, .int v4), (5, .int v5), (6, .int v6)]) X dX2_tellsBehind_114 (by decide) rfl ?_
      refine x_aload_n (pc := 116) X dX2_tellsBehind_116 rfl 2 rfl ?_
      refine gX2_28 (pc := 117) X dX2_tellsBehind_117 ?_
      refine gX2_72 (pc := 120) X 0 (by decide) dX2_tellsBehind_120 ?_
      refine x_iload (pc := 123) X dX2_tellsBehind_123 1 rfl ?_
      obtain ⟨hb125, h⟩ := xck_some h
      refine x_iald (pc := 125) X (28 + 0) 0 (qaX7_things 0 (by decide)) rfl hb125 dX2_tellsBehind_125 ?_
      refine x_iload_n (pc := 126) X dX2_tellsBehind_126 rfl 3 rfl ?_
      refine x_icmp_ne (pc := 127) X 189 dX2_tellsBehind_127 (by decide) (fun hc => ?_) (fun hc => ?_)
      · have h := xif hc h
        refine x_sub [2, 3, 4, 5, 6, 7, 8] rfl ?_
        exact wX2_tellsBehind_L189 X hr hl F hc44 hc57 _ _ _ _ _ _ _ h
      · have h := xit hc h
        refine x_aload_n (pc := 130) X dX2_tellsBehind_130 rfl 2 rfl ?_
        refine x_iload (pc := 131) X dX2_tellsBehind_131 0 rfl ?_
        obtain ⟨r133, σ133, hq133, h⟩ := xb2_some h
        refine x_calliV (pc := 133) (As := [.int (xA σ (21 + 0) (Int32.toNatClampNeg (xA σ (24 + 0) (Int32.toNatClampNeg v4))))]) (rest := []) X (kX2_lacksPerson l X.2.2.2.2.2.2.2 F _ _ _ _ hq133) kvX2_74 rfl (qX2) ⟨rfl, rfl, Nat.le_of_ble_eq_true rfl, Nat.le_of_ble_eq_true rfl⟩ rfl rfl (Nat.le_of_ble_eq_true rfl) dX2_tellsBehind_133 ?_
        refine x_if_ne (pc := 136) X 189 dX2_tellsBehind_136 (by decide) (fun hc => ?_) (fun hc => ?_)
        · have h := xif hc h
          refine x_sub [2, 3, 4, 5, 6, 7, 8] rfl ?_
          exact wX2_tellsBehind_L189 X hr hl F hc44 hc57 _ _ _ _ _ _ _ h
        · have h := xit hc h
          refine x_aload_n (pc := 139) X dX2_tellsBehind_139 rfl 2 rfl ?_
          refine gX2_20 (pc := 140) X dX2_tellsBehind_140 ?_
          refine gX2_50 (pc := 143) X 1 (by decide) dX2_tellsBehind_143 ?_
          refine x_iload (pc := 146) X dX2_tellsBehind_146 0 rfl ?_
          obtain ⟨hb148, h⟩ := xck_some h
          refine x_iald (pc := 148) X (20 + 1) 0 (qaX6_third 1 (by decide)) rfl hb148 dX2_tellsBehind_148 ?_
          refine x_istore (pc := 149) (lv' := [(9, .int (xA σ133 (12 + 1) (Int32.toNatClampNeg (xA σ (21 + 0) (Int32.toNatClampNeg (xA σ (24 + 0) (Int32.toNatClampNeg v4))))))), (8, .int (xA σ (21 + 0) (Int32.toNatClampNeg (xA σ (24 + 0) (Int32.toNatClampNeg v4))))), (7, .int (xA σ (24 + 0) (Int32.toNatClampNeg v4))), (0, .ref (ad 1)), (1, .int v1), (2, .int v2), (3, .int v3), (4, .int v4), (5, .int v5), (6, .int v6)]) X dX2_tellsBehind_149 (by decide) rfl ?_
          refine x_aload_n (pc := 151) X dX2_tellsBehind_151 rfl 3 rfl ?_
          refine gX2_38 (pc := 152) X dX2_tellsBehind_152 ?_
          refine x_iload (pc := 155) X dX2_tellsBehind_155 0 rfl ?_
          refine x_aload_n (pc := 157) X dX2_tellsBehind_157 rfl 3 rfl ?_
          refine gX2_20 (pc := 158) X dX2_tellsBehind_158 ?_
          refine gX2_77 (pc := 161) X 1 (by decide) dX2_tellsBehind_161 ?_
          refine x_iload (pc := 164) X dX2_tellsBehind_164 1 rfl ?_
          obtain ⟨hb166, h⟩ := xck_some h
          refine x_iald (pc := 166) X (16 + 1) 0 (qaX6_first 1 (by decide)) rfl hb166 dX2_tellsBehind_166 ?_
          refine x_aload_n (pc := 167) X dX2_tellsBehind_167 rfl 3 rfl ?_
          refine gX2_20 (pc := 168) X dX2_tellsBehind_168 ?_
          refine gX2_80 (pc := 171) X 1 (by decide) dX2_tellsBehind_171 ?_
          refine x_iload (pc := 174) X dX2_tellsBehind_174 0 rfl ?_
          obtain ⟨hb176, h⟩ := xck_some h
          refine x_iald (pc := 176) X (18 + 1) 0 (qaX6_second 1 (by decide)) rfl hb176 dX2_tellsBehind_176 ?_
          refine x_aload_n (pc := 177) X dX2_tellsBehind_177 rfl 3 rfl ?_
          refine gX2_14 (pc := 178) X dX2_tellsBehind_178 ?_
          refine gX2_77 (pc := 181) X 0 (by decide) dX2_tellsBehind_181 ?_
          refine x_iload_n (pc := 184) X dX2_tellsBehind_184 rfl 4 rfl ?_
          obtain ⟨hb185, h⟩ := xck_some h
          refine x_iald (pc := 185) X (16 + 0) 0 (qaX6_first 0 (by decide)) rfl hb185 dX2_tellsBehind_185 ?_
          obtain ⟨σ186, hq186, h⟩ := xb1_some h
          refine x_callvV (pc := 186) (As := [.int (xA σ133 (12 + 1) (Int32.toNatClampNeg (xA σ (21 + 0) (Int32.toNatClampNeg (xA σ (24 + 0) (Int32.toNatClampNeg v4)))))), .int (xA σ133 (8 + 1) (Int32.toNatClampNeg (xA σ (21 + 0) (Int32.toNatClampNeg (xA σ (24 + 0) (Int32.toNatClampNeg v4)))))), .int (xA σ133 (10 + 1) (Int32.toNatClampNeg (xA σ133 (12 + 1) (Int32.toNatClampNeg (xA σ (21 + 0) (Int32.toNatClampNeg (xA σ (24 + 0) (Int32.toNatClampNeg v4)))))))), .int (xA σ133 (8 + 0) (Int32.toNatClampNeg v1))]) (rest := []) X (kX3_come l X.2.2.2.2.2.2.2 F _ _ _ _ _ _ hq186) kvX2_83 rfl (qX3) ⟨rfl, rfl, Nat.le_of_ble_eq_true rfl, Nat.le_of_ble_eq_true rfl⟩ rfl rfl (Nat.le_of_ble_eq_true rfl) dX2_tellsBehind_186 ?_
          refine x_sub [3, 4, 5, 6, 7, 8, 9] rfl ?_
          exact wX2_tellsBehind_L189 X hr hl F hc44 hc57 _ _ _ _ _ _ _ h
theorem wX2_tellsBehind_L57 {p : Program} {l : Launch} {e : Env} {s : State} {m : MethodId} {args : Array Value} {below : List Frame} {meth : Method} {c : Code} {D : va_G} {A : Nat → Prop} {ad : Nat → Nat} {cI cX : ClassId} {r : Int32} {σ' : xSt} {c44 : Int32 → Int32 → Int32 → Int32 → Int32 → Int32 → xSt → Option (Int32 × xSt)} (X : xX p s m args c cX2_tellsBehind 10 RX2 D (tyC cI cX) A (wC ad cI cX)) (hr : meth.sig.returnType = (some .int)) (hl : meth.locks = false) (F : Nat) (hc44 : ∀ (v1 : Int32) (v2 : Int32) (v3 : Int32) (v4 : Int32) (v5 : Int32) (v6 : Int32) (σ : xSt), c44 v1 v2 v3 v4 v5 v6 σ = some (r, σ') → xG p l e ({ frames := 1, cells := 0, slots := 0, locals := 26 }) s m args below meth c (MQ below (xQi D A (wC ad cI cX) r σ') args s 0 0 A) 10 D A (wC ad cI cX) σ 44 [(0, .ref (ad 1)), (1, .int v1), (2, .int v2), (3, .int v3), (4, .int v4), (5, .int v5), (6, .int v6)] []) : ∀ (n : Nat) (v1 : Int32) (v2 : Int32) (v3 : Int32) (v4 : Int32) (v5 : Int32) (v6 : Int32) (σ : xSt), mX2_tellsBehind_L57 F c44 n v1 v2 v3 v4 v5 v6 σ = some (r, σ') → xG p l e ({ frames := 1, cells := 0, slots := 0, locals := 26 }) s m args below meth c (MQ below (xQi D A (wC ad cI cX) r σ') args s 0 0 A) 10 D A (wC ad cI cX) σ 57 [(0, .ref (ad 1)), (1, .int v1), (2, .int v2), (3, .int v3), (4, .int v4), (5, .int v5), (6, .int v6)] [] := by
  intro n
  induction n with
  | zero => intro v1 v2 v3 v4 v5 v6 σ h; cases h
  | succ n ih => intro v1 v2 v3 v4 v5 v6 σ h; exact wX2_tellsBehind_S57 X hr hl F hc44 ih v1 v2 v3 v4 v5 v6 σ h
set_option maxRecDepth 100000 in
set_option maxHeartbeats 4000000 in
theorem wX2_tellsBehind_S44 {p : Program} {l : Launch} {e : Env} {s : State} {m : MethodId} {args : Array Value} {below : List Frame} {meth : Method} {c : Code} {D : va_G} {A : Nat → Prop} {ad : Nat → Nat} {cI cX : ClassId} {r : Int32} {σ' : xSt} {c44 : Int32 → Int32 → Int32 → Int32 → Int32 → Int32 → xSt → Option (Int32 × xSt)} (X : xX p s m args c cX2_tellsBehind 10 RX2 D (tyC cI cX) A (wC ad cI cX)) (hr : meth.sig.returnType = (some .int)) (hl : meth.locks = false) (F : Nat) (hc44 : ∀ (v1 : Int32) (v2 : Int32) (v3 : Int32) (v4 : Int32) (v5 : Int32) (v6 : Int32) (σ : xSt), c44 v1 v2 v3 v4 v5 v6 σ = some (r, σ') → xG p l e ({ frames := 1, cells := 0, slots := 0, locals := 26 }) s m args below meth c (MQ below (xQi D A (wC ad cI cX) r σ') args s 0 0 A) 10 D A (wC ad cI cX) σ 44 [(0, .ref (ad 1)), (1, .int v1), (2, .int v2), (3, .int v3), (4, .int v4), (5, .int v5), (6, .int v6)] []) (v1 : Int32) (v2 : Int32) (v3 : Int32) (v4 : Int32) (v5 : Int32) (v6 : Int32) (σ : xSt) (h : mX2_tellsBehind_S44 F c44 v1 v2 v3 v4 v5 v6 σ = some (r, σ')) : xG p l e ({ frames := 1, cells := 0, slots := 0, locals := 26 }) s m args below meth c (MQ below (xQi D A (wC ad cI cX) r σ') args s 0 0 A) 10 D A (wC ad cI cX) σ 44 [(0, .ref (ad 1)), (1, .int v1), (2, .int v2), (3, .int v3), (4, .int v4), (5, .int v5), (6, .int v6)] [] := by
  unfold mX2_tellsBehind_S44 at h
  refine x_iload (pc := 44) X dX2_tellsBehind_44 6 rfl ?_
  refine x_iload_n (pc := 46) X dX2_tellsBehind_46 rfl 2 rfl ?_
  refine x_icmp_gt (pc := 47) X 287 dX2_tellsBehind_47 (by decide) (fun hc => ?_) (fun hc => ?_)
  · have h := xit hc h
    refine x_sub [0, 1] rfl ?_
    exact wX2_tellsBehind_L287 X hr hl F _ _ h
  · have h := xif hc h
    refine x_aload_n (pc := 50) X dX2_tellsBehind_50 rfl 0 rfl ?_
    refine gX2_38 (pc := 51) X dX2_tellsBehind_51 ?_
    obtain ⟨σ54, hq54, h⟩ := xb1_some h
    refine x_callvV (pc := 54) (As := []) (rest := []) X (kX3_fade l X.2.2.2.2.2.2.2 F _ _ hq54) kvX2_57 rfl (qX3) ⟨rfl, rfl, Nat.le_of_ble_eq_true rfl, Nat.le_of_ble_eq_true rfl⟩ rfl rfl (Nat.le_of_ble_eq_true rfl) dX2_tellsBehind_54 ?_
    refine x_sub [0, 1, 2, 3, 4, 5, 6] rfl ?_
    exact wX2_tellsBehind_L57 X hr hl F hc44 F _ _ _ _ _ _ _ h
theorem wX2_tellsBehind_L44 {p : Program} {l : Launch} {e : Env} {s : State} {m : MethodId} {args : Array Value} {below : List Frame} {meth : Method} {c : Code} {D : va_G} {A : Nat → Prop} {ad : Nat → Nat} {cI cX : ClassId} {r : Int32} {σ' : xSt} (X : xX p s m args c cX2_tellsBehind 10 RX2 D (tyC cI cX) A (wC ad cI cX)) (hr : meth.sig.returnType = (some .int)) (hl : meth.locks = false) (F : Nat) : ∀ (n : Nat) (v1 : Int32) (v2 : Int32) (v3 : Int32) (v4 : Int32) (v5 : Int32) (v6 : Int32) (σ : xSt), mX2_tellsBehind_L44 F n v1 v2 v3 v4 v5 v6 σ = some (r, σ') → xG p l e ({ frames := 1, cells := 0, slots := 0, locals := 26 }) s m args below meth c (MQ below (xQi D A (wC ad cI cX) r σ') args s 0 0 A) 10 D A (wC ad cI cX) σ 44 [(0, .ref (ad 1)), (1, .int v1), (2, .int v2), (3, .int v3), (4, .int v4), (5, .int v5), (6, .int v6)] [] := by
  intro n
  induction n with
  | zero => intro v1 v2 v3 v4 v5 v6 σ h; cases h
  | succ n ih => intro v1 v2 v3 v4 v5 v6 σ h; exact wX2_tellsBehind_S44 X hr hl F ih v1 v2 v3 v4 v5 v6 σ h
set_option maxRecDepth 100000 in
set_option maxHeartbeats 4000000 in
theorem wX2_tellsBehind_L32 {p : Program} {l : Launch} {e : Env} {s : State} {m : MethodId} {args : Array Value} {below : List Frame} {meth : Method} {c : Code} {D : va_G} {A : Nat → Prop} {ad : Nat → Nat} {cI cX : ClassId} {r : Int32} {σ' : xSt} (X : xX p s m args c cX2_tellsBehind 10 RX2 D (tyC cI cX) A (wC ad cI cX)) (hr : meth.sig.returnType = (some .int)) (hl : meth.locks = false) (F : Nat) (v1 : Int32) (v2 : Int32) (v3 : Int32) (t1 : Int32) (σ : xSt) (h : mX2_tellsBehind_L32 F v1 v2 v3 t1 σ = some (r, σ')) : xG p l e ({ frames := 1, cells := 0, slots := 0, locals := 26 }) s m args below meth c (MQ below (xQi D A (wC ad cI cX) r σ') args s 0 0 A) 10 D A (wC ad cI cX) σ 32 [(0, .ref (ad 1)), (1, .int v1), (2, .int v2), (3, .int v3)] [.int t1, .ref (ad 5)] := by
  unfold mX2_tellsBehind_L32 at h
  obtain ⟨σ32, hq32, h⟩ := xb1_some h
  refine x_callvV (pc := 32) (As := [.int t1]) (rest := []) X (kX3_begin l X.2.2.2.2.2.2.2 F _ _ _ hq32) kvX2_54 rfl (qX3) ⟨rfl, rfl, Nat.le_of_ble_eq_true rfl, Nat.le_of_ble_eq_true rfl⟩ rfl rfl (Nat.le_of_ble_eq_true rfl) dX2_tellsBehind_32 ?_
  refine x_iconst (pc := 35) (v := 0) X dX2_tellsBehind_35 (by decide) ?_
  refine x_istore (pc := 36) (lv' := [(4, .int 0), (0, .ref (ad 1)), (1, .int v1), (2, .int v2), (3, .int v3)]) X dX2_tellsBehind_36 (by decide) rfl ?_
  refine x_iconst (pc := 38) (v := 0) X dX2_tellsBehind_38 (by decide) ?_
  refine x_istore (pc := 39) (lv' := [(5, .int 0), (4, .int 0), (0, .ref (ad 1)), (1, .int v1), (2, .int v2), (3, .int v3)]) X dX2_tellsBehind_39 (by decide) rfl ?_
  refine x_iconst (pc := 41) (v := 0) X dX2_tellsBehind_41 (by decide) ?_
  refine x_istore (pc := 42) (lv' := [(6, .int 0), (5, .int 0), (4, .int 0), (0, .ref (ad 1)), (1, .int v1), (2, .int v2), (3, .int v3)]) X dX2_tellsBehind_42 (by decide) rfl ?_
  refine x_sub [3, 4, 5, 6, 2, 1, 0] rfl ?_
  exact wX2_tellsBehind_L44 X hr hl F F _ _ _ _ _ _ _ h
set_option maxRecDepth 100000 in
set_option maxHeartbeats 4000000 in
theorem kX2_tellsBehind (l : Launch) {D : va_G} {A : Nat → Prop} {ad : Nat → Nat} {cI cX : ClassId} (hD : ∀ σ, va_D A ((wC ad cI cX) σ)) (F : Nat) (v1 : Int32) (v2 : Int32) (v3 : Int32) (σ : xSt) (r : Int32) (σ' : xSt) (h : mX2_tellsBehind F v1 v2 v3 σ = some (r, σ')) : xM l yX2_tellsBehind cX2_tellsBehind 10 (some .int) ({ frames := 1, cells := 0, slots := 0, locals := 26 }) D (tyC cI cX) A (wC ad cI cX) [.ref (ad 1), .int v1, .int v2, .int v3] σ (xQi D A (wC ad cI cX) r σ') := by
  refine xM_of (lv := [(0, .ref (ad 1)), (1, .int v1), (2, .int v2), (3, .int v3)]) [.ref (ad 1), .int v1, .int v2, .int v3] (by decide) hD rfl (Nat.le_of_ble_eq_true rfl) ?_
  intro p e s m args below meth c X hr hl
  unfold mX2_tellsBehind at h
  refine x_aload_n (pc := 0) X dX2_tellsBehind_0 rfl 0 rfl ?_
  refine x_iload_n (pc := 1) X dX2_tellsBehind_1 rfl 1 rfl ?_
  obtain ⟨r2, σ2, hq2, h⟩ := xb2_some h
  refine x_calliV (pc := 2) (As := [.int v1]) (rest := []) X (kX2_lacksThing l X.2.2.2.2.2.2.2 F _ _ _ _ hq2) kvX2_46 rfl (qX2) ⟨rfl, rfl, Nat.le_of_ble_eq_true rfl, Nat.le_of_ble_eq_true rfl⟩ rfl rfl (Nat.le_of_ble_eq_true rfl) dX2_tellsBehind_2 ?_
  refine x_if_eq (pc := 5) X 10 dX2_tellsBehind_5 (by decide) (fun hc => ?_) (fun hc => ?_)
  · have h := xit hc h
    refine x_aload_n (pc := 10) X dX2_tellsBehind_10 rfl 0 rfl ?_
    refine gX2_38 (pc := 11) X dX2_tellsBehind_11 ?_
    refine x_aload_n (pc := 14) X dX2_tellsBehind_14 rfl 0 rfl ?_
    refine gX2_14 (pc := 15) X dX2_tellsBehind_15 ?_
    refine gX2_50 (pc := 18) X 0 (by decide) dX2_tellsBehind_18 ?_
    refine x_iload_n (pc := 21) X dX2_tellsBehind_21 rfl 1 rfl ?_
    obtain ⟨hb22, h⟩ := xck_some h
    refine x_iald (pc := 22) X (20 + 0) 0 (qaX6_third 0 (by decide)) rfl hb22 dX2_tellsBehind_22 ?_
    refine x_iconst (pc := 23) (v := 1) X dX2_tellsBehind_23 (by decide) ?_
    refine x_icmp_ne (pc := 24) X 31 dX2_tellsBehind_24 (by decide) (fun hc => ?_) (fun hc => ?_)
    · have h := xif hc h
      refine x_iconst (pc := 31) (v := 0) X dX2_tellsBehind_31 (by decide) ?_
      refine x_sub [0, 1, 2, 3] rfl ?_
      exact wX2_tellsBehind_L32 X hr hl F _ _ _ _ _ h
    · have h := xit hc h
      refine x_iconst (pc := 27) (v := 1) X dX2_tellsBehind_27 (by decide) ?_
      refine x_goto (pc := 28) X 32 dX2_tellsBehind_28 (by decide) ?_
      refine x_sub [0, 1, 2, 3] rfl ?_
      exact wX2_tellsBehind_L32 X hr hl F _ _ _ _ _ h
  · have h := xif hc h
    refine x_iconst (pc := 8) (v := 0) X dX2_tellsBehind_8 (by decide) ?_
    exact x_iret (pc := 9) X hr hl h dX2_tellsBehind_9
set_option maxRecDepth 100000 in
set_option maxHeartbeats 4000000 in
theorem wX1_comesOut_L59 {p : Program} {l : Launch} {e : Env} {s : State} {m : MethodId} {args : Array Value} {below : List Frame} {meth : Method} {c : Code} {D : va_G} {A : Nat → Prop} {ad : Nat → Nat} {cI cX : ClassId} {r : Int32} {σ' : xSt} (X : xX p s m args c cX1_comesOut 2 RX1 D (tyC cI cX) A (wC ad cI cX)) (hr : meth.sig.returnType = (some .boolean)) (hl : meth.locks = false) (F : Nat) (σ : xSt) (h : mX1_comesOut_L59 F σ = some (r, σ')) : xG p l e ({ frames := 2, cells := 0, slots := 0, locals := 55 }) s m args below meth c (MQ below (xQi D A (wC ad cI cX) r σ') args s 0 0 A) 2 D A (wC ad cI cX) σ 59 [] [] := by
  unfold mX1_comesOut_L59 at h
  refine x_iconst (pc := 59) (v := 1) X dX1_comesOut_59 (by decide) ?_
  obtain ⟨hb60, h⟩ := xck_some h
  exact x_zret (pc := 60) X hr hl hb60 h dX1_comesOut_60
set_option maxRecDepth 100000 in
set_option maxHeartbeats 4000000 in
theorem wX1_comesOut_L51 {p : Program} {l : Launch} {e : Env} {s : State} {m : MethodId} {args : Array Value} {below : List Frame} {meth : Method} {c : Code} {D : va_G} {A : Nat → Prop} {ad : Nat → Nat} {cI cX : ClassId} {r : Int32} {σ' : xSt} (X : xX p s m args c cX1_comesOut 2 RX1 D (tyC cI cX) A (wC ad cI cX)) (hr : meth.sig.returnType = (some .boolean)) (hl : meth.locks = false) (F : Nat) (σ : xSt) (h : mX1_comesOut_L51 F σ = some (r, σ')) : xG p l e ({ frames := 2, cells := 0, slots := 0, locals := 55 }) s m args below meth c (MQ below (xQi D A (wC ad cI cX) r σ') args s 0 0 A) 2 D A (wC ad cI cX) σ 51 [] [] := by
  unfold mX1_comesOut_L51 at h
  refine x_iconst (pc := 51) (v := 0) X dX1_comesOut_51 (by decide) ?_
  obtain ⟨hb52, h⟩ := xck_some h
  exact x_zret (pc := 52) X hr hl hb52 h dX1_comesOut_52
set_option maxRecDepth 100000 in
set_option maxHeartbeats 4000000 in
theorem wX1_comesOut_S2 {p : Program} {l : Launch} {e : Env} {s : State} {m : MethodId} {args : Array Value} {below : List Frame} {meth : Method} {c : Code} {D : va_G} {A : Nat → Prop} {ad : Nat → Nat} {cI cX : ClassId} {r : Int32} {σ' : xSt} {c2 : Int32 → xSt → Option (Int32 × xSt)} (X : xX p s m args c cX1_comesOut 2 RX1 D (tyC cI cX) A (wC ad cI cX)) (hr : meth.sig.returnType = (some .boolean)) (hl : meth.locks = false) (F : Nat) (hc2 : ∀ (v1 : Int32) (σ : xSt), c2 v1 σ = some (r, σ') → xG p l e ({ frames := 2, cells := 0, slots := 0, locals := 55 }) s m args below meth c (MQ below (xQi D A (wC ad cI cX) r σ') args s 0 0 A) 2 D A (wC ad cI cX) σ 2 [(0, .ref (ad 3)), (1, .int v1)] []) (v1 : Int32) (σ : xSt) (h : mX1_comesOut_S2 F c2 v1 σ = some (r, σ')) : xG p l e ({ frames := 2, cells := 0, slots := 0, locals := 55 }) s m args below meth c (MQ below (xQi D A (wC ad cI cX) r σ') args s 0 0 A) 2 D A (wC ad cI cX) σ 2 [(0, .ref (ad 3)), (1, .int v1)] [] := by
  unfold mX1_comesOut_S2 at h
  refine x_iload_n (pc := 2) X dX1_comesOut_2 rfl 1 rfl ?_
  refine x_aload_n (pc := 3) X dX1_comesOut_3 rfl 0 rfl ?_
  refine gX1_19 (pc := 4) X dX1_comesOut_4 ?_
  refine gX1_23 (pc := 7) X 2 (by decide) dX1_comesOut_7 ?_
  refine x_icmp_ge (pc := 10) X 59 dX1_comesOut_10 (by decide) (fun hc => ?_) (fun hc => ?_)
  · have h := xit hc h
    refine x_sub [] rfl ?_
    exact wX1_comesOut_L59 X hr hl F _ h
  · have h := xif hc h
    refine x_aload_n (pc := 13) X dX1_comesOut_13 rfl 0 rfl ?_
    refine gX1_15 (pc := 14) X dX1_comesOut_14 ?_
    refine x_aload_n (pc := 17) X dX1_comesOut_17 rfl 0 rfl ?_
    refine gX1_19 (pc := 18) X dX1_comesOut_18 ?_
    refine gX1_29 (pc := 21) X 2 (by decide) dX1_comesOut_21 ?_
    refine x_iload_n (pc := 24) X dX1_comesOut_24 rfl 1 rfl ?_
    obtain ⟨hb25, h⟩ := xck_some h
    refine x_iald (pc := 25) X (28 + 2) 0 (qaX7_things 2 (by decide)) rfl hb25 dX1_comesOut_25 ?_
    refine x_aload_n (pc := 26) X dX1_comesOut_26 rfl 0 rfl ?_
    refine gX1_19 (pc := 27) X dX1_comesOut_27 ?_
    refine gX1_32 (pc := 30) X 2 (by decide) dX1_comesOut_30 ?_
    refine x_iload_n (pc := 33) X dX1_comesOut_33 rfl 1 rfl ?_
    obtain ⟨hb34, h⟩ := xck_some h
    refine x_iald (pc := 34) X (25 + 2) 0 (qaX7_hours 2 (by decide)) rfl hb34 dX1_comesOut_34 ?_
    refine x_iconst (pc := 35) (v := 0) X dX1_comesOut_35 (by decide) ?_
    obtain ⟨r36, σ36, hq36, h⟩ := xb2_some h
    refine x_calliV (pc := 36) (As := [.int (xA σ (18 + 2) (Int32.toNatClampNeg v1)), .int (xA σ (15 + 2) (Int32.toNatClampNeg v1)), .int 0]) (rest := []) X (kX2_tellsBehind l X.2.2.2.2.2.2.2 F _ _ _ _ _ _ hq36) kvX1_35 rfl (qX2) ⟨rfl, rfl, Nat.le_of_ble_eq_true rfl, Nat.le_of_ble_eq_true rfl⟩ rfl rfl (Nat.le_of_ble_eq_true rfl) dX1_comesOut_36 ?_
    refine x_aload_n (pc := 39) X dX1_comesOut_39 rfl 0 rfl ?_
    refine gX1_19 (pc := 40) X dX1_comesOut_40 ?_
    refine gX1_41 (pc := 43) X 2 (by decide) dX1_comesOut_43 ?_
    refine x_iload_n (pc := 46) X dX1_comesOut_46 rfl 1 rfl ?_
    obtain ⟨hb47, h⟩ := xck_some h
    refine x_iald (pc := 47) X (31 + 2) 0 (qaX7_others 2 (by decide)) rfl hb47 dX1_comesOut_47 ?_
    refine x_icmp_eq (pc := 48) X 53 dX1_comesOut_48 (by decide) (fun hc => ?_) (fun hc => ?_)
    · have h := xit hc h
      refine x_iinc (pc := 53) (v := (v1 + 1)) (lv' := [(1, .int (v1 + 1)), (0, .ref (ad 3))]) X dX1_comesOut_53 1 rfl rfl (by decide) rfl ?_
      refine x_goto (pc := 56) X 2 dX1_comesOut_56 (by decide) ?_
      refine x_sub [1, 0] rfl ?_
      exact hc2 _ _ h
    · have h := xif hc h
      refine x_sub [] rfl ?_
      exact wX1_comesOut_L51 X hr hl F _ h
theorem wX1_comesOut_L2 {p : Program} {l : Launch} {e : Env} {s : State} {m : MethodId} {args : Array Value} {below : List Frame} {meth : Method} {c : Code} {D : va_G} {A : Nat → Prop} {ad : Nat → Nat} {cI cX : ClassId} {r : Int32} {σ' : xSt} (X : xX p s m args c cX1_comesOut 2 RX1 D (tyC cI cX) A (wC ad cI cX)) (hr : meth.sig.returnType = (some .boolean)) (hl : meth.locks = false) (F : Nat) : ∀ (n : Nat) (v1 : Int32) (σ : xSt), mX1_comesOut_L2 F n v1 σ = some (r, σ') → xG p l e ({ frames := 2, cells := 0, slots := 0, locals := 55 }) s m args below meth c (MQ below (xQi D A (wC ad cI cX) r σ') args s 0 0 A) 2 D A (wC ad cI cX) σ 2 [(0, .ref (ad 3)), (1, .int v1)] [] := by
  intro n
  induction n with
  | zero => intro v1 σ h; cases h
  | succ n ih => intro v1 σ h; exact wX1_comesOut_S2 X hr hl F ih v1 σ h
set_option maxRecDepth 100000 in
set_option maxHeartbeats 4000000 in
theorem kX1_comesOut (l : Launch) {D : va_G} {A : Nat → Prop} {ad : Nat → Nat} {cI cX : ClassId} (hD : ∀ σ, va_D A ((wC ad cI cX) σ)) (F : Nat) (σ : xSt) (r : Int32) (σ' : xSt) (h : mX1_comesOut F σ = some (r, σ')) : xM l yX1_comesOut cX1_comesOut 2 (some .boolean) ({ frames := 2, cells := 0, slots := 0, locals := 55 }) D (tyC cI cX) A (wC ad cI cX) [.ref (ad 3)] σ (xQi D A (wC ad cI cX) r σ') := by
  refine xM_of (lv := [(0, .ref (ad 3))]) [.ref (ad 3)] (by decide) hD rfl (Nat.le_of_ble_eq_true rfl) ?_
  intro p e s m args below meth c X hr hl
  unfold mX1_comesOut at h
  refine x_iconst (pc := 0) (v := 0) X dX1_comesOut_0 (by decide) ?_
  refine x_istore_n (pc := 1) (lv' := [(1, .int 0), (0, .ref (ad 3))]) X dX1_comesOut_1 rfl (by decide) rfl ?_
  refine x_sub [1, 0] rfl ?_
  exact wX1_comesOut_L2 X hr hl F F _ _ h
set_option maxRecDepth 100000 in
set_option maxHeartbeats 4000000 in
theorem wX7_add_L64 {p : Program} {l : Launch} {e : Env} {s : State} {m : MethodId} {args : Array Value} {below : List Frame} {meth : Method} {c : Code} {D : va_G} {A : Nat → Prop} {ad : Nat → Nat} {cI cX : ClassId} {σ' : xSt} (X : xX p s m args c cX7_add 5 RX7 D (tyC cI cX) A (wC ad cI cX)) (hr : meth.sig.returnType = none) (hl : meth.locks = false) (F : Nat) (k : Nat) (hk : k < 3) (v1 : Int32) (v2 : Int32) (v3 : Int32) (v4 : Int32) (σ : xSt) (h : mX7_add_L64 F k v1 v2 v3 v4 σ = some σ') : xG p l e ({ frames := 0, cells := 0, slots := 0, locals := 0 }) s m args below meth c (MQ below (xQv D A (wC ad cI cX) σ') args s 0 0 A) 5 D A (wC ad cI cX) σ 64 [(0, .ref (ad (22 + k))), (1, .int v1), (2, .int v2), (3, .int v3), (4, .int v4)] [] := by
  unfold mX7_add_L64 at h
  refine x_aload_n (pc := 64) X dX7_add_64 rfl 0 rfl ?_
  refine gX7_26 (pc := 65) X k hk dX7_add_65 ?_
  refine x_iload (pc := 68) X dX7_add_68 4 rfl ?_
  refine x_aload_n (pc := 70) X dX7_add_70 rfl 0 rfl ?_
  refine gX7_7 (pc := 71) X k hk dX7_add_71 ?_
  obtain ⟨hb74, h⟩ := xck_some h
  refine x_iast (pc := 74) (σ' := (xsA σ (24 + k) (Int32.toNatClampNeg v4) (xI σ (14 + k)))) X (34 + k) 0 (qaX7_order k hk) rfl (saX7_order _ k hk) hb74 dX7_add_74 ?_
  refine x_aload_n (pc := 75) X dX7_add_75 rfl 0 rfl ?_
  refine gX7_16 (pc := 76) X k hk dX7_add_76 ?_
  refine x_aload_n (pc := 79) X dX7_add_79 rfl 0 rfl ?_
  refine gX7_7 (pc := 80) X k hk dX7_add_80 ?_
  refine x_iload_n (pc := 83) X dX7_add_83 rfl 1 rfl ?_
  obtain ⟨hb84, h⟩ := xck_some h
  refine x_iast (pc := 84) (σ' := (xsA (xsA σ (24 + k) (Int32.toNatClampNeg v4) (xI σ (14 + k))) (15 + k) (Int32.toNatClampNeg (xI (xsA σ (24 + k) (Int32.toNatClampNeg v4) (xI σ (14 + k))) (14 + k))) v1)) X (25 + k) 0 (qaX7_hours k hk) rfl (saX7_hours _ k hk) hb84 dX7_add_84 ?_
  refine x_aload_n (pc := 85) X dX7_add_85 rfl 0 rfl ?_
  refine gX7_20 (pc := 86) X k hk dX7_add_86 ?_
  refine x_aload_n (pc := 89) X dX7_add_89 rfl 0 rfl ?_
  refine gX7_7 (pc := 90) X k hk dX7_add_90 ?_
  refine x_iload_n (pc := 93) X dX7_add_93 rfl 2 rfl ?_
  obtain ⟨hb94, h⟩ := xck_some h
  refine x_iast (pc := 94) (σ' := (xsA (xsA (xsA σ (24 + k) (Int32.toNatClampNeg v4) (xI σ (14 + k))) (15 + k) (Int32.toNatClampNeg (xI (xsA σ (24 + k) (Int32.toNatClampNeg v4) (xI σ (14 + k))) (14 + k))) v1) (18 + k) (Int32.toNatClampNeg (xI (xsA (xsA σ (24 + k) (Int32.toNatClampNeg v4) (xI σ (14 + k))) (15 + k) (Int32.toNatClampNeg (xI (xsA σ (24 + k) (Int32.toNatClampNeg v4) (xI σ (14 + k))) (14 + k))) v1) (14 + k))) v2)) X (28 + k) 0 (qaX7_things k hk) rfl (saX7_things _ k hk) hb94 dX7_add_94 ?_
  refine x_aload_n (pc := 95) X dX7_add_95 rfl 0 rfl ?_
  refine gX7_23 (pc := 96) X k hk dX7_add_96 ?_
  refine x_aload_n (pc := 99) X dX7_add_99 rfl 0 rfl ?_
  refine gX7_7 (pc := 100) X k hk dX7_add_100 ?_
  refine x_iload_n (pc := 103) X dX7_add_103 rfl 3 rfl ?_
  obtain ⟨hb104, h⟩ := xck_some h
  refine x_iast (pc := 104) (σ' := (xsA (xsA (xsA (xsA σ (24 + k) (Int32.toNatClampNeg v4) (xI σ (14 + k))) (15 + k) (Int32.toNatClampNeg (xI (xsA σ (24 + k) (Int32.toNatClampNeg v4) (xI σ (14 + k))) (14 + k))) v1) (18 + k) (Int32.toNatClampNeg (xI (xsA (xsA σ (24 + k) (Int32.toNatClampNeg v4) (xI σ (14 + k))) (15 + k) (Int32.toNatClampNeg (xI (xsA σ (24 + k) (Int32.toNatClampNeg v4) (xI σ (14 + k))) (14 + k))) v1) (14 + k))) v2) (21 + k) (Int32.toNatClampNeg (xI (xsA (xsA (xsA σ (24 + k) (Int32.toNatClampNeg v4) (xI σ (14 + k))) (15 + k) (Int32.toNatClampNeg (xI (xsA σ (24 + k) (Int32.toNatClampNeg v4) (xI σ (14 + k))) (14 + k))) v1) (18 + k) (Int32.toNatClampNeg (xI (xsA (xsA σ (24 + k) (Int32.toNatClampNeg v4) (xI σ (14 + k))) (15 + k) (Int32.toNatClampNeg (xI (xsA σ (24 + k) (Int32.toNatClampNeg v4) (xI σ (14 + k))) (14 + k))) v1) (14 + k))) v2) (14 + k))) v3)) X (31 + k) 0 (qaX7_others k hk) rfl (saX7_others _ k hk) hb104 dX7_add_104 ?_
  refine x_aload_n (pc := 105) X dX7_add_105 rfl 0 rfl ?_
  refine x_dup (pc := 106) X dX7_add_106 rfl ?_
  refine gX7_7 (pc := 107) X k hk dX7_add_107 ?_
  refine x_iconst (pc := 110) (v := 1) X dX7_add_110 (by decide) ?_
  refine x_iadd (pc := 111) X dX7_add_111 ?_
  refine uX7_7 (pc := 112) X k hk dX7_add_112 ?_
  exact x_vret (pc := 115) X hr hl h dX7_add_115
set_option maxRecDepth 100000 in
set_option maxHeartbeats 4000000 in
theorem wX7_add_S19 {p : Program} {l : Launch} {e : Env} {s : State} {m : MethodId} {args : Array Value} {below : List Frame} {meth : Method} {c : Code} {D : va_G} {A : Nat → Prop} {ad : Nat → Nat} {cI cX : ClassId} {σ' : xSt} {c19 : Int32 → Int32 → Int32 → Int32 → xSt → Option (xSt)} (X : xX p s m args c cX7_add 5 RX7 D (tyC cI cX) A (wC ad cI cX)) (hr : meth.sig.returnType = none) (hl : meth.locks = false) (F : Nat) (k : Nat) (hk : k < 3) (hc19 : ∀ (v1 : Int32) (v2 : Int32) (v3 : Int32) (v4 : Int32) (σ : xSt), c19 v1 v2 v3 v4 σ = some σ' → xG p l e ({ frames := 0, cells := 0, slots := 0, locals := 0 }) s m args below meth c (MQ below (xQv D A (wC ad cI cX) σ') args s 0 0 A) 5 D A (wC ad cI cX) σ 19 [(0, .ref (ad (22 + k))), (1, .int v1), (2, .int v2), (3, .int v3), (4, .int v4)] []) (v1 : Int32) (v2 : Int32) (v3 : Int32) (v4 : Int32) (σ : xSt) (h : mX7_add_S19 F k c19 v1 v2 v3 v4 σ = some σ') : xG p l e ({ frames := 0, cells := 0, slots := 0, locals := 0 }) s m args below meth c (MQ below (xQv D A (wC ad cI cX) σ') args s 0 0 A) 5 D A (wC ad cI cX) σ 19 [(0, .ref (ad (22 + k))), (1, .int v1), (2, .int v2), (3, .int v3), (4, .int v4)] [] := by
  unfold mX7_add_S19 at h
  refine x_iload (pc := 19) X dX7_add_19 4 rfl ?_
  refine x_if_le (pc := 21) X 64 dX7_add_21 (by decide) (fun hc => ?_) (fun hc => ?_)
  · have h := xit hc h
    refine x_sub [0, 1, 2, 3, 4] rfl ?_
    exact wX7_add_L64 X hr hl F k hk _ _ _ _ _ h
  · have h := xif hc h
    refine x_aload_n (pc := 24) X dX7_add_24 rfl 0 rfl ?_
    refine gX7_16 (pc := 25) X k hk dX7_add_25 ?_
    refine x_aload_n (pc := 28) X dX7_add_28 rfl 0 rfl ?_
    refine gX7_26 (pc := 29) X k hk dX7_add_29 ?_
    refine x_iload (pc := 32) X dX7_add_32 4 rfl ?_
    refine x_iconst (pc := 34) (v := 1) X dX7_add_34 (by decide) ?_
    refine x_isub (pc := 35) X dX7_add_35 ?_
    obtain ⟨hb36, h⟩ := xck_some h
    refine x_iald (pc := 36) X (34 + k) 0 (qaX7_order k hk) rfl hb36 dX7_add_36 ?_
    obtain ⟨hb37, h⟩ := xck_some h
    refine x_iald (pc := 37) X (25 + k) 0 (qaX7_hours k hk) rfl hb37 dX7_add_37 ?_
    refine x_iload_n (pc := 38) X dX7_add_38 rfl 1 rfl ?_
    refine x_icmp_le (pc := 39) X 64 dX7_add_39 (by decide) (fun hc => ?_) (fun hc => ?_)
    · have h := xit hc h
      refine x_sub [0, 1, 2, 3, 4] rfl ?_
      exact wX7_add_L64 X hr hl F k hk _ _ _ _ _ h
    · have h := xif hc h
      refine x_aload_n (pc := 42) X dX7_add_42 rfl 0 rfl ?_
      refine gX7_26 (pc := 43) X k hk dX7_add_43 ?_
      refine x_iload (pc := 46) X dX7_add_46 4 rfl ?_
      refine x_aload_n (pc := 48) X dX7_add_48 rfl 0 rfl ?_
      refine gX7_26 (pc := 49) X k hk dX7_add_49 ?_
      refine x_iload (pc := 52) X dX7_add_52 4 rfl ?_
      refine x_iconst (pc := 54) (v := 1) X dX7_add_54 (by decide) ?_
      refine x_isub (pc := 55) X dX7_add_55 ?_
      obtain ⟨hb56, h⟩ := xck_some h
      refine x_iald (pc := 56) X (34 + k) 0 (qaX7_order k hk) rfl hb56 dX7_add_56 ?_
      obtain ⟨hb57, h⟩ := xck_some h
      refine x_iast (pc := 57) (σ' := (xsA σ (24 + k) (Int32.toNatClampNeg v4) (xA σ (24 + k) (Int32.toNatClampNeg (v4 - 1))))) X (34 + k) 0 (qaX7_order k hk) rfl (saX7_order _ k hk) hb57 dX7_add_57 ?_
      refine x_iinc (pc := 58) (v := (v4 + (-1))) (lv' := [(4, .int (v4 + (-1))), (0, .ref (ad (22 + k))), (1, .int v1), (2, .int v2), (3, .int v3)]) X dX7_add_58 4 rfl rfl (by decide) rfl ?_
      refine x_goto (pc := 61) X 19 dX7_add_61 (by decide) ?_
      refine x_sub [1, 2, 3, 4, 0] rfl ?_
      exact hc19 _ _ _ _ _ h
theorem wX7_add_L19 {p : Program} {l : Launch} {e : Env} {s : State} {m : MethodId} {args : Array Value} {below : List Frame} {meth : Method} {c : Code} {D : va_G} {A : Nat → Prop} {ad : Nat → Nat} {cI cX : ClassId} {σ' : xSt} (X : xX p s m args c cX7_add 5 RX7 D (tyC cI cX) A (wC ad cI cX)) (hr : meth.sig.returnType = none) (hl : meth.locks = false) (F : Nat) (k : Nat) (hk : k < 3) : ∀ (n : Nat) (v1 : Int32) (v2 : Int32) (v3 : Int32) (v4 : Int32) (σ : xSt), mX7_add_L19 F k n v1 v2 v3 v4 σ = some σ' → xG p l e ({ frames := 0, cells := 0, slots := 0, locals := 0 }) s m args below meth c (MQ below (xQv D A (wC ad cI cX) σ') args s 0 0 A) 5 D A (wC ad cI cX) σ 19 [(0, .ref (ad (22 + k))), (1, .int v1), (2, .int v2), (3, .int v3), (4, .int v4)] [] := by
  intro n
  induction n with
  | zero => intro v1 v2 v3 v4 σ h; cases h
  | succ n ih => intro v1 v2 v3 v4 σ h; exact wX7_add_S19 X hr hl F k hk ih v1 v2 v3 v4 σ h
set_option maxRecDepth 100000 in
set_option maxHeartbeats 4000000 in
theorem kX7_add (l : Launch) {D : va_G} {A : Nat → Prop} {ad : Nat → Nat} {cI cX : ClassId} (hD : ∀ σ, va_D A ((wC ad cI cX) σ)) (F : Nat) (k : Nat) (hk : k < 3) (v1 : Int32) (v2 : Int32) (v3 : Int32) (σ : xSt) (σ' : xSt) (h : mX7_add F k v1 v2 v3 σ = some σ') : xM l yX7_add cX7_add 5 none ({ frames := 0, cells := 0, slots := 0, locals := 0 }) D (tyC cI cX) A (wC ad cI cX) [.ref (ad (22 + k)), .int v1, .int v2, .int v3] σ (xQv D A (wC ad cI cX) σ') := by
  refine xM_of (lv := [(0, .ref (ad (22 + k))), (1, .int v1), (2, .int v2), (3, .int v3)]) [.ref (ad (22 + k)), .int v1, .int v2, .int v3] (by decide) hD rfl (Nat.le_of_ble_eq_true rfl) ?_
  intro p e s m args below meth c X hr hl
  unfold mX7_add at h
  refine x_aload_n (pc := 0) X dX7_add_0 rfl 0 rfl ?_
  refine gX7_7 (pc := 1) X k hk dX7_add_1 ?_
  refine x_aload_n (pc := 4) X dX7_add_4 rfl 0 rfl ?_
  refine gX7_26 (pc := 5) X k hk dX7_add_5 ?_
  refine x_alen (pc := 8) X (34 + k) 0 (qaX7_order k hk) rfl rfl dX7_add_8 ?_
  refine x_icmp_lt (pc := 9) X 13 dX7_add_9 (by decide) (fun hc => ?_) (fun hc => ?_)
  · have h := xit hc h
    refine x_aload_n (pc := 13) X dX7_add_13 rfl 0 rfl ?_
    refine gX7_7 (pc := 14) X k hk dX7_add_14 ?_
    refine x_istore (pc := 17) (lv' := [(4, .int (xI σ (14 + k))), (0, .ref (ad (22 + k))), (1, .int v1), (2, .int v2), (3, .int v3)]) X dX7_add_17 (by decide) rfl ?_
    refine x_sub [1, 2, 3, 4, 0] rfl ?_
    exact wX7_add_L19 X hr hl F k hk F _ _ _ _ _ h
  · have h := xif hc h
    exact x_vret (pc := 12) X hr hl h dX7_add_12
set_option maxRecDepth 100000 in
set_option maxHeartbeats 4000000 in
theorem wX7_drop_L77 {p : Program} {l : Launch} {e : Env} {s : State} {m : MethodId} {args : Array Value} {below : List Frame} {meth : Method} {c : Code} {D : va_G} {A : Nat → Prop} {ad : Nat → Nat} {cI cX : ClassId} {σ' : xSt} (X : xX p s m args c cX7_drop 3 RX7 D (tyC cI cX) A (wC ad cI cX)) (hr : meth.sig.returnType = none) (hl : meth.locks = false) (F : Nat) (k : Nat) (hk : k < 3) (σ : xSt) (h : mX7_drop_L77 F k σ = some σ') : xG p l e ({ frames := 0, cells := 0, slots := 0, locals := 0 }) s m args below meth c (MQ below (xQv D A (wC ad cI cX) σ') args s 0 0 A) 3 D A (wC ad cI cX) σ 77 [] [] := by
  unfold mX7_drop_L77 at h
  exact x_vret (pc := 77) X hr hl h dX7_drop_77
set_option maxRecDepth 100000 in
set_option maxHeartbeats 4000000 in
theorem wX7_drop_L71 {p : Program} {l : Launch} {e : Env} {s : State} {m : MethodId} {args : Array Value} {below : List Frame} {meth : Method} {c : Code} {D : va_G} {A : Nat → Prop} {ad : Nat → Nat} {cI cX : ClassId} {σ' : xSt} {c22 : Int32 → Int32 → xSt → Option (xSt)} (X : xX p s m args c cX7_drop 3 RX7 D (tyC cI cX) A (wC ad cI cX)) (hr : meth.sig.returnType = none) (hl : meth.locks = false) (F : Nat) (k : Nat) (hk : k < 3) (hc22 : ∀ (v1 : Int32) (v2 : Int32) (σ : xSt), c22 v1 v2 σ = some σ' → xG p l e ({ frames := 0, cells := 0, slots := 0, locals := 0 }) s m args below meth c (MQ below (xQv D A (wC ad cI cX) σ') args s 0 0 A) 3 D A (wC ad cI cX) σ 22 [(0, .ref (ad (22 + k))), (1, .int v1), (2, .int v2)] []) (v1 : Int32) (v2 : Int32) (σ : xSt) (h : mX7_drop_L71 F k c22 v1 v2 σ = some σ') : xG p l e ({ frames := 0, cells := 0, slots := 0, locals := 0 }) s m args below meth c (MQ below (xQv D A (wC ad cI cX) σ') args s 0 0 A) 3 D A (wC ad cI cX) σ 71 [(0, .ref (ad (22 + k))), (1, .int v1), (2, .int v2)] [] := by
  unfold mX7_drop_L71 at h
  refine x_iinc (pc := 71) (v := (v2 + 1)) (lv' := [(2, .int (v2 + 1)), (0, .ref (ad (22 + k))), (1, .int v1)]) X dX7_drop_71 2 rfl rfl (by decide) rfl ?_
  refine x_goto (pc := 74) X 22 dX7_drop_74 (by decide) ?_
  refine x_sub [1, 2, 0] rfl ?_
  exact hc22 _ _ _ h
set_option maxRecDepth 100000 in
set_option maxHeartbeats 4000000 in
theorem wX7_drop_L52 {p : Program} {l : Launch} {e : Env} {s : State} {m : MethodId} {args : Array Value} {below : List Frame} {meth : Method} {c : Code} {D : va_G} {A : Nat → Prop} {ad : Nat → Nat} {cI cX : ClassId} {σ' : xSt} {c22 : Int32 → Int32 → xSt → Option (xSt)} (X : xX p s m args c cX7_drop 3 RX7 D (tyC cI cX) A (wC ad cI cX)) (hr : meth.sig.returnType = none) (hl : meth.locks = false) (F : Nat) (k : Nat) (hk : k < 3) (hc22 : ∀ (v1 : Int32) (v2 : Int32) (σ : xSt), c22 v1 v2 σ = some σ' → xG p l e ({ frames := 0, cells := 0, slots := 0, locals := 0 }) s m args below meth c (MQ below (xQv D A (wC ad cI cX) σ') args s 0 0 A) 3 D A (wC ad cI cX) σ 22 [(0, .ref (ad (22 + k))), (1, .int v1), (2, .int v2)] []) (v2 : Int32) (t0 : Int32) (σ : xSt) (h : mX7_drop_L52 F k c22 v2 t0 σ = some σ') : xG p l e ({ frames := 0, cells := 0, slots := 0, locals := 0 }) s m args below meth c (MQ below (xQv D A (wC ad cI cX) σ') args s 0 0 A) 3 D A (wC ad cI cX) σ 52 [(0, .ref (ad (22 + k))), (2, .int v2)] [.int t0] := by
  unfold mX7_drop_L52 at h
  refine x_istore_n (pc := 52) (lv' := [(1, .int t0), (0, .ref (ad (22 + k))), (2, .int v2)]) X dX7_drop_52 rfl (by decide) rfl ?_
  refine x_iload_n (pc := 53) X dX7_drop_53 rfl 0 rfl ?_
  refine x_if_eq (pc := 54) X 71 dX7_drop_54 (by decide) (fun hc => ?_) (fun hc => ?_)
  · have h := xit hc h
    refine x_sub [1, 0, 2] rfl ?_
    exact wX7_drop_L71 X hr hl F k hk hc22 _ _ _ h
  · have h := xif hc h
    refine x_aload_n (pc := 57) X dX7_drop_57 rfl 1 rfl ?_
    refine gX7_26 (pc := 58) X k hk dX7_drop_58 ?_
    refine x_iload_n (pc := 61) X dX7_drop_61 rfl 2 rfl ?_
    refine x_aload_n (pc := 62) X dX7_drop_62 rfl 1 rfl ?_
    refine gX7_26 (pc := 63) X k hk dX7_drop_63 ?_
    refine x_iload_n (pc := 66) X dX7_drop_66 rfl 2 rfl ?_
    refine x_iconst (pc := 67) (v := 1) X dX7_drop_67 (by decide) ?_
    refine x_iadd (pc := 68) X dX7_drop_68 ?_
    obtain ⟨hb69, h⟩ := xck_some h
    refine x_iald (pc := 69) X (34 + k) 0 (qaX7_order k hk) rfl hb69 dX7_drop_69 ?_
    obtain ⟨hb70, h⟩ := xck_some h
    refine x_iast (pc := 70) (σ' := (xsA σ (24 + k) (Int32.toNatClampNeg v2) (xA σ (24 + k) (Int32.toNatClampNeg (v2 + 1))))) X (34 + k) 0 (qaX7_order k hk) rfl (saX7_order _ k hk) hb70 dX7_drop_70 ?_
    refine x_sub [1, 0, 2] rfl ?_
    exact wX7_drop_L71 X hr hl F k hk hc22 _ _ _ h
set_option maxRecDepth 100000 in
set_option maxHeartbeats 4000000 in
theorem wX7_drop_L47 {p : Program} {l : Launch} {e : Env} {s : State} {m : MethodId} {args : Array Value} {below : List Frame} {meth : Method} {c : Code} {D : va_G} {A : Nat → Prop} {ad : Nat → Nat} {cI cX : ClassId} {σ' : xSt} {c22 : Int32 → Int32 → xSt → Option (xSt)} (X : xX p s m args c cX7_drop 3 RX7 D (tyC cI cX) A (wC ad cI cX)) (hr : meth.sig.returnType = none) (hl : meth.locks = false) (F : Nat) (k : Nat) (hk : k < 3) (hc22 : ∀ (v1 : Int32) (v2 : Int32) (σ : xSt), c22 v1 v2 σ = some σ' → xG p l e ({ frames := 0, cells := 0, slots := 0, locals := 0 }) s m args below meth c (MQ below (xQv D A (wC ad cI cX) σ') args s 0 0 A) 3 D A (wC ad cI cX) σ 22 [(0, .ref (ad (22 + k))), (1, .int v1), (2, .int v2)] []) (v2 : Int32) (σ : xSt) (h : mX7_drop_L47 F k c22 v2 σ = some σ') : xG p l e ({ frames := 0, cells := 0, slots := 0, locals := 0 }) s m args below meth c (MQ below (xQv D A (wC ad cI cX) σ') args s 0 0 A) 3 D A (wC ad cI cX) σ 47 [(0, .ref (ad (22 + k))), (2, .int v2)] [] := by
  unfold mX7_drop_L47 at h
  refine x_iconst (pc := 47) (v := 1) X dX7_drop_47 (by decide) ?_
  refine x_goto (pc := 48) X 52 dX7_drop_48 (by decide) ?_
  refine x_sub [0, 1] rfl ?_
  exact wX7_drop_L52 X hr hl F k hk hc22 _ _ _ h
set_option maxRecDepth 100000 in
set_option maxHeartbeats 4000000 in
theorem wX7_drop_S22 {p : Program} {l : Launch} {e : Env} {s : State} {m : MethodId} {args : Array Value} {below : List Frame} {meth : Method} {c : Code} {D : va_G} {A : Nat → Prop} {ad : Nat → Nat} {cI cX : ClassId} {σ' : xSt} {c22 : Int32 → Int32 → xSt → Option (xSt)} (X : xX p s m args c cX7_drop 3 RX7 D (tyC cI cX) A (wC ad cI cX)) (hr : meth.sig.returnType = none) (hl : meth.locks = false) (F : Nat) (k : Nat) (hk : k < 3) (hc22 : ∀ (v1 : Int32) (v2 : Int32) (σ : xSt), c22 v1 v2 σ = some σ' → xG p l e ({ frames := 0, cells := 0, slots := 0, locals := 0 }) s m args below meth c (MQ below (xQv D A (wC ad cI cX) σ') args s 0 0 A) 3 D A (wC ad cI cX) σ 22 [(0, .ref (ad (22 + k))), (1, .int v1), (2, .int v2)] []) (v1 : Int32) (v2 : Int32) (σ : xSt) (h : mX7_drop_S22 F k c22 v1 v2 σ = some σ') : xG p l e ({ frames := 0, cells := 0, slots := 0, locals := 0 }) s m args below meth c (MQ below (xQv D A (wC ad cI cX) σ') args s 0 0 A) 3 D A (wC ad cI cX) σ 22 [(0, .ref (ad (22 + k))), (1, .int v1), (2, .int v2)] [] := by
  unfold mX7_drop_S22 at h
  refine x_iload_n (pc := 22) X dX7_drop_22 rfl 2 rfl ?_
  refine x_aload_n (pc := 23) X dX7_drop_23 rfl 0 rfl ?_
  refine gX7_7 (pc := 24) X k hk dX7_drop_24 ?_
  refine x_icmp_ge (pc := 27) X 77 dX7_drop_27 (by decide) (fun hc => ?_) (fun hc => ?_)
  · have h := xit hc h
    refine x_sub [] rfl ?_
    exact wX7_drop_L77 X hr hl F k hk _ h
  · have h := xif hc h
    refine x_iload_n (pc := 30) X dX7_drop_30 rfl 1 rfl ?_
    refine x_if_ne (pc := 31) X 47 dX7_drop_31 (by decide) (fun hc => ?_) (fun hc => ?_)
    · have h := xif hc h
      refine x_sub [0, 2] rfl ?_
      exact wX7_drop_L47 X hr hl F k hk hc22 _ _ h
    · have h := xit hc h
      refine x_aload_n (pc := 34) X dX7_drop_34 rfl 0 rfl ?_
      refine gX7_26 (pc := 35) X k hk dX7_drop_35 ?_
      refine x_iload_n (pc := 38) X dX7_drop_38 rfl 2 rfl ?_
      obtain ⟨hb39, h⟩ := xck_some h
      refine x_iald (pc := 39) X (34 + k) 0 (qaX7_order k hk) rfl hb39 dX7_drop_39 ?_
      refine x_aload_n (pc := 40) X dX7_drop_40 rfl 0 rfl ?_
      refine gX7_7 (pc := 41) X k hk dX7_drop_41 ?_
      refine x_icmp_ne (pc := 44) X 51 dX7_drop_44 (by decide) (fun hc => ?_) (fun hc => ?_)
      · have h := xif hc h
        refine x_iconst (pc := 51) (v := 0) X dX7_drop_51 (by decide) ?_
        refine x_sub [0, 2] rfl ?_
        exact wX7_drop_L52 X hr hl F k hk hc22 _ _ _ h
      · have h := xit hc h
        refine x_sub [0, 2] rfl ?_
        exact wX7_drop_L47 X hr hl F k hk hc22 _ _ h
theorem wX7_drop_L22 {p : Program} {l : Launch} {e : Env} {s : State} {m : MethodId} {args : Array Value} {below : List Frame} {meth : Method} {c : Code} {D : va_G} {A : Nat → Prop} {ad : Nat → Nat} {cI cX : ClassId} {σ' : xSt} (X : xX p s m args c cX7_drop 3 RX7 D (tyC cI cX) A (wC ad cI cX)) (hr : meth.sig.returnType = none) (hl : meth.locks = false) (F : Nat) (k : Nat) (hk : k < 3) : ∀ (n : Nat) (v1 : Int32) (v2 : Int32) (σ : xSt), mX7_drop_L22 F k n v1 v2 σ = some σ' → xG p l e ({ frames := 0, cells := 0, slots := 0, locals := 0 }) s m args below meth c (MQ below (xQv D A (wC ad cI cX) σ') args s 0 0 A) 3 D A (wC ad cI cX) σ 22 [(0, .ref (ad (22 + k))), (1, .int v1), (2, .int v2)] [] := by
  intro n
  induction n with
  | zero => intro v1 v2 σ h; cases h
  | succ n ih => intro v1 v2 σ h; exact wX7_drop_S22 X hr hl F k hk ih v1 v2 σ h
set_option maxRecDepth 100000 in
set_option maxHeartbeats 4000000 in
theorem kX7_drop (l : Launch) {D : va_G} {A : Nat → Prop} {ad : Nat → Nat} {cI cX : ClassId} (hD : ∀ σ, va_D A ((wC ad cI cX) σ)) (F : Nat) (k : Nat) (hk : k < 3) (σ : xSt) (σ' : xSt) (h : mX7_drop F k σ = some σ') : xM l yX7_drop cX7_drop 3 none ({ frames := 0, cells := 0, slots := 0, locals := 0 }) D (tyC cI cX) A (wC ad cI cX) [.ref (ad (22 + k))] σ (xQv D A (wC ad cI cX) σ') := by
  refine xM_of (lv := [(0, .ref (ad (22 + k)))]) [.ref (ad (22 + k))] (by decide) hD rfl (Nat.le_of_ble_eq_true rfl) ?_
  intro p e s m args below meth c X hr hl
  unfold mX7_drop at h
  refine x_aload_n (pc := 0) X dX7_drop_0 rfl 0 rfl ?_
  refine gX7_7 (pc := 1) X k hk dX7_drop_1 ?_
  refine x_if_ne (pc := 4) X 8 dX7_drop_4 (by decide) (fun hc => ?_) (fun hc => ?_)
  · have h := xif hc h
    refine x_aload_n (pc := 8) X dX7_drop_8 rfl 0 rfl ?_
    refine x_dup (pc := 9) X dX7_drop_9 rfl ?_
    refine gX7_7 (pc := 10) X k hk dX7_drop_10 ?_
    refine x_iconst (pc := 13) (v := 1) X dX7_drop_13 (by decide) ?_
    refine x_isub (pc := 14) X dX7_drop_14 ?_
    refine uX7_7 (pc := 15) X k hk dX7_drop_15 ?_
    refine x_iconst (pc := 18) (v := 0) X dX7_drop_18 (by decide) ?_
    refine x_istore_n (pc := 19) (lv' := [(1, .int 0), (0, .ref (ad (22 + k)))]) X dX7_drop_19 rfl (by decide) rfl ?_
    refine x_iconst (pc := 20) (v := 0) X dX7_drop_20 (by decide) ?_
    refine x_istore_n (pc := 21) (lv' := [(2, .int 0), (1, .int 0), (0, .ref (ad (22 + k)))]) X dX7_drop_21 rfl (by decide) rfl ?_
    refine x_sub [2, 1, 0] rfl ?_
    exact wX7_drop_L22 X hr hl F k hk F _ _ _ h
  · have h := xit hc h
    exact x_vret (pc := 7) X hr hl h dX7_drop_7
set_option maxRecDepth 100000 in
set_option maxHeartbeats 4000000 in
theorem wX1_hoursOf_L56 {p : Program} {l : Launch} {e : Env} {s : State} {m : MethodId} {args : Array Value} {below : List Frame} {meth : Method} {c : Code} {D : va_G} {A : Nat → Prop} {ad : Nat → Nat} {cI cX : ClassId} {r : Int32} {σ' : xSt} (X : xX p s m args c cX1_hoursOf 5 RX1 D (tyC cI cX) A (wC ad cI cX)) (hr : meth.sig.returnType = (some .int)) (hl : meth.locks = false) (F : Nat) (v3 : Int32) (σ : xSt) (h : mX1_hoursOf_L56 F v3 σ = some (r, σ')) : xG p l e ({ frames := 3, cells := 0, slots := 0, locals := 76 }) s m args below meth c (MQ below (xQi D A (wC ad cI cX) r σ') args s 0 0 A) 5 D A (wC ad cI cX) σ 56 [(3, .int v3)] [] := by
  unfold mX1_hoursOf_L56 at h
  refine x_iload_n (pc := 56) X dX1_hoursOf_56 rfl 0 rfl ?_
  exact x_iret (pc := 57) X hr hl h dX1_hoursOf_57
set_option maxRecDepth 100000 in
set_option maxHeartbeats 4000000 in
theorem wX1_hoursOf_L40 {p : Program} {l : Launch} {e : Env} {s : State} {m : MethodId} {args : Array Value} {below : List Frame} {meth : Method} {c : Code} {D : va_G} {A : Nat → Prop} {ad : Nat → Nat} {cI cX : ClassId} {r : Int32} {σ' : xSt} {c5 : Int32 → Int32 → Int32 → Int32 → xSt → Option (Int32 × xSt)} (X : xX p s m args c cX1_hoursOf 5 RX1 D (tyC cI cX) A (wC ad cI cX)) (hr : meth.sig.returnType = (some .int)) (hl : meth.locks = false) (F : Nat) (hc5 : ∀ (v1 : Int32) (v2 : Int32) (v3 : Int32) (v4 : Int32) (σ : xSt), c5 v1 v2 v3 v4 σ = some (r, σ') → xG p l e ({ frames := 3, cells := 0, slots := 0, locals := 76 }) s m args below meth c (MQ below (xQi D A (wC ad cI cX) r σ') args s 0 0 A) 5 D A (wC ad cI cX) σ 5 [(0, .ref (ad 3)), (1, .int v1), (2, .int v2), (3, .int v3), (4, .int v4)] []) (v1 : Int32) (v2 : Int32) (v3 : Int32) (v4 : Int32) (σ : xSt) (h : mX1_hoursOf_L40 F c5 v1 v2 v3 v4 σ = some (r, σ')) : xG p l e ({ frames := 3, cells := 0, slots := 0, locals := 76 }) s m args below meth c (MQ below (xQi D A (wC ad cI cX) r σ') args s 0 0 A) 5 D A (wC ad cI cX) σ 40 [(0, .ref (ad 3)), (1, .int v1), (2, .int v2), (3, .int v3), (4, .int v4)] [] := by
  unfold mX1_hoursOf_L40 at h
  refine x_aload_n (pc := 40) X dX1_hoursOf_40 rfl 0 rfl ?_
  refine gX1_15 (pc := 41) X dX1_hoursOf_41 ?_
  refine gX1_44 (pc := 44) X dX1_hoursOf_44 ?_
  obtain ⟨σ47, hq47, h⟩ := xb1_some h
  refine x_callvV (pc := 47) (As := []) (rest := []) X (kX7_drop l X.2.2.2.2.2.2.2 F 0 (by decide) _ _ hq47) kvX1_55 rfl (qX7 0 (by decide)) ⟨rfl, rfl, Nat.le_of_ble_eq_true rfl, Nat.le_of_ble_eq_true rfl⟩ rfl rfl (Nat.le_of_ble_eq_true rfl) dX1_hoursOf_47 ?_
  refine x_iinc (pc := 50) (v := (v4 + 1)) (lv' := [(4, .int (v4 + 1)), (0, .ref (ad 3)), (1, .int v1), (2, .int v2), (3, .int v3)]) X dX1_hoursOf_50 4 rfl rfl (by decide) rfl ?_
  refine x_goto (pc := 53) X 5 dX1_hoursOf_53 (by decide) ?_
  refine x_sub [1, 2, 3, 4, 0] rfl ?_
  exact hc5 _ _ _ _ _ h
set_option maxRecDepth 100000 in
set_option maxHeartbeats 4000000 in
theorem wX1_hoursOf_S5 {p : Program} {l : Launch} {e : Env} {s : State} {m : MethodId} {args : Array Value} {below : List Frame} {meth : Method} {c : Code} {D : va_G} {A : Nat → Prop} {ad : Nat → Nat} {cI cX : ClassId} {r : Int32} {σ' : xSt} {c5 : Int32 → Int32 → Int32 → Int32 → xSt → Option (Int32 × xSt)} (X : xX p s m args c cX1_hoursOf 5 RX1 D (tyC cI cX) A (wC ad cI cX)) (hr : meth.sig.returnType = (some .int)) (hl : meth.locks = false) (F : Nat) (hc5 : ∀ (v1 : Int32) (v2 : Int32) (v3 : Int32) (v4 : Int32) (σ : xSt), c5 v1 v2 v3 v4 σ = some (r, σ') → xG p l e ({ frames := 3, cells := 0, slots := 0, locals := 76 }) s m args below meth c (MQ below (xQi D A (wC ad cI cX) r σ') args s 0 0 A) 5 D A (wC ad cI cX) σ 5 [(0, .ref (ad 3)), (1, .int v1), (2, .int v2), (3, .int v3), (4, .int v4)] []) (v1 : Int32) (v2 : Int32) (v3 : Int32) (v4 : Int32) (σ : xSt) (h : mX1_hoursOf_S5 F c5 v1 v2 v3 v4 σ = some (r, σ')) : xG p l e ({ frames := 3, cells := 0, slots := 0, locals := 76 }) s m args below meth c (MQ below (xQi D A (wC ad cI cX) r σ') args s 0 0 A) 5 D A (wC ad cI cX) σ 5 [(0, .ref (ad 3)), (1, .int v1), (2, .int v2), (3, .int v3), (4, .int v4)] [] := by
  unfold mX1_hoursOf_S5 at h
  refine x_iload (pc := 5) X dX1_hoursOf_5 4 rfl ?_
  refine x_bipush (pc := 7) (v := 24) X dX1_hoursOf_7 (by decide) ?_
  refine x_icmp_ge (pc := 9) X 56 dX1_hoursOf_9 (by decide) (fun hc => ?_) (fun hc => ?_)
  · have h := xit hc h
    refine x_sub [3] rfl ?_
    exact wX1_hoursOf_L56 X hr hl F _ _ h
  · have h := xif hc h
    refine x_aload_n (pc := 12) X dX1_hoursOf_12 rfl 0 rfl ?_
    refine gX1_15 (pc := 13) X dX1_hoursOf_13 ?_
    refine gX1_44 (pc := 16) X dX1_hoursOf_16 ?_
    refine x_iload (pc := 19) X dX1_hoursOf_19 4 rfl ?_
    refine x_iload_n (pc := 21) X dX1_hoursOf_21 rfl 2 rfl ?_
    refine x_iload_n (pc := 22) X dX1_hoursOf_22 rfl 1 rfl ?_
    obtain ⟨σ23, hq23, h⟩ := xb1_some h
    refine x_callvV (pc := 23) (As := [.int v4, .int v2, .int v1]) (rest := []) X (kX7_add l X.2.2.2.2.2.2.2 F 0 (by decide) _ _ _ _ _ hq23) kvX1_47 rfl (qX7 0 (by decide)) ⟨rfl, rfl, Nat.le_of_ble_eq_true rfl, Nat.le_of_ble_eq_true rfl⟩ rfl rfl (Nat.le_of_ble_eq_true rfl) dX1_hoursOf_23 ?_
    refine x_aload_n (pc := 26) X dX1_hoursOf_26 rfl 0 rfl ?_
    obtain ⟨r27, σ27, hq27, h⟩ := xb2_some h
    refine x_calliV (pc := 27) (As := []) (rest := []) X (kX1_comesOut l X.2.2.2.2.2.2.2 F _ _ _ hq27) kvX1_51 rfl (qX1) ⟨rfl, rfl, Nat.le_of_ble_eq_true rfl, Nat.le_of_ble_eq_true rfl⟩ rfl rfl (Nat.le_of_ble_eq_true rfl) dX1_hoursOf_27 ?_
    refine x_if_eq (pc := 30) X 40 dX1_hoursOf_30 (by decide) (fun hc => ?_) (fun hc => ?_)
    · have h := xit hc h
      refine x_sub [0, 1, 2, 3, 4] rfl ?_
      exact wX1_hoursOf_L40 X hr hl F hc5 _ _ _ _ _ h
    · have h := xif hc h
      refine x_iload_n (pc := 33) X dX1_hoursOf_33 rfl 3 rfl ?_
      refine x_iconst (pc := 34) (v := 1) X dX1_hoursOf_34 (by decide) ?_
      refine x_iload (pc := 35) X dX1_hoursOf_35 4 rfl ?_
      refine x_ishl (pc := 37) X dX1_hoursOf_37 ?_
      refine x_ior (pc := 38) X dX1_hoursOf_38 ?_
      refine x_istore_n (pc := 39) (lv' := [(3, .int (v3 ||| (1 <<< (v4 &&& 31)))), (0, .ref (ad 3)), (1, .int v1), (2, .int v2), (4, .int v4)]) X dX1_hoursOf_39 rfl (by decide) rfl ?_
      refine x_sub [1, 2, 3, 0, 4] rfl ?_
      exact wX1_hoursOf_L40 X hr hl F hc5 _ _ _ _ _ h
theorem wX1_hoursOf_L5 {p : Program} {l : Launch} {e : Env} {s : State} {m : MethodId} {args : Array Value} {below : List Frame} {meth : Method} {c : Code} {D : va_G} {A : Nat → Prop} {ad : Nat → Nat} {cI cX : ClassId} {r : Int32} {σ' : xSt} (X : xX p s m args c cX1_hoursOf 5 RX1 D (tyC cI cX) A (wC ad cI cX)) (hr : meth.sig.returnType = (some .int)) (hl : meth.locks = false) (F : Nat) : ∀ (n : Nat) (v1 : Int32) (v2 : Int32) (v3 : Int32) (v4 : Int32) (σ : xSt), mX1_hoursOf_L5 F n v1 v2 v3 v4 σ = some (r, σ') → xG p l e ({ frames := 3, cells := 0, slots := 0, locals := 76 }) s m args below meth c (MQ below (xQi D A (wC ad cI cX) r σ') args s 0 0 A) 5 D A (wC ad cI cX) σ 5 [(0, .ref (ad 3)), (1, .int v1), (2, .int v2), (3, .int v3), (4, .int v4)] [] := by
  intro n
  induction n with
  | zero => intro v1 v2 v3 v4 σ h; cases h
  | succ n ih => intro v1 v2 v3 v4 σ h; exact wX1_hoursOf_S5 X hr hl F ih v1 v2 v3 v4 σ h
set_option maxRecDepth 100000 in
set_option maxHeartbeats 4000000 in
theorem kX1_hoursOf (l : Launch) {D : va_G} {A : Nat → Prop} {ad : Nat → Nat} {cI cX : ClassId} (hD : ∀ σ, va_D A ((wC ad cI cX) σ)) (F : Nat) (v1 : Int32) (v2 : Int32) (σ : xSt) (r : Int32) (σ' : xSt) (h : mX1_hoursOf F v1 v2 σ = some (r, σ')) : xM l yX1_hoursOf cX1_hoursOf 5 (some .int) ({ frames := 3, cells := 0, slots := 0, locals := 76 }) D (tyC cI cX) A (wC ad cI cX) [.ref (ad 3), .int v1, .int v2] σ (xQi D A (wC ad cI cX) r σ') := by
  refine xM_of (lv := [(0, .ref (ad 3)), (1, .int v1), (2, .int v2)]) [.ref (ad 3), .int v1, .int v2] (by decide) hD rfl (Nat.le_of_ble_eq_true rfl) ?_
  intro p e s m args below meth c X hr hl
  unfold mX1_hoursOf at h
  refine x_iconst (pc := 0) (v := 0) X dX1_hoursOf_0 (by decide) ?_
  refine x_istore_n (pc := 1) (lv' := [(3, .int 0), (0, .ref (ad 3)), (1, .int v1), (2, .int v2)]) X dX1_hoursOf_1 rfl (by decide) rfl ?_
  refine x_iconst (pc := 2) (v := 0) X dX1_hoursOf_2 (by decide) ?_
  refine x_istore (pc := 3) (lv' := [(4, .int 0), (3, .int 0), (0, .ref (ad 3)), (1, .int v1), (2, .int v2)]) X dX1_hoursOf_3 (by decide) rfl ?_
  refine x_sub [2, 3, 4, 1, 0] rfl ?_
  exact wX1_hoursOf_L5 X hr hl F F _ _ _ _ _ h
