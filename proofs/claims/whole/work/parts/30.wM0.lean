set_option maxRecDepth 100000 in
set_option maxHeartbeats 4000000 in
theorem wX9_in_L15 {p : Program} {l : Launch} {e : Env} {s : State} {m : MethodId} {args : Array Value} {below : List Frame} {meth : Method} {c : Code} {D : va_G} {A : Nat → Prop} {ad : Nat → Nat} {cI cX : ClassId} {r : Int32} {σ' : xSt} (X : xX p s m args c cX9_in 3 RX9 D (tyM cI cX) A (wM ad cI cX)) (hr : meth.sig.returnType = (some .boolean)) (hl : meth.locks = false) (F : Nat) (t0 : Int32) (σ : xSt) (h : mX9_in_L15 F t0 σ = some (r, σ')) : xG p l e ({ frames := 0, cells := 0, slots := 0, locals := 0 }) s m args below meth c (MQ below (xQi D A (wM ad cI cX) r σ') args s 0 0 A) 3 D A (wM ad cI cX) σ 15 [] [.int t0] := by
  unfold mX9_in_L15 at h
  obtain ⟨hb15, h⟩ := xck_some h
  exact x_zret (pc := 15) X hr hl hb15 h dX9_in_15
set_option maxRecDepth 100000 in
set_option maxHeartbeats 4000000 in
theorem wX9_in_L14 {p : Program} {l : Launch} {e : Env} {s : State} {m : MethodId} {args : Array Value} {below : List Frame} {meth : Method} {c : Code} {D : va_G} {A : Nat → Prop} {ad : Nat → Nat} {cI cX : ClassId} {r : Int32} {σ' : xSt} (X : xX p s m args c cX9_in 3 RX9 D (tyM cI cX) A (wM ad cI cX)) (hr : meth.sig.returnType = (some .boolean)) (hl : meth.locks = false) (F : Nat) (σ : xSt) (h : mX9_in_L14 F σ = some (r, σ')) : xG p l e ({ frames := 0, cells := 0, slots := 0, locals := 0 }) s m args below meth c (MQ below (xQi D A (wM ad cI cX) r σ') args s 0 0 A) 3 D A (wM ad cI cX) σ 14 [] [] := by
  unfold mX9_in_L14 at h
  refine x_iconst (pc := 14) (v := 0) X dX9_in_14 (by decide) ?_
  refine x_sub [] rfl ?_
  exact wX9_in_L15 X hr hl F _ _ h
set_option maxRecDepth 100000 in
set_option maxHeartbeats 4000000 in
theorem kX9_in (l : Launch) {D : va_G} {A : Nat → Prop} {ad : Nat → Nat} {cI cX : ClassId} (hD : ∀ σ, va_D A ((wM ad cI cX) σ)) (F : Nat) (v0 : Int32) (v1 : Int32) (v2 : Int32) (σ : xSt) (r : Int32) (σ' : xSt) (h : mX9_in F v0 v1 v2 σ = some (r, σ')) : xM l yX9_in cX9_in 3 (some .boolean) ({ frames := 0, cells := 0, slots := 0, locals := 0 }) D (tyM cI cX) A (wM ad cI cX) [.int v0, .int v1, .int v2] σ (xQi D A (wM ad cI cX) r σ') := by
  refine xM_of (lv := [(0, .int v0), (1, .int v1), (2, .int v2)]) [.int v0, .int v1, .int v2] (by decide) hD rfl (Nat.le_of_ble_eq_true rfl) ?_
  intro p e s m args below meth c X hr hl
  unfold mX9_in at h
  refine x_iload_n (pc := 0) X dX9_in_0 rfl 0 rfl ?_
  refine x_iload_n (pc := 1) X dX9_in_1 rfl 1 rfl ?_
  refine x_icmp_lt (pc := 2) X 14 dX9_in_2 (by decide) (fun hc => ?_) (fun hc => ?_)
  · have h := xit hc h
    refine x_sub [] rfl ?_
    exact wX9_in_L14 X hr hl F _ h
  · have h := xif hc h
    refine x_iload_n (pc := 5) X dX9_in_5 rfl 0 rfl ?_
    refine x_iload_n (pc := 6) X dX9_in_6 rfl 2 rfl ?_
    refine x_icmp_gt (pc := 7) X 14 dX9_in_7 (by decide) (fun hc => ?_) (fun hc => ?_)
    · have h := xit hc h
      refine x_sub [] rfl ?_
      exact wX9_in_L14 X hr hl F _ h
    · have h := xif hc h
      refine x_iconst (pc := 10) (v := 1) X dX9_in_10 (by decide) ?_
      refine x_goto (pc := 11) X 15 dX9_in_11 (by decide) ?_
      refine x_sub [] rfl ?_
      exact wX9_in_L15 X hr hl F _ _ h
set_option maxRecDepth 100000 in
set_option maxHeartbeats 4000000 in
theorem wX9_isIn_L14 {p : Program} {l : Launch} {e : Env} {s : State} {m : MethodId} {args : Array Value} {below : List Frame} {meth : Method} {c : Code} {D : va_G} {A : Nat → Prop} {ad : Nat → Nat} {cI cX : ClassId} {r : Int32} {σ' : xSt} (X : xX p s m args c cX9_isIn 2 RX9 D (tyM cI cX) A (wM ad cI cX)) (hr : meth.sig.returnType = (some .boolean)) (hl : meth.locks = false) (F : Nat) (t0 : Int32) (σ : xSt) (h : mX9_isIn_L14 F t0 σ = some (r, σ')) : xG p l e ({ frames := 0, cells := 0, slots := 0, locals := 0 }) s m args below meth c (MQ below (xQi D A (wM ad cI cX) r σ') args s 0 0 A) 2 D A (wM ad cI cX) σ 14 [] [.int t0] := by
  unfold mX9_isIn_L14 at h
  obtain ⟨hb14, h⟩ := xck_some h
  exact x_zret (pc := 14) X hr hl hb14 h dX9_isIn_14
set_option maxRecDepth 100000 in
set_option maxHeartbeats 4000000 in
theorem kX9_isIn (l : Launch) {D : va_G} {A : Nat → Prop} {ad : Nat → Nat} {cI cX : ClassId} (hD : ∀ σ, va_D A ((wM ad cI cX) σ)) (F : Nat) (v0 : Int32) (v1 : Int32) (σ : xSt) (r : Int32) (σ' : xSt) (h : mX9_isIn F v0 v1 σ = some (r, σ')) : xM l yX9_isIn cX9_isIn 2 (some .boolean) ({ frames := 0, cells := 0, slots := 0, locals := 0 }) D (tyM cI cX) A (wM ad cI cX) [.int v0, .int v1] σ (xQi D A (wM ad cI cX) r σ') := by
  refine xM_of (lv := [(0, .int v0), (1, .int v1)]) [.int v0, .int v1] (by decide) hD rfl (Nat.le_of_ble_eq_true rfl) ?_
  intro p e s m args below meth c X hr hl
  unfold mX9_isIn at h
  refine x_iload_n (pc := 0) X dX9_isIn_0 rfl 0 rfl ?_
  refine x_iload_n (pc := 1) X dX9_isIn_1 rfl 1 rfl ?_
  refine x_ishr (pc := 2) X dX9_isIn_2 ?_
  refine x_iconst (pc := 3) (v := 1) X dX9_isIn_3 (by decide) ?_
  refine x_iand (pc := 4) X dX9_isIn_4 ?_
  refine x_iconst (pc := 5) (v := 1) X dX9_isIn_5 (by decide) ?_
  refine x_icmp_ne (pc := 6) X 13 dX9_isIn_6 (by decide) (fun hc => ?_) (fun hc => ?_)
  · have h := xif hc h
    refine x_iconst (pc := 13) (v := 0) X dX9_isIn_13 (by decide) ?_
    refine x_sub [] rfl ?_
    exact wX9_isIn_L14 X hr hl F _ _ h
  · have h := xit hc h
    refine x_iconst (pc := 9) (v := 1) X dX9_isIn_9 (by decide) ?_
    refine x_goto (pc := 10) X 14 dX9_isIn_10 (by decide) ?_
    refine x_sub [] rfl ?_
    exact wX9_isIn_L14 X hr hl F _ _ h
set_option maxRecDepth 100000 in
set_option maxHeartbeats 4000000 in
theorem wX9_ones_L24 {p : Program} {l : Launch} {e : Env} {s : State} {m : MethodId} {args : Array Value} {below : List Frame} {meth : Method} {c : Code} {D : va_G} {A : Nat → Prop} {ad : Nat → Nat} {cI cX : ClassId} {r : Int32} {σ' : xSt} (X : xX p s m args c cX9_ones 3 RX9 D (tyM cI cX) A (wM ad cI cX)) (hr : meth.sig.returnType = (some .int)) (hl : meth.locks = false) (F : Nat) (v1 : Int32) (σ : xSt) (h : mX9_ones_L24 F v1 σ = some (r, σ')) : xG p l e ({ frames := 0, cells := 0, slots := 0, locals := 0 }) s m args below meth c (MQ below (xQi D A (wM ad cI cX) r σ') args s 0 0 A) 3 D A (wM ad cI cX) σ 24 [(1, .int v1)] [] := by
  unfold mX9_ones_L24 at h
  refine x_iload_n (pc := 24) X dX9_ones_24 rfl 0 rfl ?_
  exact x_iret (pc := 25) X hr hl h dX9_ones_25
set_option maxRecDepth 100000 in
set_option maxHeartbeats 4000000 in
theorem wX9_ones_S4 {p : Program} {l : Launch} {e : Env} {s : State} {m : MethodId} {args : Array Value} {below : List Frame} {meth : Method} {c : Code} {D : va_G} {A : Nat → Prop} {ad : Nat → Nat} {cI cX : ClassId} {r : Int32} {σ' : xSt} {c4 : Int32 → Int32 → Int32 → xSt → Option (Int32 × xSt)} (X : xX p s m args c cX9_ones 3 RX9 D (tyM cI cX) A (wM ad cI cX)) (hr : meth.sig.returnType = (some .int)) (hl : meth.locks = false) (F : Nat) (hc4 : ∀ (v0 : Int32) (v1 : Int32) (v2 : Int32) (σ : xSt), c4 v0 v1 v2 σ = some (r, σ') → xG p l e ({ frames := 0, cells := 0, slots := 0, locals := 0 }) s m args below meth c (MQ below (xQi D A (wM ad cI cX) r σ') args s 0 0 A) 3 D A (wM ad cI cX) σ 4 [(0, .int v0), (1, .int v1), (2, .int v2)] []) (v0 : Int32) (v1 : Int32) (v2 : Int32) (σ : xSt) (h : mX9_ones_S4 F c4 v0 v1 v2 σ = some (r, σ')) : xG p l e ({ frames := 0, cells := 0, slots := 0, locals := 0 }) s m args below meth c (MQ below (xQi D A (wM ad cI cX) r σ') args s 0 0 A) 3 D A (wM ad cI cX) σ 4 [(0, .int v0), (1, .int v1), (2, .int v2)] [] := by
  unfold mX9_ones_S4 at h
  refine x_iload_n (pc := 4) X dX9_ones_4 rfl 2 rfl ?_
  refine x_bipush (pc := 5) (v := 24) X dX9_ones_5 (by decide) ?_
  refine x_icmp_ge (pc := 7) X 24 dX9_ones_7 (by decide) (fun hc => ?_) (fun hc => ?_)
  · have h := xit hc h
    refine x_sub [1] rfl ?_
    exact wX9_ones_L24 X hr hl F _ _ h
  · have h := xif hc h
    refine x_iload_n (pc := 10) X dX9_ones_10 rfl 1 rfl ?_
    refine x_iload_n (pc := 11) X dX9_ones_11 rfl 0 rfl ?_
    refine x_iload_n (pc := 12) X dX9_ones_12 rfl 2 rfl ?_
    refine x_ishr (pc := 13) X dX9_ones_13 ?_
    refine x_iconst (pc := 14) (v := 1) X dX9_ones_14 (by decide) ?_
    refine x_iand (pc := 15) X dX9_ones_15 ?_
    refine x_iadd (pc := 16) X dX9_ones_16 ?_
    refine x_istore_n (pc := 17) (lv' := [(1, .int (v1 + ((v0 >>> (v2 &&& 31)) &&& 1))), (0, .int v0), (2, .int v2)]) X dX9_ones_17 rfl (by decide) rfl ?_
    refine x_iinc (pc := 18) (v := (v2 + 1)) (lv' := [(2, .int (v2 + 1)), (1, .int (v1 + ((v0 >>> (v2 &&& 31)) &&& 1))), (0, .int v0)]) X dX9_ones_18 2 rfl rfl (by decide) rfl ?_
    refine x_goto (pc := 21) X 4 dX9_ones_21 (by decide) ?_
    refine x_sub [2, 1, 0] rfl ?_
    exact hc4 _ _ _ _ h
theorem wX9_ones_L4 {p : Program} {l : Launch} {e : Env} {s : State} {m : MethodId} {args : Array Value} {below : List Frame} {meth : Method} {c : Code} {D : va_G} {A : Nat → Prop} {ad : Nat → Nat} {cI cX : ClassId} {r : Int32} {σ' : xSt} (X : xX p s m args c cX9_ones 3 RX9 D (tyM cI cX) A (wM ad cI cX)) (hr : meth.sig.returnType = (some .int)) (hl : meth.locks = false) (F : Nat) : ∀ (n : Nat) (v0 : Int32) (v1 : Int32) (v2 : Int32) (σ : xSt), mX9_ones_L4 F n v0 v1 v2 σ = some (r, σ') → xG p l e ({ frames := 0, cells := 0, slots := 0, locals := 0 }) s m args below meth c (MQ below (xQi D A (wM ad cI cX) r σ') args s 0 0 A) 3 D A (wM ad cI cX) σ 4 [(0, .int v0), (1, .int v1), (2, .int v2)] [] := by
  intro n
  induction n with
  | zero => intro v0 v1 v2 σ h; cases h
  | succ n ih => intro v0 v1 v2 σ h; exact wX9_ones_S4 X hr hl F ih v0 v1 v2 σ h
set_option maxRecDepth 100000 in
set_option maxHeartbeats 4000000 in
theorem kX9_ones (l : Launch) {D : va_G} {A : Nat → Prop} {ad : Nat → Nat} {cI cX : ClassId} (hD : ∀ σ, va_D A ((wM ad cI cX) σ)) (F : Nat) (v0 : Int32) (σ : xSt) (r : Int32) (σ' : xSt) (h : mX9_ones F v0 σ = some (r, σ')) : xM l yX9_ones cX9_ones 3 (some .int) ({ frames := 0, cells := 0, slots := 0, locals := 0 }) D (tyM cI cX) A (wM ad cI cX) [.int v0] σ (xQi D A (wM ad cI cX) r σ') := by
  refine xM_of (lv := [(0, .int v0)]) [.int v0] (by decide) hD rfl (Nat.le_of_ble_eq_true rfl) ?_
  intro p e s m args below meth c X hr hl
  unfold mX9_ones at h
  refine x_iconst (pc := 0) (v := 0) X dX9_ones_0 (by decide) ?_
  refine x_istore_n (pc := 1) (lv' := [(1, .int 0), (0, .int v0)]) X dX9_ones_1 rfl (by decide) rfl ?_
  refine x_iconst (pc := 2) (v := 0) X dX9_ones_2 (by decide) ?_
  refine x_istore_n (pc := 3) (lv' := [(2, .int 0), (1, .int 0), (0, .int v0)]) X dX9_ones_3 rfl (by decide) rfl ?_
  refine x_sub [2, 1, 0] rfl ?_
  exact wX9_ones_L4 X hr hl F F _ _ _ _ h
set_option maxRecDepth 100000 in
set_option maxHeartbeats 4000000 in
theorem kX9_no (l : Launch) {D : va_G} {A : Nat → Prop} {ad : Nat → Nat} {cI cX : ClassId} (hD : ∀ σ, va_D A ((wM ad cI cX) σ)) (F : Nat) (v0 : Int32) (σ : xSt) (r : Int64) (σ' : xSt) (h : mX9_no F v0 σ = some (r, σ')) : xM l yX9_no cX9_no 1 (some .long) ({ frames := 0, cells := 0, slots := 0, locals := 0 }) D (tyM cI cX) A (wM ad cI cX) [.int v0] σ (xQl D A (wM ad cI cX) r σ') := by
  refine xM_of (lv := [(0, .int v0)]) [.int v0] (by decide) hD rfl (Nat.le_of_ble_eq_true rfl) ?_
  intro p e s m args below meth c X hr hl
  unfold mX9_no at h
  refine x_ldc2 (pc := 0) X kcX9_95 dX9_no_0 ?_
  refine x_iload_n (pc := 3) X dX9_no_3 rfl 0 rfl ?_
  refine x_i2l (pc := 4) X dX9_no_4 ?_
  refine x_lsub (pc := 5) X dX9_no_5 ?_
  exact x_lret (pc := 6) X hr hl h dX9_no_6
set_option maxRecDepth 100000 in
set_option maxHeartbeats 4000000 in
theorem wX9_lowest_L47 {p : Program} {l : Launch} {e : Env} {s : State} {m : MethodId} {args : Array Value} {below : List Frame} {meth : Method} {c : Code} {D : va_G} {A : Nat → Prop} {ad : Nat → Nat} {cI cX : ClassId} {r : Int64} {σ' : xSt} (X : xX p s m args c cX9_lowest 11 RX9 D (tyM cI cX) A (wM ad cI cX)) (hr : meth.sig.returnType = (some .long)) (hl : meth.locks = false) (F : Nat) (t0 : Int64) (σ : xSt) (h : mX9_lowest_L47 F t0 σ = some (r, σ')) : xG p l e ({ frames := 0, cells := 0, slots := 0, locals := 0 }) s m args below meth c (MQ below (xQl D A (wM ad cI cX) r σ') args s 0 0 A) 11 D A (wM ad cI cX) σ 47 [] [.long t0] := by
  unfold mX9_lowest_L47 at h
  exact x_lret (pc := 47) X hr hl h dX9_lowest_47
set_option maxRecDepth 100000 in
set_option maxHeartbeats 4000000 in
theorem wX9_lowest_L31 {p : Program} {l : Launch} {e : Env} {s : State} {m : MethodId} {args : Array Value} {below : List Frame} {meth : Method} {c : Code} {D : va_G} {A : Nat → Prop} {ad : Nat → Nat} {cI cX : ClassId} {r : Int64} {σ' : xSt} (X : xX p s m args c cX9_lowest 11 RX9 D (tyM cI cX) A (wM ad cI cX)) (hr : meth.sig.returnType = (some .long)) (hl : meth.locks = false) (F : Nat) (v0 : Int64) (v2 : Int64) (v4 : Int32) (v5 : Int64) (σ : xSt) (h : mX9_lowest_L31 F v0 v2 v4 v5 σ = some (r, σ')) : xG p l e ({ frames := 0, cells := 0, slots := 0, locals := 0 }) s m args below meth c (MQ below (xQl D A (wM ad cI cX) r σ') args s 0 0 A) 11 D A (wM ad cI cX) σ 31 [(0, .long v0), (2, .long v2), (4, .int v4), (5, .long v5)] [] := by
  unfold mX9_lowest_L31 at h
  refine x_iload (pc := 31) X dX9_lowest_31 2 rfl ?_
  refine x_if_ne (pc := 33) X 43 dX9_lowest_33 (by decide) (fun hc => ?_) (fun hc => ?_)
  · have h := xif hc h
    refine x_lload_n (pc := 43) X dX9_lowest_43 rfl 1 rfl ?_
    refine x_lload (pc := 44) X dX9_lowest_44 3 rfl ?_
    obtain ⟨hb46, h⟩ := xck_some h
    refine x_ldiv (pc := 46) X dX9_lowest_46 (xnzL_n hb46) ?_
    refine x_sub [] rfl ?_
    exact wX9_lowest_L47 X hr hl F _ _ h
  · have h := xit hc h
    refine x_lload_n (pc := 36) X dX9_lowest_36 rfl 0 rfl ?_
    refine x_lload (pc := 37) X dX9_lowest_37 3 rfl ?_
    obtain ⟨hb39, h⟩ := xck_some h
    refine x_ldiv (pc := 39) X dX9_lowest_39 (xnzL_n hb39) ?_
    refine x_goto (pc := 40) X 47 dX9_lowest_40 (by decide) ?_
    refine x_sub [] rfl ?_
    exact wX9_lowest_L47 X hr hl F _ _ h
set_option maxRecDepth 100000 in
set_option maxHeartbeats 4000000 in
theorem wX9_lowest_S6 {p : Program} {l : Launch} {e : Env} {s : State} {m : MethodId} {args : Array Value} {below : List Frame} {meth : Method} {c : Code} {D : va_G} {A : Nat → Prop} {ad : Nat → Nat} {cI cX : ClassId} {r : Int64} {σ' : xSt} {c6 : Int64 → Int64 → Int32 → Int64 → Int64 → xSt → Option (Int64 × xSt)} (X : xX p s m args c cX9_lowest 11 RX9 D (tyM cI cX) A (wM ad cI cX)) (hr : meth.sig.returnType = (some .long)) (hl : meth.locks = false) (F : Nat) (hc6 : ∀ (v0 : Int64) (v2 : Int64) (v4 : Int32) (v5 : Int64) (v7 : Int64) (σ : xSt), c6 v0 v2 v4 v5 v7 σ = some (r, σ') → xG p l e ({ frames := 0, cells := 0, slots := 0, locals := 0 }) s m args below meth c (MQ below (xQl D A (wM ad cI cX) r σ') args s 0 0 A) 11 D A (wM ad cI cX) σ 6 [(0, .long v0), (2, .long v2), (4, .int v4), (5, .long v5), (7, .long v7)] []) (v0 : Int64) (v2 : Int64) (v4 : Int32) (v5 : Int64) (v7 : Int64) (σ : xSt) (h : mX9_lowest_S6 F c6 v0 v2 v4 v5 v7 σ = some (r, σ')) : xG p l e ({ frames := 0, cells := 0, slots := 0, locals := 0 }) s m args below meth c (MQ below (xQl D A (wM ad cI cX) r σ') args s 0 0 A) 11 D A (wM ad cI cX) σ 6 [(0, .long v0), (2, .long v2), (4, .int v4), (5, .long v5), (7, .long v7)] [] := by
  unfold mX9_lowest_S6 at h
  refine x_lload (pc := 6) X dX9_lowest_6 4 rfl ?_
  refine x_lconst (pc := 8) (v := 0) X dX9_lowest_8 rfl ?_
  refine x_lcmp (pc := 9) X dX9_lowest_9 ?_
  refine x_if_eq (pc := 10) X 31 dX9_lowest_10 (by decide) (fun hc => ?_) (fun hc => ?_)
  · have h := xit hc h
    refine x_sub [0, 1, 2, 3] rfl ?_
    exact wX9_lowest_L31 X hr hl F _ _ _ _ _ h
  · have h := xif hc h
    refine x_lload (pc := 13) X dX9_lowest_13 3 rfl ?_
    refine x_lload (pc := 15) X dX9_lowest_15 4 rfl ?_
    obtain ⟨hb17, h⟩ := xck_some h
    refine x_lrem (pc := 17) X dX9_lowest_17 (xnzL_n hb17) ?_
    refine x_lstore (pc := 18) (lv' := [(9, .long (v5 - v5 / v7 * v7)), (0, .long v0), (2, .long v2), (4, .int v4), (5, .long v5), (7, .long v7)]) X dX9_lowest_18 (by decide) rfl ?_
    refine x_lload (pc := 20) X dX9_lowest_20 5 rfl ?_
    refine x_lstore (pc := 22) (lv' := [(5, .long v7), (9, .long (v5 - v5 / v7 * v7)), (0, .long v0), (2, .long v2), (4, .int v4), (7, .long v7)]) X dX9_lowest_22 (by decide) rfl ?_
    refine x_lload (pc := 24) X dX9_lowest_24 1 rfl ?_
    refine x_lstore (pc := 26) (lv' := [(7, .long (v5 - v5 / v7 * v7)), (5, .long v7), (9, .long (v5 - v5 / v7 * v7)), (0, .long v0), (2, .long v2), (4, .int v4)]) X dX9_lowest_26 (by decide) rfl ?_
    refine x_goto (pc := 28) X 6 dX9_lowest_28 (by decide) ?_
    refine x_sub [3, 4, 5, 1, 0] rfl ?_
    exact hc6 _ _ _ _ _ _ h
theorem wX9_lowest_L6 {p : Program} {l : Launch} {e : Env} {s : State} {m : MethodId} {args : Array Value} {below : List Frame} {meth : Method} {c : Code} {D : va_G} {A : Nat → Prop} {ad : Nat → Nat} {cI cX : ClassId} {r : Int64} {σ' : xSt} (X : xX p s m args c cX9_lowest 11 RX9 D (tyM cI cX) A (wM ad cI cX)) (hr : meth.sig.returnType = (some .long)) (hl : meth.locks = false) (F : Nat) : ∀ (n : Nat) (v0 : Int64) (v2 : Int64) (v4 : Int32) (v5 : Int64) (v7 : Int64) (σ : xSt), mX9_lowest_L6 F n v0 v2 v4 v5 v7 σ = some (r, σ') → xG p l e ({ frames := 0, cells := 0, slots := 0, locals := 0 }) s m args below meth c (MQ below (xQl D A (wM ad cI cX) r σ') args s 0 0 A) 11 D A (wM ad cI cX) σ 6 [(0, .long v0), (2, .long v2), (4, .int v4), (5, .long v5), (7, .long v7)] [] := by
  intro n
  induction n with
  | zero => intro v0 v2 v4 v5 v7 σ h; cases h
  | succ n ih => intro v0 v2 v4 v5 v7 σ h; exact wX9_lowest_S6 X hr hl F ih v0 v2 v4 v5 v7 σ h
set_option maxRecDepth 100000 in
set_option maxHeartbeats 4000000 in
theorem kX9_lowest (l : Launch) {D : va_G} {A : Nat → Prop} {ad : Nat → Nat} {cI cX : ClassId} (hD : ∀ σ, va_D A ((wM ad cI cX) σ)) (F : Nat) (v0 : Int64) (v2 : Int64) (v4 : Int32) (σ : xSt) (r : Int64) (σ' : xSt) (h : mX9_lowest F v0 v2 v4 σ = some (r, σ')) : xM l yX9_lowest cX9_lowest 11 (some .long) ({ frames := 0, cells := 0, slots := 0, locals := 0 }) D (tyM cI cX) A (wM ad cI cX) [.long v0, .long v2, .int v4] σ (xQl D A (wM ad cI cX) r σ') := by
  refine xM_of (lv := [(0, .long v0), (2, .long v2), (4, .int v4)]) [.long v0, .long v2, .int v4] (by decide) hD rfl (Nat.le_of_ble_eq_true rfl) ?_
  intro p e s m args below meth c X hr hl
  unfold mX9_lowest at h
  refine x_lload_n (pc := 0) X dX9_lowest_0 rfl 0 rfl ?_
  refine x_lstore (pc := 1) (lv' := [(5, .long v0), (0, .long v0), (2, .long v2), (4, .int v4)]) X dX9_lowest_1 (by decide) rfl ?_
  refine x_lload_n (pc := 3) X dX9_lowest_3 rfl 2 rfl ?_
  refine x_lstore (pc := 4) (lv' := [(7, .long v2), (5, .long v0), (0, .long v0), (2, .long v2), (4, .int v4)]) X dX9_lowest_4 (by decide) rfl ?_
  refine x_sub [2, 3, 4, 1, 0] rfl ?_
  exact wX9_lowest_L6 X hr hl F F _ _ _ _ _ _ h
set_option maxRecDepth 100000 in
set_option maxHeartbeats 4000000 in
theorem kX9_isText (l : Launch) {D : va_G} {A : Nat → Prop} {ad : Nat → Nat} {cI cX : ClassId} (hD : ∀ σ, va_D A ((wM ad cI cX) σ)) (F : Nat) (v0 : Int32) (σ : xSt) (r : Int32) (σ' : xSt) (h : mX9_isText F v0 σ = some (r, σ')) : xM l yX9_isText cX9_isText 1 (some .boolean) ({ frames := 1, cells := 0, slots := 0, locals := 22 }) D (tyM cI cX) A (wM ad cI cX) [.int v0] σ (xQi D A (wM ad cI cX) r σ') := by
  refine xM_of (lv := [(0, .int v0)]) [.int v0] (by decide) hD rfl (Nat.le_of_ble_eq_true rfl) ?_
  intro p e s m args below meth c X hr hl
  unfold mX9_isText at h
  refine x_iload_n (pc := 0) X dX9_isText_0 rfl 0 rfl ?_
  refine x_iconst (pc := 1) (v := 0) X dX9_isText_1 (by decide) ?_
  refine x_iconst (pc := 2) (v := 1) X dX9_isText_2 (by decide) ?_
  obtain ⟨r3, σ3, hq3, h⟩ := xb2_some h
  refine x_calliS (pc := 3) (As := [.int v0, .int 0, .int 1]) (rest := []) X (kX9_in l X.2.2.2.2.2.2.2 F _ _ _ _ _ _ hq3) kvX9_97 ⟨rfl, rfl, Nat.le_of_ble_eq_true rfl, Nat.le_of_ble_eq_true rfl⟩ rfl rfl (Nat.le_of_ble_eq_true rfl) dX9_isText_3 ?_
  obtain ⟨hb6, h⟩ := xck_some h
  exact x_zret (pc := 6) X hr hl hb6 h dX9_isText_6
set_option maxRecDepth 100000 in
set_option maxHeartbeats 4000000 in
theorem kX9_isHour (l : Launch) {D : va_G} {A : Nat → Prop} {ad : Nat → Nat} {cI cX : ClassId} (hD : ∀ σ, va_D A ((wM ad cI cX) σ)) (F : Nat) (v0 : Int32) (σ : xSt) (r : Int32) (σ' : xSt) (h : mX9_isHour F v0 σ = some (r, σ')) : xM l yX9_isHour cX9_isHour 1 (some .boolean) ({ frames := 1, cells := 0, slots := 0, locals := 22 }) D (tyM cI cX) A (wM ad cI cX) [.int v0] σ (xQi D A (wM ad cI cX) r σ') := by
  refine xM_of (lv := [(0, .int v0)]) [.int v0] (by decide) hD rfl (Nat.le_of_ble_eq_true rfl) ?_
  intro p e s m args below meth c X hr hl
  unfold mX9_isHour at h
  refine x_iload_n (pc := 0) X dX9_isHour_0 rfl 0 rfl ?_
  refine x_iconst (pc := 1) (v := 0) X dX9_isHour_1 (by decide) ?_
  refine x_bipush (pc := 2) (v := 23) X dX9_isHour_2 (by decide) ?_
  obtain ⟨r4, σ4, hq4, h⟩ := xb2_some h
  refine x_calliS (pc := 4) (As := [.int v0, .int 0, .int 23]) (rest := []) X (kX9_in l X.2.2.2.2.2.2.2 F _ _ _ _ _ _ hq4) kvX9_97 ⟨rfl, rfl, Nat.le_of_ble_eq_true rfl, Nat.le_of_ble_eq_true rfl⟩ rfl rfl (Nat.le_of_ble_eq_true rfl) dX9_isHour_4 ?_
  obtain ⟨hb7, h⟩ := xck_some h
  exact x_zret (pc := 7) X hr hl hb7 h dX9_isHour_7
set_option maxRecDepth 100000 in
set_option maxHeartbeats 4000000 in
theorem kX9_isSix (l : Launch) {D : va_G} {A : Nat → Prop} {ad : Nat → Nat} {cI cX : ClassId} (hD : ∀ σ, va_D A ((wM ad cI cX) σ)) (F : Nat) (v0 : Int32) (σ : xSt) (r : Int32) (σ' : xSt) (h : mX9_isSix F v0 σ = some (r, σ')) : xM l yX9_isSix cX9_isSix 1 (some .boolean) ({ frames := 1, cells := 0, slots := 0, locals := 22 }) D (tyM cI cX) A (wM ad cI cX) [.int v0] σ (xQi D A (wM ad cI cX) r σ') := by
  refine xM_of (lv := [(0, .int v0)]) [.int v0] (by decide) hD rfl (Nat.le_of_ble_eq_true rfl) ?_
  intro p e s m args below meth c X hr hl
  unfold mX9_isSix at h
  refine x_iload_n (pc := 0) X dX9_isSix_0 rfl 0 rfl ?_
  refine x_iconst (pc := 1) (v := 0) X dX9_isSix_1 (by decide) ?_
  refine x_iconst (pc := 2) (v := 5) X dX9_isSix_2 (by decide) ?_
  obtain ⟨r3, σ3, hq3, h⟩ := xb2_some h
  refine x_calliS (pc := 3) (As := [.int v0, .int 0, .int 5]) (rest := []) X (kX9_in l X.2.2.2.2.2.2.2 F _ _ _ _ _ _ hq3) kvX9_97 ⟨rfl, rfl, Nat.le_of_ble_eq_true rfl, Nat.le_of_ble_eq_true rfl⟩ rfl rfl (Nat.le_of_ble_eq_true rfl) dX9_isSix_3 ?_
  obtain ⟨hb6, h⟩ := xck_some h
  exact x_zret (pc := 6) X hr hl hb6 h dX9_isSix_6
set_option maxRecDepth 100000 in
set_option maxHeartbeats 4000000 in
theorem kX9_isEight (l : Launch) {D : va_G} {A : Nat → Prop} {ad : Nat → Nat} {cI cX : ClassId} (hD : ∀ σ, va_D A ((wM ad cI cX) σ)) (F : Nat) (v0 : Int32) (σ : xSt) (r : Int32) (σ' : xSt) (h : mX9_isEight F v0 σ = some (r, σ')) : xM l yX9_isEight cX9_isEight 1 (some .boolean) ({ frames := 1, cells := 0, slots := 0, locals := 22 }) D (tyM cI cX) A (wM ad cI cX) [.int v0] σ (xQi D A (wM ad cI cX) r σ') := by
  refine xM_of (lv := [(0, .int v0)]) [.int v0] (by decide) hD rfl (Nat.le_of_ble_eq_true rfl) ?_
  intro p e s m args below meth c X hr hl
  unfold mX9_isEight at h
  refine x_iload_n (pc := 0) X dX9_isEight_0 rfl 0 rfl ?_
  refine x_iconst (pc := 1) (v := 0) X dX9_isEight_1 (by decide) ?_
  refine x_bipush (pc := 2) (v := 7) X dX9_isEight_2 (by decide) ?_
  obtain ⟨r4, σ4, hq4, h⟩ := xb2_some h
  refine x_calliS (pc := 4) (As := [.int v0, .int 0, .int 7]) (rest := []) X (kX9_in l X.2.2.2.2.2.2.2 F _ _ _ _ _ _ hq4) kvX9_97 ⟨rfl, rfl, Nat.le_of_ble_eq_true rfl, Nat.le_of_ble_eq_true rfl⟩ rfl rfl (Nat.le_of_ble_eq_true rfl) dX9_isEight_4 ?_
  obtain ⟨hb7, h⟩ := xck_some h
  exact x_zret (pc := 7) X hr hl hb7 h dX9_isEight_7
set_option maxRecDepth 100000 in
set_option maxHeartbeats 4000000 in
theorem wX9_type_L38 {p : Program} {l : Launch} {e : Env} {s : State} {m : MethodId} {args : Array Value} {below : List Frame} {meth : Method} {c : Code} {D : va_G} {A : Nat → Prop} {ad : Nat → Nat} {cI cX : ClassId} {r : Int32} {σ' : xSt} (X : xX p s m args c cX9_type 3 RX9 D (tyM cI cX) A (wM ad cI cX)) (hr : meth.sig.returnType = (some .int)) (hl : meth.locks = false) (F : Nat) (v1 : Int32) (v2 : Int32) (t0 : Int32) (t1 : Int32) (σ : xSt) (h : mX9_type_L38 F v1 v2 t0 t1 σ = some (r, σ')) : xG p l e ({ frames := 2, cells := 0, slots := 0, locals := 42 }) s m args below meth c (MQ below (xQi D A (wM ad cI cX) r σ') args s 0 0 A) 3 D A (wM ad cI cX) σ 38 [(0, .ref (ad 0)), (1, .int v1), (2, .int v2)] [.int t1, .int t0] := by
  unfold mX9_type_L38 at h
  refine x_icmp_ne (pc := 38) X 44 dX9_type_38 (by decide) (fun hc => ?_) (fun hc => ?_)
  · have h := xif hc h
    refine x_aload_n (pc := 44) X dX9_type_44 rfl 0 rfl ?_
    refine gX9_13 (pc := 45) X dX9_type_45 ?_
    refine x_bipush (pc := 48) (v := 31) X dX9_type_48 (by decide) ?_
    refine x_iload_n (pc := 50) X dX9_type_50 rfl 1 rfl ?_
    refine x_imul (pc := 51) X dX9_type_51 ?_
    refine x_aload_n (pc := 52) X dX9_type_52 rfl 0 rfl ?_
    refine gX9_7 (pc := 53) X dX9_type_53 ?_
    refine x_iload_n (pc := 56) X dX9_type_56 rfl 1 rfl ?_
    obtain ⟨hb57, h⟩ := xck_some h
    refine x_iald (pc := 57) X 1 0 (qaX9_typed) rfl hb57 dX9_type_57 ?_
    refine x_iadd (pc := 58) X dX9_type_58 ?_
    refine x_iload_n (pc := 59) X dX9_type_59 rfl 2 rfl ?_
    obtain ⟨hb60, h⟩ := xck_some h
    refine x_iast (pc := 60) (σ' := (xsA σ 1 (Int32.toNatClampNeg ((31 * v1) + (xA σ 0 (Int32.toNatClampNeg v1)))) v2)) X 2 0 (qaX9_texts) rfl (saX9_texts _) hb60 dX9_type_60 ?_
    refine x_aload_n (pc := 61) X dX9_type_61 rfl 0 rfl ?_
    refine gX9_7 (pc := 62) X dX9_type_62 ?_
    refine x_iload_n (pc := 65) X dX9_type_65 rfl 1 rfl ?_
    refine x_dup2 (pc := 66) X dX9_type_66 rfl rfl ?_
    obtain ⟨hb67, h⟩ := xck_some h
    refine x_iald (pc := 67) X 1 0 (qaX9_typed) rfl hb67 dX9_type_67 ?_
    refine x_iconst (pc := 68) (v := 1) X dX9_type_68 (by decide) ?_
    refine x_iadd (pc := 69) X dX9_type_69 ?_
    obtain ⟨hb70, h⟩ := xck_some h
    refine x_iast (pc := 70) (σ' := (xsA (xsA σ 1 (Int32.toNatClampNeg ((31 * v1) + (xA σ 0 (Int32.toNatClampNeg v1)))) v2) 0 (Int32.toNatClampNeg v1) ((xA (xsA σ 1 (Int32.toNatClampNeg ((31 * v1) + (xA σ 0 (Int32.toNatClampNeg v1)))) v2) 0 (Int32.toNatClampNeg v1)) + 1))) X 1 0 (qaX9_typed) rfl (saX9_typed _) hb70 dX9_type_70 ?_
    refine x_aload_n (pc := 71) X dX9_type_71 rfl 0 rfl ?_
    refine gX9_7 (pc := 72) X dX9_type_72 ?_
    refine x_iload_n (pc := 75) X dX9_type_75 rfl 1 rfl ?_
    obtain ⟨hb76, h⟩ := xck_some h
    refine x_iald (pc := 76) X 1 0 (qaX9_typed) rfl hb76 dX9_type_76 ?_
    exact x_iret (pc := 77) X hr hl h dX9_type_77
  · have h := xit hc h
    refine x_bipush (pc := 41) (v := (-4)) X dX9_type_41 (by decide) ?_
    exact x_iret (pc := 43) X hr hl h dX9_type_43
set_option maxRecDepth 100000 in
set_option maxHeartbeats 4000000 in
theorem wX9_type_L18 {p : Program} {l : Launch} {e : Env} {s : State} {m : MethodId} {args : Array Value} {below : List Frame} {meth : Method} {c : Code} {D : va_G} {A : Nat → Prop} {ad : Nat → Nat} {cI cX : ClassId} {r : Int32} {σ' : xSt} (X : xX p s m args c cX9_type 3 RX9 D (tyM cI cX) A (wM ad cI cX)) (hr : meth.sig.returnType = (some .int)) (hl : meth.locks = false) (F : Nat) (σ : xSt) (h : mX9_type_L18 F σ = some (r, σ')) : xG p l e ({ frames := 2, cells := 0, slots := 0, locals := 42 }) s m args below meth c (MQ below (xQi D A (wM ad cI cX) r σ') args s 0 0 A) 3 D A (wM ad cI cX) σ 18 [] [] := by
  unfold mX9_type_L18 at h
  refine x_bipush (pc := 18) (v := (-2)) X dX9_type_18 (by decide) ?_
  exact x_iret (pc := 20) X hr hl h dX9_type_20
set_option maxRecDepth 100000 in
set_option maxHeartbeats 4000000 in
theorem kX9_type (l : Launch) {D : va_G} {A : Nat → Prop} {ad : Nat → Nat} {cI cX : ClassId} (hD : ∀ σ, va_D A ((wM ad cI cX) σ)) (F : Nat) (v1 : Int32) (v2 : Int32) (σ : xSt) (r : Int32) (σ' : xSt) (h : mX9_type F v1 v2 σ = some (r, σ')) : xM l yX9_type cX9_type 3 (some .int) ({ frames := 2, cells := 0, slots := 0, locals := 42 }) D (tyM cI cX) A (wM ad cI cX) [.ref (ad 0), .int v1, .int v2] σ (xQi D A (wM ad cI cX) r σ') := by
  refine xM_of (lv := [(0, .ref (ad 0)), (1, .int v1), (2, .int v2)]) [.ref (ad 0), .int v1, .int v2] (by decide) hD rfl (Nat.le_of_ble_eq_true rfl) ?_
  intro p e s m args below meth c X hr hl
  unfold mX9_type at h
  refine x_iload_n (pc := 0) X dX9_type_0 rfl 1 rfl ?_
  obtain ⟨r1, σ1, hq1, h⟩ := xb2_some h
  refine x_calliS (pc := 1) (As := [.int v1]) (rest := []) X (kX9_isText l X.2.2.2.2.2.2.2 F _ _ _ _ hq1) kvX9_101 ⟨rfl, rfl, Nat.le_of_ble_eq_true rfl, Nat.le_of_ble_eq_true rfl⟩ rfl rfl (Nat.le_of_ble_eq_true rfl) dX9_type_1 ?_
  refine x_if_eq (pc := 4) X 18 dX9_type_4 (by decide) (fun hc => ?_) (fun hc => ?_)
  · have h := xit hc h
    refine x_sub [] rfl ?_
    exact wX9_type_L18 X hr hl F _ h
  · have h := xif hc h
    refine x_iload_n (pc := 7) X dX9_type_7 rfl 2 rfl ?_
    refine x_iconst (pc := 8) (v := 0) X dX9_type_8 (by decide) ?_
    refine x_sipush (pc := 9) (v := 255) X dX9_type_9 (by decide) ?_
    obtain ⟨r12, σ12, hq12, h⟩ := xb2_some h
    refine x_calliS (pc := 12) (As := [.int v2, .int 0, .int 255]) (rest := []) X (kX9_in l X.2.2.2.2.2.2.2 F _ _ _ _ _ _ hq12) kvX9_97 ⟨rfl, rfl, Nat.le_of_ble_eq_true rfl, Nat.le_of_ble_eq_true rfl⟩ rfl rfl (Nat.le_of_ble_eq_true rfl) dX9_type_12 ?_
    refine x_if_ne (pc := 15) X 21 dX9_type_15 (by decide) (fun hc => ?_) (fun hc => ?_)
    · have h := xif hc h
      refine x_aload_n (pc := 21) X dX9_type_21 rfl 0 rfl ?_
      refine gX9_7 (pc := 22) X dX9_type_22 ?_
      refine x_iload_n (pc := 25) X dX9_type_25 rfl 1 rfl ?_
      obtain ⟨hb26, h⟩ := xck_some h
      refine x_iald (pc := 26) X 1 0 (qaX9_typed) rfl hb26 dX9_type_26 ?_
      refine x_iload_n (pc := 27) X dX9_type_27 rfl 1 rfl ?_
      refine x_if_ne (pc := 28) X 36 dX9_type_28 (by decide) (fun hc => ?_) (fun hc => ?_)
      · have h := xif hc h
        refine x_bipush (pc := 36) (v := 31) X dX9_type_36 (by decide) ?_
        refine x_sub [0, 1, 2] rfl ?_
        exact wX9_type_L38 X hr hl F _ _ _ _ _ h
      · have h := xit hc h
        refine x_bipush (pc := 31) (v := 23) X dX9_type_31 (by decide) ?_
        refine x_goto (pc := 33) X 38 dX9_type_33 (by decide) ?_
        refine x_sub [0, 1, 2] rfl ?_
        exact wX9_type_L38 X hr hl F _ _ _ _ _ h
    · have h := xit hc h
      refine x_sub [] rfl ?_
      exact wX9_type_L18 X hr hl F _ h
set_option maxRecDepth 100000 in
set_option maxHeartbeats 4000000 in
theorem kX9_wipe (l : Launch) {D : va_G} {A : Nat → Prop} {ad : Nat → Nat} {cI cX : ClassId} (hD : ∀ σ, va_D A ((wM ad cI cX) σ)) (F : Nat) (v1 : Int32) (σ : xSt) (r : Int32) (σ' : xSt) (h : mX9_wipe F v1 σ = some (r, σ')) : xM l yX9_wipe cX9_wipe 3 (some .int) ({ frames := 2, cells := 0, slots := 0, locals := 42 }) D (tyM cI cX) A (wM ad cI cX) [.ref (ad 0), .int v1] σ (xQi D A (wM ad cI cX) r σ') := by
  refine xM_of (lv := [(0, .ref (ad 0)), (1, .int v1)]) [.ref (ad 0), .int v1] (by decide) hD rfl (Nat.le_of_ble_eq_true rfl) ?_
  intro p e s m args below meth c X hr hl
  unfold mX9_wipe at h
  refine x_iload_n (pc := 0) X dX9_wipe_0 rfl 1 rfl ?_
  obtain ⟨r1, σ1, hq1, h⟩ := xb2_some h
  refine x_calliS (pc := 1) (As := [.int v1]) (rest := []) X (kX9_isText l X.2.2.2.2.2.2.2 F _ _ _ _ hq1) kvX9_101 ⟨rfl, rfl, Nat.le_of_ble_eq_true rfl, Nat.le_of_ble_eq_true rfl⟩ rfl rfl (Nat.le_of_ble_eq_true rfl) dX9_wipe_1 ?_
  refine x_if_ne (pc := 4) X 10 dX9_wipe_4 (by decide) (fun hc => ?_) (fun hc => ?_)
  · have h := xif hc h
    refine x_aload_n (pc := 10) X dX9_wipe_10 rfl 0 rfl ?_
    refine gX9_7 (pc := 11) X dX9_wipe_11 ?_
    refine x_iload_n (pc := 14) X dX9_wipe_14 rfl 1 rfl ?_
    obtain ⟨hb15, h⟩ := xck_some h
    refine x_iald (pc := 15) X 1 0 (qaX9_typed) rfl hb15 dX9_wipe_15 ?_
    refine x_istore_n (pc := 16) (lv' := [(2, .int (xA σ1 0 (Int32.toNatClampNeg v1))), (0, .ref (ad 0)), (1, .int v1)]) X dX9_wipe_16 rfl (by decide) rfl ?_
    refine x_aload_n (pc := 17) X dX9_wipe_17 rfl 1 rfl ?_
    refine gX9_7 (pc := 18) X dX9_wipe_18 ?_
    refine x_iload_n (pc := 21) X dX9_wipe_21 rfl 2 rfl ?_
    refine x_iconst (pc := 22) (v := 0) X dX9_wipe_22 (by decide) ?_
    obtain ⟨hb23, h⟩ := xck_some h
    refine x_iast (pc := 23) (σ' := (xsA σ1 0 (Int32.toNatClampNeg v1) 0)) X 1 0 (qaX9_typed) rfl (saX9_typed _) hb23 dX9_wipe_23 ?_
    refine x_iload_n (pc := 24) X dX9_wipe_24 rfl 0 rfl ?_
    exact x_iret (pc := 25) X hr hl h dX9_wipe_25
  · have h := xit hc h
    refine x_bipush (pc := 7) (v := (-2)) X dX9_wipe_7 (by decide) ?_
    exact x_iret (pc := 9) X hr hl h dX9_wipe_9
set_option maxRecDepth 100000 in
set_option maxHeartbeats 4000000 in
theorem kX9_undo (l : Launch) {D : va_G} {A : Nat → Prop} {ad : Nat → Nat} {cI cX : ClassId} (hD : ∀ σ, va_D A ((wM ad cI cX) σ)) (F : Nat) (v1 : Int32) (σ : xSt) (r : Int32) (σ' : xSt) (h : mX9_undo F v1 σ = some (r, σ')) : xM l yX9_undo cX9_undo 2 (some .int) ({ frames := 2, cells := 0, slots := 0, locals := 42 }) D (tyM cI cX) A (wM ad cI cX) [.ref (ad 0), .int v1] σ (xQi D A (wM ad cI cX) r σ') := by
  refine xM_of (lv := [(0, .ref (ad 0)), (1, .int v1)]) [.ref (ad 0), .int v1] (by decide) hD rfl (Nat.le_of_ble_eq_true rfl) ?_
  intro p e s m args below meth c X hr hl
  unfold mX9_undo at h
  refine x_iload_n (pc := 0) X dX9_undo_0 rfl 1 rfl ?_
  obtain ⟨r1, σ1, hq1, h⟩ := xb2_some h
  refine x_calliS (pc := 1) (As := [.int v1]) (rest := []) X (kX9_isText l X.2.2.2.2.2.2.2 F _ _ _ _ hq1) kvX9_101 ⟨rfl, rfl, Nat.le_of_ble_eq_true rfl, Nat.le_of_ble_eq_true rfl⟩ rfl rfl (Nat.le_of_ble_eq_true rfl) dX9_undo_1 ?_
  refine x_if_ne (pc := 4) X 10 dX9_undo_4 (by decide) (fun hc => ?_) (fun hc => ?_)
  · have h := xif hc h
    refine x_aload_n (pc := 10) X dX9_undo_10 rfl 0 rfl ?_
    refine gX9_7 (pc := 11) X dX9_undo_11 ?_
    refine x_iload_n (pc := 14) X dX9_undo_14 rfl 1 rfl ?_
    obtain ⟨hb15, h⟩ := xck_some h
    refine x_iald (pc := 15) X 1 0 (qaX9_typed) rfl hb15 dX9_undo_15 ?_
    refine x_if_ne (pc := 16) X 22 dX9_undo_16 (by decide) (fun hc => ?_) (fun hc => ?_)
    · have h := xif hc h
      refine x_aload_n (pc := 22) X dX9_undo_22 rfl 0 rfl ?_
      refine gX9_7 (pc := 23) X dX9_undo_23 ?_
      refine x_iload_n (pc := 26) X dX9_undo_26 rfl 1 rfl ?_
      refine x_dup2 (pc := 27) X dX9_undo_27 rfl rfl ?_
      obtain ⟨hb28, h⟩ := xck_some h
      refine x_iald (pc := 28) X 1 0 (qaX9_typed) rfl hb28 dX9_undo_28 ?_
      refine x_iconst (pc := 29) (v := 1) X dX9_undo_29 (by decide) ?_
      refine x_isub (pc := 30) X dX9_undo_30 ?_
      obtain ⟨hb31, h⟩ := xck_some h
      refine x_iast (pc := 31) (σ' := (xsA σ1 0 (Int32.toNatClampNeg v1) ((xA σ1 0 (Int32.toNatClampNeg v1)) - 1))) X 1 0 (qaX9_typed) rfl (saX9_typed _) hb31 dX9_undo_31 ?_
      refine x_aload_n (pc := 32) X dX9_undo_32 rfl 0 rfl ?_
      refine gX9_7 (pc := 33) X dX9_undo_33 ?_
      refine x_iload_n (pc := 36) X dX9_undo_36 rfl 1 rfl ?_
      obtain ⟨hb37, h⟩ := xck_some h
      refine x_iald (pc := 37) X 1 0 (qaX9_typed) rfl hb37 dX9_undo_37 ?_
      exact x_iret (pc := 38) X hr hl h dX9_undo_38
    · have h := xit hc h
      refine x_bipush (pc := 19) (v := (-3)) X dX9_undo_19 (by decide) ?_
      exact x_iret (pc := 21) X hr hl h dX9_undo_21
  · have h := xit hc h
    refine x_bipush (pc := 7) (v := (-2)) X dX9_undo_7 (by decide) ?_
    exact x_iret (pc := 9) X hr hl h dX9_undo_9
set_option maxRecDepth 100000 in
set_option maxHeartbeats 4000000 in
theorem wX9_byteAt_L25 {p : Program} {l : Launch} {e : Env} {s : State} {m : MethodId} {args : Array Value} {below : List Frame} {meth : Method} {c : Code} {D : va_G} {A : Nat → Prop} {ad : Nat → Nat} {cI cX : ClassId} {r : Int32} {σ' : xSt} (X : xX p s m args c cX9_byteAt 3 RX9 D (tyM cI cX) A (wM ad cI cX)) (hr : meth.sig.returnType = (some .int)) (hl : meth.locks = false) (F : Nat) (t0 : Int32) (σ : xSt) (h : mX9_byteAt_L25 F t0 σ = some (r, σ')) : xG p l e ({ frames := 0, cells := 0, slots := 0, locals := 0 }) s m args below meth c (MQ below (xQi D A (wM ad cI cX) r σ') args s 0 0 A) 3 D A (wM ad cI cX) σ 25 [] [.int t0] := by
  unfold mX9_byteAt_L25 at h
  exact x_iret (pc := 25) X hr hl h dX9_byteAt_25
set_option maxRecDepth 100000 in
set_option maxHeartbeats 4000000 in
theorem kX9_byteAt (l : Launch) {D : va_G} {A : Nat → Prop} {ad : Nat → Nat} {cI cX : ClassId} (hD : ∀ σ, va_D A ((wM ad cI cX) σ)) (F : Nat) (v1 : Int32) (v2 : Int32) (σ : xSt) (r : Int32) (σ' : xSt) (h : mX9_byteAt F v1 v2 σ = some (r, σ')) : xM l yX9_byteAt cX9_byteAt 3 (some .int) ({ frames := 0, cells := 0, slots := 0, locals := 0 }) D (tyM cI cX) A (wM ad cI cX) [.ref (ad 0), .int v1, .int v2] σ (xQi D A (wM ad cI cX) r σ') := by
  refine xM_of (lv := [(0, .ref (ad 0)), (1, .int v1), (2, .int v2)]) [.ref (ad 0), .int v1, .int v2] (by decide) hD rfl (Nat.le_of_ble_eq_true rfl) ?_
  intro p e s m args below meth c X hr hl
  unfold mX9_byteAt at h
  refine x_iload_n (pc := 0) X dX9_byteAt_0 rfl 2 rfl ?_
  refine x_aload_n (pc := 1) X dX9_byteAt_1 rfl 0 rfl ?_
  refine gX9_7 (pc := 2) X dX9_byteAt_2 ?_
  refine x_iload_n (pc := 5) X dX9_byteAt_5 rfl 1 rfl ?_
  obtain ⟨hb6, h⟩ := xck_some h
  refine x_iald (pc := 6) X 1 0 (qaX9_typed) rfl hb6 dX9_byteAt_6 ?_
  refine x_icmp_ge (pc := 7) X 24 dX9_byteAt_7 (by decide) (fun hc => ?_) (fun hc => ?_)
  · have h := xit hc h
    refine x_iconst (pc := 24) (v := (-1)) X dX9_byteAt_24 (by decide) ?_
    refine x_sub [] rfl ?_
    exact wX9_byteAt_L25 X hr hl F _ _ h
  · have h := xif hc h
    refine x_aload_n (pc := 10) X dX9_byteAt_10 rfl 0 rfl ?_
    refine gX9_13 (pc := 11) X dX9_byteAt_11 ?_
    refine x_bipush (pc := 14) (v := 31) X dX9_byteAt_14 (by decide) ?_
    refine x_iload_n (pc := 16) X dX9_byteAt_16 rfl 1 rfl ?_
    refine x_imul (pc := 17) X dX9_byteAt_17 ?_
    refine x_iload_n (pc := 18) X dX9_byteAt_18 rfl 2 rfl ?_
    refine x_iadd (pc := 19) X dX9_byteAt_19 ?_
    obtain ⟨hb20, h⟩ := xck_some h
    refine x_iald (pc := 20) X 2 0 (qaX9_texts) rfl hb20 dX9_byteAt_20 ?_
    refine x_goto (pc := 21) X 25 dX9_byteAt_21 (by decide) ?_
    refine x_sub [] rfl ?_
    exact wX9_byteAt_L25 X hr hl F _ _ h
set_option maxRecDepth 100000 in
set_option maxHeartbeats 4000000 in
theorem wX9_readsOne_L205 {p : Program} {l : Launch} {e : Env} {s : State} {m : MethodId} {args : Array Value} {below : List Frame} {meth : Method} {c : Code} {D : va_G} {A : Nat → Prop} {ad : Nat → Nat} {cI cX : ClassId} {r : Int32} {σ' : xSt} (X : xX p s m args c cX9_readsOne 7 RX9 D (tyM cI cX) A (wM ad cI cX)) (hr : meth.sig.returnType = (some .int)) (hl : meth.locks = false) (F : Nat) (σ : xSt) (h : mX9_readsOne_L205 F σ = some (r, σ')) : xG p l e ({ frames := 1, cells := 0, slots := 0, locals := 22 }) s m args below meth c (MQ below (xQi D A (wM ad cI cX) r σ') args s 0 0 A) 7 D A (wM ad cI cX) σ 205 [] [] := by
  unfold mX9_readsOne_L205 at h
  refine x_iconst (pc := 205) (v := 3) X dX9_readsOne_205 (by decide) ?_
  exact x_iret (pc := 206) X hr hl h dX9_readsOne_206
set_option maxRecDepth 100000 in
set_option maxHeartbeats 4000000 in
theorem wX9_readsOne_L204 {p : Program} {l : Launch} {e : Env} {s : State} {m : MethodId} {args : Array Value} {below : List Frame} {meth : Method} {c : Code} {D : va_G} {A : Nat → Prop} {ad : Nat → Nat} {cI cX : ClassId} {r : Int32} {σ' : xSt} (X : xX p s m args c cX9_readsOne 7 RX9 D (tyM cI cX) A (wM ad cI cX)) (hr : meth.sig.returnType = (some .int)) (hl : meth.locks = false) (F : Nat) (t1 : Int32) (t2 : Int32) (σ : xSt) (h : mX9_readsOne_L204 F t1 t2 σ = some (r, σ')) : xG p l e ({ frames := 1, cells := 0, slots := 0, locals := 22 }) s m args below meth c (MQ below (xQi D A (wM ad cI cX) r σ') args s 0 0 A) 7 D A (wM ad cI cX) σ 204 [] [.int t2, .int t1, .ref (ad 8)] := by
  unfold mX9_readsOne_L204 at h
  obtain ⟨hb204, h⟩ := xck_some h
  refine x_iast (pc := 204) (σ' := (xsA σ 9 (Int32.toNatClampNeg t1) t2)) X 8 0 (qaX9_soaps) rfl (saX9_soaps _) hb204 dX9_readsOne_204 ?_
  refine x_sub [] rfl ?_
  exact wX9_readsOne_L205 X hr hl F _ h
set_option maxRecDepth 100000 in
set_option maxHeartbeats 4000000 in
theorem wX9_readsOne_L163 {p : Program} {l : Launch} {e : Env} {s : State} {m : MethodId} {args : Array Value} {below : List Frame} {meth : Method} {c : Code} {D : va_G} {A : Nat → Prop} {ad : Nat → Nat} {cI cX : ClassId} {r : Int32} {σ' : xSt} (X : xX p s m args c cX9_readsOne 7 RX9 D (tyM cI cX) A (wM ad cI cX)) (hr : meth.sig.returnType = (some .int)) (hl : meth.locks = false) (F : Nat) (t1 : Int32) (t2 : Int32) (σ : xSt) (h : mX9_readsOne_L163 F t1 t2 σ = some (r, σ')) : xG p l e ({ frames := 1, cells := 0, slots := 0, locals := 22 }) s m args below meth c (MQ below (xQi D A (wM ad cI cX) r σ') args s 0 0 A) 7 D A (wM ad cI cX) σ 163 [] [.int t2, .int t1, .ref (ad 5)] := by
  unfold mX9_readsOne_L163 at h
  obtain ⟨hb163, h⟩ := xck_some h
  refine x_iast (pc := 163) (σ' := (xsA σ 5 (Int32.toNatClampNeg t1) t2)) X 5 0 (qaX9_unders) rfl (saX9_unders _) hb163 dX9_readsOne_163 ?_
  refine x_goto (pc := 164) X 205 dX9_readsOne_164 (by decide) ?_
  refine x_sub [] rfl ?_
  exact wX9_readsOne_L205 X hr hl F _ h
set_option maxRecDepth 100000 in
set_option maxHeartbeats 4000000 in
theorem wX9_readsOne_L126 {p : Program} {l : Launch} {e : Env} {s : State} {m : MethodId} {args : Array Value} {below : List Frame} {meth : Method} {c : Code} {D : va_G} {A : Nat → Prop} {ad : Nat → Nat} {cI cX : ClassId} {r : Int32} {σ' : xSt} (X : xX p s m args c cX9_readsOne 7 RX9 D (tyM cI cX) A (wM ad cI cX)) (hr : meth.sig.returnType = (some .int)) (hl : meth.locks = false) (F : Nat) (v1 : Int32) (v2 : Int32) (v4 : Int32) (v5 : Int32) (v6 : Int32) (σ : xSt) (h : mX9_readsOne_L126 F v1 v2 v4 v5 v6 σ = some (r, σ')) : xG p l e ({ frames := 1, cells := 0, slots := 0, locals := 22 }) s m args below meth c (MQ below (xQi D A (wM ad cI cX) r σ') args s 0 0 A) 7 D A (wM ad cI cX) σ 126 [(0, .ref (ad 0)), (1, .int v1), (2, .int v2), (4, .int v4), (5, .int v5), (6, .int v6)] [] := by
  unfold mX9_readsOne_L126 at h
  refine x_iload_n (pc := 126) X dX9_readsOne_126 rfl 1 rfl ?_
  refine x_if_ne (pc := 127) X 167 dX9_readsOne_127 (by decide) (fun hc => ?_) (fun hc => ?_)
  · have h := xif hc h
    refine x_aload_n (pc := 167) X dX9_readsOne_167 rfl 0 rfl ?_
    refine gX9_25 (pc := 168) X dX9_readsOne_168 ?_
    refine x_iload_n (pc := 171) X dX9_readsOne_171 rfl 2 rfl ?_
    refine x_iload (pc := 172) X dX9_readsOne_172 3 rfl ?_
    obtain ⟨hb174, h⟩ := xck_some h
    refine x_iast (pc := 174) (σ' := (xsA σ 7 (Int32.toNatClampNeg v2) v4)) X 6 0 (qaX9_strongs) rfl (saX9_strongs _) hb174 dX9_readsOne_174 ?_
    refine x_aload_n (pc := 175) X dX9_readsOne_175 rfl 0 rfl ?_
    refine gX9_28 (pc := 176) X dX9_readsOne_176 ?_
    refine x_iload_n (pc := 179) X dX9_readsOne_179 rfl 2 rfl ?_
    refine x_iload (pc := 180) X dX9_readsOne_180 4 rfl ?_
    obtain ⟨hb182, h⟩ := xck_some h
    refine x_iast (pc := 182) (σ' := (xsA (xsA σ 7 (Int32.toNatClampNeg v2) v4) 8 (Int32.toNatClampNeg v2) v5)) X 7 0 (qaX9_fasts) rfl (saX9_fasts _) hb182 dX9_readsOne_182 ?_
    refine x_aload_n (pc := 183) X dX9_readsOne_183 rfl 0 rfl ?_
    refine gX9_31 (pc := 184) X dX9_readsOne_184 ?_
    refine x_iload_n (pc := 187) X dX9_readsOne_187 rfl 2 rfl ?_
    refine x_iload (pc := 188) X dX9_readsOne_188 5 rfl ?_
    refine x_bipush (pc := 190) (v := 46) X dX9_readsOne_190 (by decide) ?_
    refine x_icmp_ne (pc := 192) X 199 dX9_readsOne_192 (by decide) (fun hc => ?_) (fun hc => ?_)
    · have h := xif hc h
      refine x_iload (pc := 199) X dX9_readsOne_199 5 rfl ?_
      refine x_bipush (pc := 201) (v := 97) X dX9_readsOne_201 (by decide) ?_
      refine x_isub (pc := 203) X dX9_readsOne_203 ?_
      refine x_sub [] rfl ?_
      exact wX9_readsOne_L204 X hr hl F _ _ _ h
    · have h := xit hc h
      refine x_iconst (pc := 195) (v := (-1)) X dX9_readsOne_195 (by decide) ?_
      refine x_goto (pc := 196) X 204 dX9_readsOne_196 (by decide) ?_
      refine x_sub [] rfl ?_
      exact wX9_readsOne_L204 X hr hl F _ _ _ h
  · have h := xit hc h
    refine x_aload_n (pc := 130) X dX9_readsOne_130 rfl 0 rfl ?_
    refine gX9_16 (pc := 131) X dX9_readsOne_131 ?_
    refine x_iload_n (pc := 134) X dX9_readsOne_134 rfl 2 rfl ?_
    refine x_iload (pc := 135) X dX9_readsOne_135 3 rfl ?_
    obtain ⟨hb137, h⟩ := xck_some h
    refine x_iast (pc := 137) (σ' := (xsA σ 3 (Int32.toNatClampNeg v2) v4)) X 3 0 (qaX9_keeps) rfl (saX9_keeps _) hb137 dX9_readsOne_137 ?_
    refine x_aload_n (pc := 138) X dX9_readsOne_138 rfl 0 rfl ?_
    refine gX9_19 (pc := 139) X dX9_readsOne_139 ?_
    refine x_iload_n (pc := 142) X dX9_readsOne_142 rfl 2 rfl ?_
    refine x_iload (pc := 143) X dX9_readsOne_143 4 rfl ?_
    obtain ⟨hb145, h⟩ := xck_some h
    refine x_iast (pc := 145) (σ' := (xsA (xsA σ 3 (Int32.toNatClampNeg v2) v4) 4 (Int32.toNatClampNeg v2) v5)) X 4 0 (qaX9_noses) rfl (saX9_noses _) hb145 dX9_readsOne_145 ?_
    refine x_aload_n (pc := 146) X dX9_readsOne_146 rfl 0 rfl ?_
    refine gX9_22 (pc := 147) X dX9_readsOne_147 ?_
    refine x_iload_n (pc := 150) X dX9_readsOne_150 rfl 2 rfl ?_
    refine x_iload (pc := 151) X dX9_readsOne_151 5 rfl ?_
    refine x_bipush (pc := 153) (v := 117) X dX9_readsOne_153 (by decide) ?_
    refine x_icmp_ne (pc := 155) X 162 dX9_readsOne_155 (by decide) (fun hc => ?_) (fun hc => ?_)
    · have h := xif hc h
      refine x_iconst (pc := 162) (v := 0) X dX9_readsOne_162 (by decide) ?_
      refine x_sub [] rfl ?_
      exact wX9_readsOne_L163 X hr hl F _ _ _ h
    · have h := xit hc h
      refine x_iconst (pc := 158) (v := 1) X dX9_readsOne_158 (by decide) ?_
      refine x_goto (pc := 159) X 163 dX9_readsOne_159 (by decide) ?_
      refine x_sub [] rfl ?_
      exact wX9_readsOne_L163 X hr hl F _ _ _ h
set_option maxRecDepth 100000 in
set_option maxHeartbeats 4000000 in
theorem wX9_readsOne_L124 {p : Program} {l : Launch} {e : Env} {s : State} {m : MethodId} {args : Array Value} {below : List Frame} {meth : Method} {c : Code} {D : va_G} {A : Nat → Prop} {ad : Nat → Nat} {cI cX : ClassId} {r : Int32} {σ' : xSt} (X : xX p s m args c cX9_readsOne 7 RX9 D (tyM cI cX) A (wM ad cI cX)) (hr : meth.sig.returnType = (some .int)) (hl : meth.locks = false) (F : Nat) (σ : xSt) (h : mX9_readsOne_L124 F σ = some (r, σ')) : xG p l e ({ frames := 1, cells := 0, slots := 0, locals := 22 }) s m args below meth c (MQ below (xQi D A (wM ad cI cX) r σ') args s 0 0 A) 7 D A (wM ad cI cX) σ 124 [] [] := by
  unfold mX9_readsOne_L124 at h
  refine x_iconst (pc := 124) (v := 2) X dX9_readsOne_124 (by decide) ?_
  exact x_iret (pc := 125) X hr hl h dX9_readsOne_125
set_option maxRecDepth 100000 in
set_option maxHeartbeats 4000000 in
theorem wX9_readsOne_L76 {p : Program} {l : Launch} {e : Env} {s : State} {m : MethodId} {args : Array Value} {below : List Frame} {meth : Method} {c : Code} {D : va_G} {A : Nat → Prop} {ad : Nat → Nat} {cI cX : ClassId} {r : Int32} {σ' : xSt} (X : xX p s m args c cX9_readsOne 7 RX9 D (tyM cI cX) A (wM ad cI cX)) (hr : meth.sig.returnType = (some .int)) (hl : meth.locks = false) (F : Nat) (v1 : Int32) (v2 : Int32) (v4 : Int32) (v5 : Int32) (v6 : Int32) (t0 : Int32) (t1 : Int32) (t2 : Int32) (σ : xSt) (h : mX9_readsOne_L76 F v1 v2 v4 v5 v6 t0 t1 t2 σ = some (r, σ')) : xG p l e ({ frames := 1, cells := 0, slots := 0, locals := 22 }) s m args below meth c (MQ below (xQi D A (wM ad cI cX) r σ') args s 0 0 A) 7 D A (wM ad cI cX) σ 76 [(0, .ref (ad 0)), (1, .int v1), (2, .int v2), (4, .int v4), (5, .int v5), (6, .int v6)] [.int t2, .int t1, .int t0] := by
  unfold mX9_readsOne_L76 at h
  obtain ⟨r76, σ76, hq76, h⟩ := xb2_some h
  refine x_calliS (pc := 76) (As := [.int t0, .int t1, .int t2]) (rest := []) X (kX9_in l X.2.2.2.2.2.2.2 F _ _ _ _ _ _ hq76) kvX9_97 ⟨rfl, rfl, Nat.le_of_ble_eq_true rfl, Nat.le_of_ble_eq_true rfl⟩ rfl rfl (Nat.le_of_ble_eq_true rfl) dX9_readsOne_76 ?_
  refine x_if_ne (pc := 79) X 84 dX9_readsOne_79 (by decide) (fun hc => ?_) (fun hc => ?_)
  · have h := xif hc h
    refine x_iload_n (pc := 84) X dX9_readsOne_84 rfl 1 rfl ?_
    refine x_if_ne (pc := 85) X 105 dX9_readsOne_85 (by decide) (fun hc => ?_) (fun hc => ?_)
    · have h := xif hc h
      refine x_iload (pc := 105) X dX9_readsOne_105 5 rfl ?_
      refine x_bipush (pc := 107) (v := 46) X dX9_readsOne_107 (by decide) ?_
      refine x_icmp_eq (pc := 109) X 126 dX9_readsOne_109 (by decide) (fun hc => ?_) (fun hc => ?_)
      · have h := xit hc h
        refine x_sub [0, 1, 2, 3, 4, 5] rfl ?_
        exact wX9_readsOne_L126 X hr hl F _ _ _ _ _ _ h
      · have h := xif hc h
        refine x_iload (pc := 112) X dX9_readsOne_112 5 rfl ?_
        refine x_bipush (pc := 114) (v := 97) X dX9_readsOne_114 (by decide) ?_
        refine x_bipush (pc := 116) (v := 104) X dX9_readsOne_116 (by decide) ?_
        obtain ⟨r118, σ118, hq118, h⟩ := xb2_some h
        refine x_calliS (pc := 118) (As := [.int v6, .int 97, .int 104]) (rest := []) X (kX9_in l X.2.2.2.2.2.2.2 F _ _ _ _ _ _ hq118) kvX9_97 ⟨rfl, rfl, Nat.le_of_ble_eq_true rfl, Nat.le_of_ble_eq_true rfl⟩ rfl rfl (Nat.le_of_ble_eq_true rfl) dX9_readsOne_118 ?_
        refine x_if_ne (pc := 121) X 126 dX9_readsOne_121 (by decide) (fun hc => ?_) (fun hc => ?_)
        · have h := xif hc h
          refine x_sub [0, 1, 2, 3, 4, 5] rfl ?_
          exact wX9_readsOne_L126 X hr hl F _ _ _ _ _ _ h
        · have h := xit hc h
          refine x_sub [] rfl ?_
          exact wX9_readsOne_L124 X hr hl F _ h
    · have h := xit hc h
      refine x_iload (pc := 88) X dX9_readsOne_88 5 rfl ?_
      refine x_bipush (pc := 90) (v := 111) X dX9_readsOne_90 (by decide) ?_
      refine x_icmp_eq (pc := 92) X 126 dX9_readsOne_92 (by decide) (fun hc => ?_) (fun hc => ?_)
      · have h := xit hc h
        refine x_sub [0, 1, 2, 3, 4, 5] rfl ?_
        exact wX9_readsOne_L126 X hr hl F _ _ _ _ _ _ h
      · have h := xif hc h
        refine x_iload (pc := 95) X dX9_readsOne_95 5 rfl ?_
        refine x_bipush (pc := 97) (v := 117) X dX9_readsOne_97 (by decide) ?_
        refine x_icmp_eq (pc := 99) X 126 dX9_readsOne_99 (by decide) (fun hc => ?_) (fun hc => ?_)
        · have h := xit hc h
          refine x_sub [0, 1, 2, 3, 4, 5] rfl ?_
          exact wX9_readsOne_L126 X hr hl F _ _ _ _ _ _ h
        · have h := xif hc h
          refine x_goto (pc := 102) X 124 dX9_readsOne_102 (by decide) ?_
          refine x_sub [] rfl ?_
          exact wX9_readsOne_L124 X hr hl F _ h
  · have h := xit hc h
    refine x_iconst (pc := 82) (v := 1) X dX9_readsOne_82 (by decide) ?_
    exact x_iret (pc := 83) X hr hl h dX9_readsOne_83
set_option maxRecDepth 100000 in
set_option maxHeartbeats 4000000 in
theorem wX9_readsOne_L66 {p : Program} {l : Launch} {e : Env} {s : State} {m : MethodId} {args : Array Value} {below : List Frame} {meth : Method} {c : Code} {D : va_G} {A : Nat → Prop} {ad : Nat → Nat} {cI cX : ClassId} {r : Int32} {σ' : xSt} (X : xX p s m args c cX9_readsOne 7 RX9 D (tyM cI cX) A (wM ad cI cX)) (hr : meth.sig.returnType = (some .int)) (hl : meth.locks = false) (F : Nat) (v1 : Int32) (v2 : Int32) (v4 : Int32) (v5 : Int32) (v6 : Int32) (t0 : Int32) (t1 : Int32) (σ : xSt) (h : mX9_readsOne_L66 F v1 v2 v4 v5 v6 t0 t1 σ = some (r, σ')) : xG p l e ({ frames := 1, cells := 0, slots := 0, locals := 22 }) s m args below meth c (MQ below (xQi D A (wM ad cI cX) r σ') args s 0 0 A) 7 D A (wM ad cI cX) σ 66 [(0, .ref (ad 0)), (1, .int v1), (2, .int v2), (4, .int v4), (5, .int v5), (6, .int v6)] [.int t1, .int t0] := by
  unfold mX9_readsOne_L66 at h
  refine x_iload_n (pc := 66) X dX9_readsOne_66 rfl 1 rfl ?_
  refine x_if_ne (pc := 67) X 74 dX9_readsOne_67 (by decide) (fun hc => ?_) (fun hc => ?_)
  · have h := xif hc h
    refine x_bipush (pc := 74) (v := 9) X dX9_readsOne_74 (by decide) ?_
    refine x_sub [0, 1, 2, 3, 4, 5] rfl ?_
    exact wX9_readsOne_L76 X hr hl F _ _ _ _ _ _ _ _ _ h
  · have h := xit hc h
    refine x_iconst (pc := 70) (v := 5) X dX9_readsOne_70 (by decide) ?_
    refine x_goto (pc := 71) X 76 dX9_readsOne_71 (by decide) ?_
    refine x_sub [0, 1, 2, 3, 4, 5] rfl ?_
    exact wX9_readsOne_L76 X hr hl F _ _ _ _ _ _ _ _ _ h
set_option maxRecDepth 100000 in
set_option maxHeartbeats 4000000 in
theorem wX9_readsOne_L47 {p : Program} {l : Launch} {e : Env} {s : State} {m : MethodId} {args : Array Value} {below : List Frame} {meth : Method} {c : Code} {D : va_G} {A : Nat → Prop} {ad : Nat → Nat} {cI cX : ClassId} {r : Int32} {σ' : xSt} (X : xX p s m args c cX9_readsOne 7 RX9 D (tyM cI cX) A (wM ad cI cX)) (hr : meth.sig.returnType = (some .int)) (hl : meth.locks = false) (F : Nat) (v1 : Int32) (v2 : Int32) (v4 : Int32) (v5 : Int32) (v6 : Int32) (t0 : Int32) (t1 : Int32) (t2 : Int32) (σ : xSt) (h : mX9_readsOne_L47 F v1 v2 v4 v5 v6 t0 t1 t2 σ = some (r, σ')) : xG p l e ({ frames := 1, cells := 0, slots := 0, locals := 22 }) s m args below meth c (MQ below (xQi D A (wM ad cI cX) r σ') args s 0 0 A) 7 D A (wM ad cI cX) σ 47 [(0, .ref (ad 0)), (1, .int v1), (2, .int v2), (4, .int v4), (5, .int v5), (6, .int v6)] [.int t2, .int t1, .int t0] := by
  unfold mX9_readsOne_L47 at h
  obtain ⟨r47, σ47, hq47, h⟩ := xb2_some h
  refine x_calliS (pc := 47) (As := [.int t0, .int t1, .int t2]) (rest := []) X (kX9_in l X.2.2.2.2.2.2.2 F _ _ _ _ _ _ hq47) kvX9_97 ⟨rfl, rfl, Nat.le_of_ble_eq_true rfl, Nat.le_of_ble_eq_true rfl⟩ rfl rfl (Nat.le_of_ble_eq_true rfl) dX9_readsOne_47 ?_
  refine x_if_ne (pc := 50) X 55 dX9_readsOne_50 (by decide) (fun hc => ?_) (fun hc => ?_)
  · have h := xif hc h
    refine x_iload (pc := 55) X dX9_readsOne_55 4 rfl ?_
    refine x_iload_n (pc := 57) X dX9_readsOne_57 rfl 1 rfl ?_
    refine x_if_ne (pc := 58) X 65 dX9_readsOne_58 (by decide) (fun hc => ?_) (fun hc => ?_)
    · have h := xif hc h
      refine x_iconst (pc := 65) (v := 0) X dX9_readsOne_65 (by decide) ?_
      refine x_sub [0, 1, 2, 3, 4, 5] rfl ?_
      exact wX9_readsOne_L66 X hr hl F _ _ _ _ _ _ _ _ h
    · have h := xit hc h
      refine x_iconst (pc := 61) (v := 1) X dX9_readsOne_61 (by decide) ?_
      refine x_goto (pc := 62) X 66 dX9_readsOne_62 (by decide) ?_
      refine x_sub [0, 1, 2, 3, 4, 5] rfl ?_
      exact wX9_readsOne_L66 X hr hl F _ _ _ _ _ _ _ _ h
  · have h := xit hc h
    refine x_iconst (pc := 53) (v := 0) X dX9_readsOne_53 (by decide) ?_
    exact x_iret (pc := 54) X hr hl h dX9_readsOne_54
set_option maxRecDepth 100000 in
set_option maxHeartbeats 4000000 in
theorem kX9_readsOne (l : Launch) {D : va_G} {A : Nat → Prop} {ad : Nat → Nat} {cI cX : ClassId} (hD : ∀ σ, va_D A ((wM ad cI cX) σ)) (F : Nat) (v1 : Int32) (v2 : Int32) (v3 : Int32) (σ : xSt) (r : Int32) (σ' : xSt) (h : mX9_readsOne F v1 v2 v3 σ = some (r, σ')) : xM l yX9_readsOne cX9_readsOne 7 (some .int) ({ frames := 1, cells := 0, slots := 0, locals := 22 }) D (tyM cI cX) A (wM ad cI cX) [.ref (ad 0), .int v1, .int v2, .int v3] σ (xQi D A (wM ad cI cX) r σ') := by
  refine xM_of (lv := [(0, .ref (ad 0)), (1, .int v1), (2, .int v2), (3, .int v3)]) [.ref (ad 0), .int v1, .int v2, .int v3] (by decide) hD rfl (Nat.le_of_ble_eq_true rfl) ?_
  intro p e s m args below meth c X hr hl
  unfold mX9_readsOne at h
  refine x_aload_n (pc := 0) X dX9_readsOne_0 rfl 0 rfl ?_
  refine x_iload_n (pc := 1) X dX9_readsOne_1 rfl 1 rfl ?_
  refine x_iload_n (pc := 2) X dX9_readsOne_2 rfl 3 rfl ?_
  obtain ⟨r3, σ3, hq3, h⟩ := xb2_some h
  refine x_calliV (pc := 3) (As := [.int v1, .int v3]) (rest := []) X (kX9_byteAt l X.2.2.2.2.2.2.2 F _ _ _ _ _ hq3) kvX9_105 rfl (qX9) ⟨rfl, rfl, Nat.le_of_ble_eq_true rfl, Nat.le_of_ble_eq_true rfl⟩ rfl rfl (Nat.le_of_ble_eq_true rfl) dX9_readsOne_3 ?_
  refine x_bipush (pc := 6) (v := 48) X dX9_readsOne_6 (by decide) ?_
  refine x_isub (pc := 8) X dX9_readsOne_8 ?_
  refine x_istore (pc := 9) (lv' := [(4, .int (r3 - 48)), (0, .ref (ad 0)), (1, .int v1), (2, .int v2), (3, .int v3)]) X dX9_readsOne_9 (by decide) rfl ?_
  refine x_aload_n (pc := 11) X dX9_readsOne_11 rfl 1 rfl ?_
  refine x_iload_n (pc := 12) X dX9_readsOne_12 rfl 2 rfl ?_
  refine x_iload_n (pc := 13) X dX9_readsOne_13 rfl 4 rfl ?_
  refine x_iconst (pc := 14) (v := 1) X dX9_readsOne_14 (by decide) ?_
  refine x_iadd (pc := 15) X dX9_readsOne_15 ?_
  obtain ⟨r16, σ16, hq16, h⟩ := xb2_some h
  refine x_calliV (pc := 16) (As := [.int v1, .int (v3 + 1)]) (rest := []) X (kX9_byteAt l X.2.2.2.2.2.2.2 F _ _ _ _ _ hq16) kvX9_105 rfl (qX9) ⟨rfl, rfl, Nat.le_of_ble_eq_true rfl, Nat.le_of_ble_eq_true rfl⟩ rfl rfl (Nat.le_of_ble_eq_true rfl) dX9_readsOne_16 ?_
  refine x_bipush (pc := 19) (v := 48) X dX9_readsOne_19 (by decide) ?_
  refine x_isub (pc := 21) X dX9_readsOne_21 ?_
  refine x_istore (pc := 22) (lv' := [(5, .int (r16 - 48)), (4, .int (r3 - 48)), (0, .ref (ad 0)), (1, .int v1), (2, .int v2), (3, .int v3)]) X dX9_readsOne_22 (by decide) rfl ?_
  refine x_aload_n (pc := 24) X dX9_readsOne_24 rfl 2 rfl ?_
  refine x_iload_n (pc := 25) X dX9_readsOne_25 rfl 3 rfl ?_
  refine x_iload_n (pc := 26) X dX9_readsOne_26 rfl 5 rfl ?_
  refine x_iconst (pc := 27) (v := 2) X dX9_readsOne_27 (by decide) ?_
  refine x_iadd (pc := 28) X dX9_readsOne_28 ?_
  obtain ⟨r29, σ29, hq29, h⟩ := xb2_some h
  refine x_calliV (pc := 29) (As := [.int v1, .int (v3 + 2)]) (rest := []) X (kX9_byteAt l X.2.2.2.2.2.2.2 F _ _ _ _ _ hq29) kvX9_105 rfl (qX9) ⟨rfl, rfl, Nat.le_of_ble_eq_true rfl, Nat.le_of_ble_eq_true rfl⟩ rfl rfl (Nat.le_of_ble_eq_true rfl) dX9_readsOne_29 ?_
  refine x_istore (pc := 32) (lv' := [(6, .int r29), (5, .int (r16 - 48)), (4, .int (r3 - 48)), (0, .ref (ad 0)), (1, .int v1), (2, .int v2), (3, .int v3)]) X dX9_readsOne_32 (by decide) rfl ?_
  refine x_iload (pc := 34) X dX9_readsOne_34 2 rfl ?_
  refine x_iconst (pc := 36) (v := 1) X dX9_readsOne_36 (by decide) ?_
  refine x_iload_n (pc := 37) X dX9_readsOne_37 rfl 4 rfl ?_
  refine x_if_ne (pc := 38) X 45 dX9_readsOne_38 (by decide) (fun hc => ?_) (fun hc => ?_)
  · have h := xif hc h
    refine x_bipush (pc := 45) (v := 9) X dX9_readsOne_45 (by decide) ?_
    refine x_sub [3, 4, 5, 2, 1, 0] rfl ?_
    exact wX9_readsOne_L47 X hr hl F _ _ _ _ _ _ _ _ _ h
  · have h := xit hc h
    refine x_iconst (pc := 41) (v := 5) X dX9_readsOne_41 (by decide) ?_
    refine x_goto (pc := 42) X 47 dX9_readsOne_42 (by decide) ?_
    refine x_sub [3, 4, 5, 2, 1, 0] rfl ?_
    exact wX9_readsOne_L47 X hr hl F _ _ _ _ _ _ _ _ _ h
set_option maxRecDepth 100000 in
set_option maxHeartbeats 4000000 in
theorem wX9_readsText_L170 {p : Program} {l : Launch} {e : Env} {s : State} {m : MethodId} {args : Array Value} {below : List Frame} {meth : Method} {c : Code} {D : va_G} {A : Nat → Prop} {ad : Nat → Nat} {cI cX : ClassId} {r : Int32} {σ' : xSt} (X : xX p s m args c cX9_readsText 6 RX9 D (tyM cI cX) A (wM ad cI cX)) (hr : meth.sig.returnType = (some .int)) (hl : meth.locks = false) (F : Nat) (σ : xSt) (h : mX9_readsText_L170 F σ = some (r, σ')) : xG p l e ({ frames := 2, cells := 0, slots := 0, locals := 48 }) s m args below meth c (MQ below (xQi D A (wM ad cI cX) r σ') args s 0 0 A) 6 D A (wM ad cI cX) σ 170 [] [] := by
  unfold mX9_readsText_L170 at h
  refine x_iconst (pc := 170) (v := (-1)) X dX9_readsText_170 (by decide) ?_
  exact x_iret (pc := 171) X hr hl h dX9_readsText_171
set_option maxRecDepth 100000 in
set_option maxHeartbeats 4000000 in
theorem wX9_readsText_L161 {p : Program} {l : Launch} {e : Env} {s : State} {m : MethodId} {args : Array Value} {below : List Frame} {meth : Method} {c : Code} {D : va_G} {A : Nat → Prop} {ad : Nat → Nat} {cI cX : ClassId} {r : Int32} {σ' : xSt} (X : xX p s m args c cX9_readsText 6 RX9 D (tyM cI cX) A (wM ad cI cX)) (hr : meth.sig.returnType = (some .int)) (hl : meth.locks = false) (F : Nat) (v4 : Int32) (σ : xSt) (h : mX9_readsText_L161 F v4 σ = some (r, σ')) : xG p l e ({ frames := 2, cells := 0, slots := 0, locals := 48 }) s m args below meth c (MQ below (xQi D A (wM ad cI cX) r σ') args s 0 0 A) 6 D A (wM ad cI cX) σ 161 [(4, .int v4)] [] := by
  unfold mX9_readsText_L161 at h
  refine x_iload (pc := 161) X dX9_readsText_161 0 rfl ?_
  exact x_iret (pc := 163) X hr hl h dX9_readsText_163
set_option maxRecDepth 100000 in
set_option maxHeartbeats 4000000 in
theorem wX9_readsText_L144 {p : Program} {l : Launch} {e : Env} {s : State} {m : MethodId} {args : Array Value} {below : List Frame} {meth : Method} {c : Code} {D : va_G} {A : Nat → Prop} {ad : Nat → Nat} {cI cX : ClassId} {r : Int32} {σ' : xSt} (X : xX p s m args c cX9_readsText 6 RX9 D (tyM cI cX) A (wM ad cI cX)) (hr : meth.sig.returnType = (some .int)) (hl : meth.locks = false) (F : Nat) (t1 : Int32) (σ : xSt) (h : mX9_readsText_L144 F t1 σ = some (r, σ')) : xG p l e ({ frames := 2, cells := 0, slots := 0, locals := 48 }) s m args below meth c (MQ below (xQi D A (wM ad cI cX) r σ') args s 0 0 A) 6 D A (wM ad cI cX) σ 144 [] [.int t1, .ref (ad 0)] := by
  unfold mX9_readsText_L144 at h
  refine uX9_113 (pc := 144) X dX9_readsText_144 ?_
  refine x_iconst (pc := 147) (v := (-1)) X dX9_readsText_147 (by decide) ?_
  exact x_iret (pc := 148) X hr hl h dX9_readsText_148
set_option maxRecDepth 100000 in
set_option maxHeartbeats 4000000 in
theorem wX9_readsText_L127 {p : Program} {l : Launch} {e : Env} {s : State} {m : MethodId} {args : Array Value} {below : List Frame} {meth : Method} {c : Code} {D : va_G} {A : Nat → Prop} {ad : Nat → Nat} {cI cX : ClassId} {r : Int32} {σ' : xSt} (X : xX p s m args c cX9_readsText 6 RX9 D (tyM cI cX) A (wM ad cI cX)) (hr : meth.sig.returnType = (some .int)) (hl : meth.locks = false) (F : Nat) (v1 : Int32) (v3 : Int32) (t1 : Int32) (σ : xSt) (h : mX9_readsText_L127 F v1 v3 t1 σ = some (r, σ')) : xG p l e ({ frames := 2, cells := 0, slots := 0, locals := 48 }) s m args below meth c (MQ below (xQi D A (wM ad cI cX) r σ') args s 0 0 A) 6 D A (wM ad cI cX) σ 127 [(0, .ref (ad 0)), (1, .int v1), (3, .int v3)] [.int t1, .ref (ad 0)] := by
  unfold mX9_readsText_L127 at h
  refine uX9_109 (pc := 127) X dX9_readsText_127 ?_
  refine x_aload_n (pc := 130) X dX9_readsText_130 rfl 0 rfl ?_
  refine x_iload_n (pc := 131) X dX9_readsText_131 rfl 1 rfl ?_
  refine x_iconst (pc := 132) (v := 1) X dX9_readsText_132 (by decide) ?_
  refine x_icmp_ne (pc := 133) X 140 dX9_readsText_133 (by decide) (fun hc => ?_) (fun hc => ?_)
  · have h := xif hc h
    refine x_aload_n (pc := 140) X dX9_readsText_140 rfl 0 rfl ?_
    refine gX9_113 (pc := 141) X dX9_readsText_141 ?_
    refine x_sub [] rfl ?_
    exact wX9_readsText_L144 X hr hl F _ _ h
  · have h := xit hc h
    refine x_iload_n (pc := 136) X dX9_readsText_136 rfl 2 rfl ?_
    refine x_goto (pc := 137) X 144 dX9_readsText_137 (by decide) ?_
    refine x_sub [] rfl ?_
    exact wX9_readsText_L144 X hr hl F _ _ h
set_option maxRecDepth 100000 in
set_option maxHeartbeats 4000000 in
theorem wX9_readsText_L114 {p : Program} {l : Launch} {e : Env} {s : State} {m : MethodId} {args : Array Value} {below : List Frame} {meth : Method} {c : Code} {D : va_G} {A : Nat → Prop} {ad : Nat → Nat} {cI cX : ClassId} {r : Int32} {σ' : xSt} (X : xX p s m args c cX9_readsText 6 RX9 D (tyM cI cX) A (wM ad cI cX)) (hr : meth.sig.returnType = (some .int)) (hl : meth.locks = false) (F : Nat) (v1 : Int32) (v3 : Int32) (σ : xSt) (h : mX9_readsText_L114 F v1 v3 σ = some (r, σ')) : xG p l e ({ frames := 2, cells := 0, slots := 0, locals := 48 }) s m args below meth c (MQ below (xQi D A (wM ad cI cX) r σ') args s 0 0 A) 6 D A (wM ad cI cX) σ 114 [(0, .ref (ad 0)), (1, .int v1), (3, .int v3)] [] := by
  unfold mX9_readsText_L114 at h
  refine x_aload_n (pc := 114) X dX9_readsText_114 rfl 0 rfl ?_
  refine x_iload_n (pc := 115) X dX9_readsText_115 rfl 1 rfl ?_
  refine x_if_ne (pc := 116) X 123 dX9_readsText_116 (by decide) (fun hc => ?_) (fun hc => ?_)
  · have h := xif hc h
    refine x_aload_n (pc := 123) X dX9_readsText_123 rfl 0 rfl ?_
    refine gX9_109 (pc := 124) X dX9_readsText_124 ?_
    refine x_sub [0, 1, 2] rfl ?_
    exact wX9_readsText_L127 X hr hl F _ _ _ _ h
  · have h := xit hc h
    refine x_iload_n (pc := 119) X dX9_readsText_119 rfl 2 rfl ?_
    refine x_goto (pc := 120) X 127 dX9_readsText_120 (by decide) ?_
    refine x_sub [0, 1, 2] rfl ?_
    exact wX9_readsText_L127 X hr hl F _ _ _ _ h
set_option maxRecDepth 100000 in
set_option maxHeartbeats 4000000 in
theorem wX9_readsText_L91 {p : Program} {l : Launch} {e : Env} {s : State} {m : MethodId} {args : Array Value} {below : List Frame} {meth : Method} {c : Code} {D : va_G} {A : Nat → Prop} {ad : Nat → Nat} {cI cX : ClassId} {r : Int32} {σ' : xSt} (X : xX p s m args c cX9_readsText 6 RX9 D (tyM cI cX) A (wM ad cI cX)) (hr : meth.sig.returnType = (some .int)) (hl : meth.locks = false) (F : Nat) (v4 : Int32) (v5 : Int32) (σ : xSt) (h : mX9_readsText_L91 F v4 v5 σ = some (r, σ')) : xG p l e ({ frames := 2, cells := 0, slots := 0, locals := 48 }) s m args below meth c (MQ below (xQi D A (wM ad cI cX) r σ') args s 0 0 A) 6 D A (wM ad cI cX) σ 91 [(4, .int v4), (5, .int v5)] [] := by
  unfold mX9_readsText_L91 at h
  refine x_iload (pc := 91) X dX9_readsText_91 0 rfl ?_
  refine x_iload (pc := 93) X dX9_readsText_93 1 rfl ?_
  refine x_iadd (pc := 95) X dX9_readsText_95 ?_
  exact x_iret (pc := 96) X hr hl h dX9_readsText_96
set_option maxRecDepth 100000 in
set_option maxHeartbeats 4000000 in
theorem wX9_readsText_L83 {p : Program} {l : Launch} {e : Env} {s : State} {m : MethodId} {args : Array Value} {below : List Frame} {meth : Method} {c : Code} {D : va_G} {A : Nat → Prop} {ad : Nat → Nat} {cI cX : ClassId} {r : Int32} {σ' : xSt} {c50 : Int32 → Int32 → Int32 → Int32 → xSt → Option (Int32 × xSt)} (X : xX p s m args c cX9_readsText 6 RX9 D (tyM cI cX) A (wM ad cI cX)) (hr : meth.sig.returnType = (some .int)) (hl : meth.locks = false) (F : Nat) (hc50 : ∀ (v1 : Int32) (v2 : Int32) (v3 : Int32) (v4 : Int32) (σ : xSt), c50 v1 v2 v3 v4 σ = some (r, σ') → xG p l e ({ frames := 2, cells := 0, slots := 0, locals := 48 }) s m args below meth c (MQ below (xQi D A (wM ad cI cX) r σ') args s 0 0 A) 6 D A (wM ad cI cX) σ 50 [(0, .ref (ad 0)), (1, .int v1), (2, .int v2), (3, .int v3), (4, .int v4)] []) (v1 : Int32) (v2 : Int32) (v3 : Int32) (v4 : Int32) (t0 : Int32) (σ : xSt) (h : mX9_readsText_L83 F c50 v1 v2 v3 v4 t0 σ = some (r, σ')) : xG p l e ({ frames := 2, cells := 0, slots := 0, locals := 48 }) s m args below meth c (MQ below (xQi D A (wM ad cI cX) r σ') args s 0 0 A) 6 D A (wM ad cI cX) σ 83 [(0, .ref (ad 0)), (1, .int v1), (2, .int v2), (3, .int v3), (4, .int v4)] [.int t0] := by
  unfold mX9_readsText_L83 at h
  refine x_istore (pc := 83) (lv' := [(5, .int t0), (0, .ref (ad 0)), (1, .int v1), (2, .int v2), (3, .int v3), (4, .int v4)]) X dX9_readsText_83 (by decide) rfl ?_
  refine x_iload (pc := 85) X dX9_readsText_85 0 rfl ?_
  refine x_iconst (pc := 87) (v := 3) X dX9_readsText_87 (by decide) ?_
  refine x_icmp_ge (pc := 88) X 97 dX9_readsText_88 (by decide) (fun hc => ?_) (fun hc => ?_)
  · have h := xit hc h
    refine x_iinc (pc := 97) (v := (v3 + 1)) (lv' := [(3, .int (v3 + 1)), (5, .int t0), (0, .ref (ad 0)), (1, .int v1), (2, .int v2), (4, .int v4)]) X dX9_readsText_97 4 rfl rfl (by decide) rfl ?_
    refine x_iinc (pc := 100) (v := (v4 + 3)) (lv' := [(4, .int (v4 + 3)), (3, .int (v3 + 1)), (5, .int t0), (0, .ref (ad 0)), (1, .int v1), (2, .int v2)]) X dX9_readsText_100 5 rfl rfl (by decide) rfl ?_
    refine x_iload (pc := 103) X dX9_readsText_103 0 rfl ?_
    refine x_aload_n (pc := 105) X dX9_readsText_105 rfl 3 rfl ?_
    refine gX9_7 (pc := 106) X dX9_readsText_106 ?_
    refine x_iload_n (pc := 109) X dX9_readsText_109 rfl 4 rfl ?_
    obtain ⟨hb110, h⟩ := xck_some h
    refine x_iald (pc := 110) X 1 0 (qaX9_typed) rfl hb110 dX9_readsText_110 ?_
    refine x_icmp_ne (pc := 111) X 149 dX9_readsText_111 (by decide) (fun hc => ?_) (fun hc => ?_)
    · have h := xif hc h
      refine x_aload_n (pc := 149) X dX9_readsText_149 rfl 3 rfl ?_
      refine x_iload_n (pc := 150) X dX9_readsText_150 rfl 4 rfl ?_
      refine x_iload (pc := 151) X dX9_readsText_151 0 rfl ?_
      obtain ⟨r153, σ153, hq153, h⟩ := xb2_some h
      refine x_calliV (pc := 153) (As := [.int v1, .int (v4 + 3)]) (rest := []) X (kX9_byteAt l X.2.2.2.2.2.2.2 F _ _ _ _ _ hq153) kvX9_105 rfl (qX9) ⟨rfl, rfl, Nat.le_of_ble_eq_true rfl, Nat.le_of_ble_eq_true rfl⟩ rfl rfl (Nat.le_of_ble_eq_true rfl) dX9_readsText_153 ?_
      refine x_bipush (pc := 156) (v := 59) X dX9_readsText_156 (by decide) ?_
      refine x_icmp_eq (pc := 158) X 164 dX9_readsText_158 (by decide) (fun hc => ?_) (fun hc => ?_)
      · have h := xit hc h
        refine x_iinc (pc := 164) (v := ((v4 + 3) + 1)) (lv' := [(4, .int ((v4 + 3) + 1)), (3, .int (v3 + 1)), (5, .int t0), (0, .ref (ad 0)), (1, .int v1), (2, .int v2)]) X dX9_readsText_164 0 rfl rfl (by decide) rfl ?_
        refine x_goto (pc := 167) X 50 dX9_readsText_167 (by decide) ?_
        refine x_sub [3, 4, 5, 1, 0] rfl ?_
        exact hc50 _ _ _ _ _ h
      · have h := xif hc h
        refine x_sub [0] rfl ?_
        exact wX9_readsText_L161 X hr hl F _ _ h
    · have h := xit hc h
      refine x_sub [3, 4, 1] rfl ?_
      exact wX9_readsText_L114 X hr hl F _ _ _ h
  · have h := xif hc h
    refine x_sub [5, 0] rfl ?_
    exact wX9_readsText_L91 X hr hl F _ _ _ h
set_option maxRecDepth 100000 in
set_option maxHeartbeats 4000000 in
theorem wX9_readsText_L66 {p : Program} {l : Launch} {e : Env} {s : State} {m : MethodId} {args : Array Value} {below : List Frame} {meth : Method} {c : Code} {D : va_G} {A : Nat → Prop} {ad : Nat → Nat} {cI cX : ClassId} {r : Int32} {σ' : xSt} {c50 : Int32 → Int32 → Int32 → Int32 → xSt → Option (Int32 × xSt)} (X : xX p s m args c cX9_readsText 6 RX9 D (tyM cI cX) A (wM ad cI cX)) (hr : meth.sig.returnType = (some .int)) (hl : meth.locks = false) (F : Nat) (hc50 : ∀ (v1 : Int32) (v2 : Int32) (v3 : Int32) (v4 : Int32) (σ : xSt), c50 v1 v2 v3 v4 σ = some (r, σ') → xG p l e ({ frames := 2, cells := 0, slots := 0, locals := 48 }) s m args below meth c (MQ below (xQi D A (wM ad cI cX) r σ') args s 0 0 A) 6 D A (wM ad cI cX) σ 50 [(0, .ref (ad 0)), (1, .int v1), (2, .int v2), (3, .int v3), (4, .int v4)] []) (v1 : Int32) (v2 : Int32) (v3 : Int32) (v4 : Int32) (σ : xSt) (h : mX9_readsText_L66 F c50 v1 v2 v3 v4 σ = some (r, σ')) : xG p l e ({ frames := 2, cells := 0, slots := 0, locals := 48 }) s m args below meth c (MQ below (xQi D A (wM ad cI cX) r σ') args s 0 0 A) 6 D A (wM ad cI cX) σ 66 [(0, .ref (ad 0)), (1, .int v1), (2, .int v2), (3, .int v3), (4, .int v4)] [] := by
  unfold mX9_readsText_L66 at h
  refine x_iload_n (pc := 66) X dX9_readsText_66 rfl 3 rfl ?_
  refine x_iload_n (pc := 67) X dX9_readsText_67 rfl 2 rfl ?_
  refine x_icmp_ne (pc := 68) X 75 dX9_readsText_68 (by decide) (fun hc => ?_) (fun hc => ?_)
  · have h := xif hc h
    refine x_aload_n (pc := 75) X dX9_readsText_75 rfl 0 rfl ?_
    refine x_iload_n (pc := 76) X dX9_readsText_76 rfl 1 rfl ?_
    refine x_iload_n (pc := 77) X dX9_readsText_77 rfl 3 rfl ?_
    refine x_iload (pc := 78) X dX9_readsText_78 4 rfl ?_
    obtain ⟨r80, σ80, hq80, h⟩ := xb2_some h
    refine x_calliV (pc := 80) (As := [.int v1, .int v3, .int v4]) (rest := []) X (kX9_readsOne l X.2.2.2.2.2.2.2 F _ _ _ _ _ _ hq80) kvX9_116 rfl (qX9) ⟨rfl, rfl, Nat.le_of_ble_eq_true rfl, Nat.le_of_ble_eq_true rfl⟩ rfl rfl (Nat.le_of_ble_eq_true rfl) dX9_readsText_80 ?_
    refine x_sub [0, 1, 2, 3, 4] rfl ?_
    exact wX9_readsText_L83 X hr hl F hc50 _ _ _ _ _ _ h
  · have h := xit hc h
    refine x_iconst (pc := 71) (v := 0) X dX9_readsText_71 (by decide) ?_
    refine x_goto (pc := 72) X 83 dX9_readsText_72 (by decide) ?_
    refine x_sub [0, 1, 2, 3, 4] rfl ?_
    exact wX9_readsText_L83 X hr hl F hc50 _ _ _ _ _ _ h
set_option maxRecDepth 100000 in
set_option maxHeartbeats 4000000 in
theorem wX9_readsText_S50 {p : Program} {l : Launch} {e : Env} {s : State} {m : MethodId} {args : Array Value} {below : List Frame} {meth : Method} {c : Code} {D : va_G} {A : Nat → Prop} {ad : Nat → Nat} {cI cX : ClassId} {r : Int32} {σ' : xSt} {c50 : Int32 → Int32 → Int32 → Int32 → xSt → Option (Int32 × xSt)} (X : xX p s m args c cX9_readsText 6 RX9 D (tyM cI cX) A (wM ad cI cX)) (hr : meth.sig.returnType = (some .int)) (hl : meth.locks = false) (F : Nat) (hc50 : ∀ (v1 : Int32) (v2 : Int32) (v3 : Int32) (v4 : Int32) (σ : xSt), c50 v1 v2 v3 v4 σ = some (r, σ') → xG p l e ({ frames := 2, cells := 0, slots := 0, locals := 48 }) s m args below meth c (MQ below (xQi D A (wM ad cI cX) r σ') args s 0 0 A) 6 D A (wM ad cI cX) σ 50 [(0, .ref (ad 0)), (1, .int v1), (2, .int v2), (3, .int v3), (4, .int v4)] []) (v1 : Int32) (v2 : Int32) (v3 : Int32) (v4 : Int32) (σ : xSt) (h : mX9_readsText_S50 F c50 v1 v2 v3 v4 σ = some (r, σ')) : xG p l e ({ frames := 2, cells := 0, slots := 0, locals := 48 }) s m args below meth c (MQ below (xQi D A (wM ad cI cX) r σ') args s 0 0 A) 6 D A (wM ad cI cX) σ 50 [(0, .ref (ad 0)), (1, .int v1), (2, .int v2), (3, .int v3), (4, .int v4)] [] := by
  unfold mX9_readsText_S50 at h
  refine x_iload (pc := 50) X dX9_readsText_50 4 rfl ?_
  refine x_aload_n (pc := 52) X dX9_readsText_52 rfl 0 rfl ?_
  refine gX9_7 (pc := 53) X dX9_readsText_53 ?_
  refine x_iload_n (pc := 56) X dX9_readsText_56 rfl 1 rfl ?_
  obtain ⟨hb57, h⟩ := xck_some h
  refine x_iald (pc := 57) X 1 0 (qaX9_typed) rfl hb57 dX9_readsText_57 ?_
  refine x_icmp_lt (pc := 58) X 66 dX9_readsText_58 (by decide) (fun hc => ?_) (fun hc => ?_)
  · have h := xit hc h
    refine x_sub [0, 1, 2, 3, 4] rfl ?_
    exact wX9_readsText_L66 X hr hl F hc50 _ _ _ _ _ h
  · have h := xif hc h
    refine x_iload (pc := 61) X dX9_readsText_61 4 rfl ?_
    refine x_if_le (pc := 63) X 170 dX9_readsText_63 (by decide) (fun hc => ?_) (fun hc => ?_)
    · have h := xit hc h
      refine x_sub [] rfl ?_
      exact wX9_readsText_L170 X hr hl F _ h
    · have h := xif hc h
      refine x_sub [0, 1, 2, 3, 4] rfl ?_
      exact wX9_readsText_L66 X hr hl F hc50 _ _ _ _ _ h
theorem wX9_readsText_L50 {p : Program} {l : Launch} {e : Env} {s : State} {m : MethodId} {args : Array Value} {below : List Frame} {meth : Method} {c : Code} {D : va_G} {A : Nat → Prop} {ad : Nat → Nat} {cI cX : ClassId} {r : Int32} {σ' : xSt} (X : xX p s m args c cX9_readsText 6 RX9 D (tyM cI cX) A (wM ad cI cX)) (hr : meth.sig.returnType = (some .int)) (hl : meth.locks = false) (F : Nat) : ∀ (n : Nat) (v1 : Int32) (v2 : Int32) (v3 : Int32) (v4 : Int32) (σ : xSt), mX9_readsText_L50 F n v1 v2 v3 v4 σ = some (r, σ') → xG p l e ({ frames := 2, cells := 0, slots := 0, locals := 48 }) s m args below meth c (MQ below (xQi D A (wM ad cI cX) r σ') args s 0 0 A) 6 D A (wM ad cI cX) σ 50 [(0, .ref (ad 0)), (1, .int v1), (2, .int v2), (3, .int v3), (4, .int v4)] [] := by
  intro n
  induction n with
  | zero => intro v1 v2 v3 v4 σ h; cases h
  | succ n ih => intro v1 v2 v3 v4 σ h; exact wX9_readsText_S50 X hr hl F ih v1 v2 v3 v4 σ h
set_option maxRecDepth 100000 in
set_option maxHeartbeats 4000000 in
theorem wX9_readsText_L47 {p : Program} {l : Launch} {e : Env} {s : State} {m : MethodId} {args : Array Value} {below : List Frame} {meth : Method} {c : Code} {D : va_G} {A : Nat → Prop} {ad : Nat → Nat} {cI cX : ClassId} {r : Int32} {σ' : xSt} (X : xX p s m args c cX9_readsText 6 RX9 D (tyM cI cX) A (wM ad cI cX)) (hr : meth.sig.returnType = (some .int)) (hl : meth.locks = false) (F : Nat) (v1 : Int32) (v2 : Int32) (v3 : Int32) (v4 : Int32) (t1 : Int32) (σ : xSt) (h : mX9_readsText_L47 F v1 v2 v3 v4 t1 σ = some (r, σ')) : xG p l e ({ frames := 2, cells := 0, slots := 0, locals := 48 }) s m args below meth c (MQ below (xQi D A (wM ad cI cX) r σ') args s 0 0 A) 6 D A (wM ad cI cX) σ 47 [(0, .ref (ad 0)), (1, .int v1), (2, .int v2), (3, .int v3), (4, .int v4)] [.int t1, .ref (ad 0)] := by
  unfold mX9_readsText_L47 at h
  refine uX9_113 (pc := 47) X dX9_readsText_47 ?_
  refine x_sub [0, 1, 2, 3, 4] rfl ?_
  exact wX9_readsText_L50 X hr hl F F _ _ _ _ _ h
set_option maxRecDepth 100000 in
set_option maxHeartbeats 4000000 in
theorem wX9_readsText_L30 {p : Program} {l : Launch} {e : Env} {s : State} {m : MethodId} {args : Array Value} {below : List Frame} {meth : Method} {c : Code} {D : va_G} {A : Nat → Prop} {ad : Nat → Nat} {cI cX : ClassId} {r : Int32} {σ' : xSt} (X : xX p s m args c cX9_readsText 6 RX9 D (tyM cI cX) A (wM ad cI cX)) (hr : meth.sig.returnType = (some .int)) (hl : meth.locks = false) (F : Nat) (v1 : Int32) (v2 : Int32) (v3 : Int32) (v4 : Int32) (t1 : Int32) (σ : xSt) (h : mX9_readsText_L30 F v1 v2 v3 v4 t1 σ = some (r, σ')) : xG p l e ({ frames := 2, cells := 0, slots := 0, locals := 48 }) s m args below meth c (MQ below (xQi D A (wM ad cI cX) r σ') args s 0 0 A) 6 D A (wM ad cI cX) σ 30 [(0, .ref (ad 0)), (1, .int v1), (2, .int v2), (3, .int v3), (4, .int v4)] [.int t1, .ref (ad 0)] := by
  unfold mX9_readsText_L30 at h
  refine uX9_109 (pc := 30) X dX9_readsText_30 ?_
  refine x_aload_n (pc := 33) X dX9_readsText_33 rfl 0 rfl ?_
  refine x_iload_n (pc := 34) X dX9_readsText_34 rfl 1 rfl ?_
  refine x_iconst (pc := 35) (v := 1) X dX9_readsText_35 (by decide) ?_
  refine x_icmp_ne (pc := 36) X 43 dX9_readsText_36 (by decide) (fun hc => ?_) (fun hc => ?_)
  · have h := xif hc h
    refine x_aload_n (pc := 43) X dX9_readsText_43 rfl 0 rfl ?_
    refine gX9_113 (pc := 44) X dX9_readsText_44 ?_
    refine x_sub [0, 1, 2, 3, 4] rfl ?_
    exact wX9_readsText_L47 X hr hl F _ _ _ _ _ _ h
  · have h := xit hc h
    refine x_iconst (pc := 39) (v := 0) X dX9_readsText_39 (by decide) ?_
    refine x_goto (pc := 40) X 47 dX9_readsText_40 (by decide) ?_
    refine x_sub [0, 1, 2, 3, 4] rfl ?_
    exact wX9_readsText_L47 X hr hl F _ _ _ _ _ _ h
set_option maxRecDepth 100000 in
set_option maxHeartbeats 4000000 in
theorem wX9_readsText_L11 {p : Program} {l : Launch} {e : Env} {s : State} {m : MethodId} {args : Array Value} {below : List Frame} {meth : Method} {c : Code} {D : va_G} {A : Nat → Prop} {ad : Nat → Nat} {cI cX : ClassId} {r : Int32} {σ' : xSt} (X : xX p s m args c cX9_readsText 6 RX9 D (tyM cI cX) A (wM ad cI cX)) (hr : meth.sig.returnType = (some .int)) (hl : meth.locks = false) (F : Nat) (v1 : Int32) (t0 : Int32) (σ : xSt) (h : mX9_readsText_L11 F v1 t0 σ = some (r, σ')) : xG p l e ({ frames := 2, cells := 0, slots := 0, locals := 48 }) s m args below meth c (MQ below (xQi D A (wM ad cI cX) r σ') args s 0 0 A) 6 D A (wM ad cI cX) σ 11 [(0, .ref (ad 0)), (1, .int v1)] [.int t0] := by
  unfold mX9_readsText_L11 at h
  refine x_istore_n (pc := 11) (lv' := [(2, .int t0), (0, .ref (ad 0)), (1, .int v1)]) X dX9_readsText_11 rfl (by decide) rfl ?_
  refine x_iconst (pc := 12) (v := 0) X dX9_readsText_12 (by decide) ?_
  refine x_istore_n (pc := 13) (lv' := [(3, .int 0), (2, .int t0), (0, .ref (ad 0)), (1, .int v1)]) X dX9_readsText_13 rfl (by decide) rfl ?_
  refine x_iconst (pc := 14) (v := 0) X dX9_readsText_14 (by decide) ?_
  refine x_istore (pc := 15) (lv' := [(4, .int 0), (3, .int 0), (2, .int t0), (0, .ref (ad 0)), (1, .int v1)]) X dX9_readsText_15 (by decide) rfl ?_
  refine x_aload_n (pc := 17) X dX9_readsText_17 rfl 3 rfl ?_
  refine x_iload_n (pc := 18) X dX9_readsText_18 rfl 4 rfl ?_
  refine x_if_ne (pc := 19) X 26 dX9_readsText_19 (by decide) (fun hc => ?_) (fun hc => ?_)
  · have h := xif hc h
    refine x_aload_n (pc := 26) X dX9_readsText_26 rfl 3 rfl ?_
    refine gX9_109 (pc := 27) X dX9_readsText_27 ?_
    refine x_sub [3, 4, 2, 1, 0] rfl ?_
    exact wX9_readsText_L30 X hr hl F _ _ _ _ _ _ h
  · have h := xit hc h
    refine x_iconst (pc := 22) (v := 0) X dX9_readsText_22 (by decide) ?_
    refine x_goto (pc := 23) X 30 dX9_readsText_23 (by decide) ?_
    refine x_sub [3, 4, 2, 1, 0] rfl ?_
    exact wX9_readsText_L30 X hr hl F _ _ _ _ _ _ h
set_option maxRecDepth 100000 in
set_option maxHeartbeats 4000000 in
theorem kX9_readsText (l : Launch) {D : va_G} {A : Nat → Prop} {ad : Nat → Nat} {cI cX : ClassId} (hD : ∀ σ, va_D A ((wM ad cI cX) σ)) (F : Nat) (v1 : Int32) (σ : xSt) (r : Int32) (σ' : xSt) (h : mX9_readsText F v1 σ = some (r, σ')) : xM l yX9_readsText cX9_readsText 6 (some .int) ({ frames := 2, cells := 0, slots := 0, locals := 48 }) D (tyM cI cX) A (wM ad cI cX) [.ref (ad 0), .int v1] σ (xQi D A (wM ad cI cX) r σ') := by
  refine xM_of (lv := [(0, .ref (ad 0)), (1, .int v1)]) [.ref (ad 0), .int v1] (by decide) hD rfl (Nat.le_of_ble_eq_true rfl) ?_
  intro p e s m args below meth c X hr hl
  unfold mX9_readsText at h
  refine x_iload_n (pc := 0) X dX9_readsText_0 rfl 1 rfl ?_
  refine x_if_ne (pc := 1) X 9 dX9_readsText_1 (by decide) (fun hc => ?_) (fun hc => ?_)
  · have h := xif hc h
    refine x_bipush (pc := 9) (v := 8) X dX9_readsText_9 (by decide) ?_
    refine x_sub [0, 1] rfl ?_
    exact wX9_readsText_L11 X hr hl F _ _ _ h
  · have h := xit hc h
    refine x_bipush (pc := 4) (v := 6) X dX9_readsText_4 (by decide) ?_
    refine x_goto (pc := 6) X 11 dX9_readsText_6 (by decide) ?_
    refine x_sub [0, 1] rfl ?_
    exact wX9_readsText_L11 X hr hl F _ _ _ h
set_option maxRecDepth 100000 in
set_option maxHeartbeats 4000000 in
theorem wX9_faultOf_L21 {p : Program} {l : Launch} {e : Env} {s : State} {m : MethodId} {args : Array Value} {below : List Frame} {meth : Method} {c : Code} {D : va_G} {A : Nat → Prop} {ad : Nat → Nat} {cI cX : ClassId} {r : Int32} {σ' : xSt} (X : xX p s m args c cX9_faultOf 4 RX9 D (tyM cI cX) A (wM ad cI cX)) (hr : meth.sig.returnType = (some .int)) (hl : meth.locks = false) (F : Nat) (t0 : Int32) (σ : xSt) (h : mX9_faultOf_L21 F t0 σ = some (r, σ')) : xG p l e ({ frames := 3, cells := 0, slots := 0, locals := 73 }) s m args below meth c (MQ below (xQi D A (wM ad cI cX) r σ') args s 0 0 A) 4 D A (wM ad cI cX) σ 21 [] [.int t0] := by
  unfold mX9_faultOf_L21 at h
  exact x_iret (pc := 21) X hr hl h dX9_faultOf_21
set_option maxRecDepth 100000 in
set_option maxHeartbeats 4000000 in
theorem kX9_faultOf (l : Launch) {D : va_G} {A : Nat → Prop} {ad : Nat → Nat} {cI cX : ClassId} (hD : ∀ σ, va_D A ((wM ad cI cX) σ)) (F : Nat) (v1 : Int32) (σ : xSt) (r : Int32) (σ' : xSt) (h : mX9_faultOf F v1 σ = some (r, σ')) : xM l yX9_faultOf cX9_faultOf 4 (some .int) ({ frames := 3, cells := 0, slots := 0, locals := 73 }) D (tyM cI cX) A (wM ad cI cX) [.ref (ad 0), .int v1] σ (xQi D A (wM ad cI cX) r σ') := by
  refine xM_of (lv := [(0, .ref (ad 0)), (1, .int v1)]) [.ref (ad 0), .int v1] (by decide) hD rfl (Nat.le_of_ble_eq_true rfl) ?_
  intro p e s m args below meth c X hr hl
  unfold mX9_faultOf at h
  refine x_aload_n (pc := 0) X dX9_faultOf_0 rfl 0 rfl ?_
  refine x_iconst (pc := 1) (v := 0) X dX9_faultOf_1 (by decide) ?_
  obtain ⟨r2, σ2, hq2, h⟩ := xb2_some h
  refine x_calliV (pc := 2) (As := [.int 0]) (rest := []) X (kX9_readsText l X.2.2.2.2.2.2.2 F _ _ _ _ hq2) kvX9_120 rfl (qX9) ⟨rfl, rfl, Nat.le_of_ble_eq_true rfl, Nat.le_of_ble_eq_true rfl⟩ rfl rfl (Nat.le_of_ble_eq_true rfl) dX9_faultOf_2 ?_
  refine x_istore_n (pc := 5) (lv' := [(2, .int r2), (0, .ref (ad 0)), (1, .int v1)]) X dX9_faultOf_5 rfl (by decide) rfl ?_
  refine x_aload_n (pc := 6) X dX9_faultOf_6 rfl 1 rfl ?_
  refine x_iconst (pc := 7) (v := 1) X dX9_faultOf_7 (by decide) ?_
  obtain ⟨r8, σ8, hq8, h⟩ := xb2_some h
  refine x_calliV (pc := 8) (As := [.int 1]) (rest := []) X (kX9_readsText l X.2.2.2.2.2.2.2 F _ _ _ _ hq8) kvX9_120 rfl (qX9) ⟨rfl, rfl, Nat.le_of_ble_eq_true rfl, Nat.le_of_ble_eq_true rfl⟩ rfl rfl (Nat.le_of_ble_eq_true rfl) dX9_faultOf_8 ?_
  refine x_istore_n (pc := 11) (lv' := [(3, .int r8), (2, .int r2), (0, .ref (ad 0)), (1, .int v1)]) X dX9_faultOf_11 rfl (by decide) rfl ?_
  refine x_iload_n (pc := 12) X dX9_faultOf_12 rfl 3 rfl ?_
  refine x_if_ne (pc := 13) X 20 dX9_faultOf_13 (by decide) (fun hc => ?_) (fun hc => ?_)
  · have h := xif hc h
    refine x_iload_n (pc := 20) X dX9_faultOf_20 rfl 0 rfl ?_
    refine x_sub [] rfl ?_
    exact wX9_faultOf_L21 X hr hl F _ _ h
  · have h := xit hc h
    refine x_iload_n (pc := 16) X dX9_faultOf_16 rfl 1 rfl ?_
    refine x_goto (pc := 17) X 21 dX9_faultOf_17 (by decide) ?_
    refine x_sub [] rfl ?_
    exact wX9_faultOf_L21 X hr hl F _ _ h
set_option maxRecDepth 100000 in
set_option maxHeartbeats 4000000 in
theorem kX9_reads (l : Launch) {D : va_G} {A : Nat → Prop} {ad : Nat → Nat} {cI cX : ClassId} (hD : ∀ σ, va_D A ((wM ad cI cX) σ)) (F : Nat) (σ : xSt) (σ' : xSt) (h : mX9_reads F σ = some σ') : xM l yX9_reads cX9_reads 2 none ({ frames := 4, cells := 0, slots := 0, locals := 96 }) D (tyM cI cX) A (wM ad cI cX) [.ref (ad 0)] σ (xQv D A (wM ad cI cX) σ') := by
  refine xM_of (lv := [(0, .ref (ad 0))]) [.ref (ad 0)] (by decide) hD rfl (Nat.le_of_ble_eq_true rfl) ?_
  intro p e s m args below meth c X hr hl
  unfold mX9_reads at h
  refine x_aload_n (pc := 0) X dX9_reads_0 rfl 0 rfl ?_
  refine x_iconst (pc := 1) (v := 0) X dX9_reads_1 (by decide) ?_
  obtain ⟨r2, σ2, hq2, h⟩ := xb2_some h
  refine x_calliV (pc := 2) (As := [.int 0]) (rest := []) X (kX9_faultOf l X.2.2.2.2.2.2.2 F _ _ _ _ hq2) kvX9_124 rfl (qX9) ⟨rfl, rfl, Nat.le_of_ble_eq_true rfl, Nat.le_of_ble_eq_true rfl⟩ rfl rfl (Nat.le_of_ble_eq_true rfl) dX9_reads_2 ?_
  refine x_istore_n (pc := 5) (lv' := [(1, .int r2), (0, .ref (ad 0))]) X dX9_reads_5 rfl (by decide) rfl ?_
  exact x_vret (pc := 6) X hr hl h dX9_reads_6
set_option maxRecDepth 100000 in
set_option maxHeartbeats 4000000 in
theorem wX9_fault_L17 {p : Program} {l : Launch} {e : Env} {s : State} {m : MethodId} {args : Array Value} {below : List Frame} {meth : Method} {c : Code} {D : va_G} {A : Nat → Prop} {ad : Nat → Nat} {cI cX : ClassId} {r : Int32} {σ' : xSt} (X : xX p s m args c cX9_fault 2 RX9 D (tyM cI cX) A (wM ad cI cX)) (hr : meth.sig.returnType = (some .int)) (hl : meth.locks = false) (F : Nat) (t0 : Int32) (σ : xSt) (h : mX9_fault_L17 F t0 σ = some (r, σ')) : xG p l e ({ frames := 4, cells := 0, slots := 0, locals := 96 }) s m args below meth c (MQ below (xQi D A (wM ad cI cX) r σ') args s 0 0 A) 2 D A (wM ad cI cX) σ 17 [] [.int t0] := by
  unfold mX9_fault_L17 at h
  exact x_iret (pc := 17) X hr hl h dX9_fault_17
set_option maxRecDepth 100000 in
set_option maxHeartbeats 4000000 in
theorem kX9_fault (l : Launch) {D : va_G} {A : Nat → Prop} {ad : Nat → Nat} {cI cX : ClassId} (hD : ∀ σ, va_D A ((wM ad cI cX) σ)) (F : Nat) (v1 : Int32) (σ : xSt) (r : Int32) (σ' : xSt) (h : mX9_fault F v1 σ = some (r, σ')) : xM l yX9_fault cX9_fault 2 (some .int) ({ frames := 4, cells := 0, slots := 0, locals := 96 }) D (tyM cI cX) A (wM ad cI cX) [.ref (ad 0), .int v1] σ (xQi D A (wM ad cI cX) r σ') := by
  refine xM_of (lv := [(0, .ref (ad 0)), (1, .int v1)]) [.ref (ad 0), .int v1] (by decide) hD rfl (Nat.le_of_ble_eq_true rfl) ?_
  intro p e s m args below meth c X hr hl
  unfold mX9_fault at h
  refine x_iload_n (pc := 0) X dX9_fault_0 rfl 1 rfl ?_
  obtain ⟨r1, σ1, hq1, h⟩ := xb2_some h
  refine x_calliS (pc := 1) (As := [.int v1]) (rest := []) X (kX9_isText l X.2.2.2.2.2.2.2 F _ _ _ _ hq1) kvX9_101 ⟨rfl, rfl, Nat.le_of_ble_eq_true rfl, Nat.le_of_ble_eq_true rfl⟩ rfl rfl (Nat.le_of_ble_eq_true rfl) dX9_fault_1 ?_
  refine x_if_eq (pc := 4) X 15 dX9_fault_4 (by decide) (fun hc => ?_) (fun hc => ?_)
  · have h := xit hc h
    refine x_bipush (pc := 15) (v := (-2)) X dX9_fault_15 (by decide) ?_
    refine x_sub [] rfl ?_
    exact wX9_fault_L17 X hr hl F _ _ h
  · have h := xif hc h
    refine x_aload_n (pc := 7) X dX9_fault_7 rfl 0 rfl ?_
    refine x_iload_n (pc := 8) X dX9_fault_8 rfl 1 rfl ?_
    obtain ⟨r9, σ9, hq9, h⟩ := xb2_some h
    refine x_calliV (pc := 9) (As := [.int v1]) (rest := []) X (kX9_faultOf l X.2.2.2.2.2.2.2 F _ _ _ _ hq9) kvX9_124 rfl (qX9) ⟨rfl, rfl, Nat.le_of_ble_eq_true rfl, Nat.le_of_ble_eq_true rfl⟩ rfl rfl (Nat.le_of_ble_eq_true rfl) dX9_fault_9 ?_
    refine x_goto (pc := 12) X 17 dX9_fault_12 (by decide) ?_
    refine x_sub [] rfl ?_
    exact wX9_fault_L17 X hr hl F _ _ h
set_option maxRecDepth 100000 in
set_option maxHeartbeats 4000000 in
theorem kX9_isThing (l : Launch) {D : va_G} {A : Nat → Prop} {ad : Nat → Nat} {cI cX : ClassId} (hD : ∀ σ, va_D A ((wM ad cI cX) σ)) (F : Nat) (v1 : Int32) (σ : xSt) (r : Int32) (σ' : xSt) (h : mX9_isThing F v1 σ = some (r, σ')) : xM l yX9_isThing cX9_isThing 2 (some .boolean) ({ frames := 5, cells := 0, slots := 0, locals := 117 }) D (tyM cI cX) A (wM ad cI cX) [.ref (ad 0), .int v1] σ (xQi D A (wM ad cI cX) r σ') := by
  refine xM_of (lv := [(0, .ref (ad 0)), (1, .int v1)]) [.ref (ad 0), .int v1] (by decide) hD rfl (Nat.le_of_ble_eq_true rfl) ?_
  intro p e s m args below meth c X hr hl
  unfold mX9_isThing at h
  refine x_aload_n (pc := 0) X dX9_isThing_0 rfl 0 rfl ?_
  obtain ⟨σ1, hq1, h⟩ := xb1_some h
  refine x_callvV (pc := 1) (As := []) (rest := []) X (kX9_reads l X.2.2.2.2.2.2.2 F _ _ hq1) kvX9_127 rfl (qX9) ⟨rfl, rfl, Nat.le_of_ble_eq_true rfl, Nat.le_of_ble_eq_true rfl⟩ rfl rfl (Nat.le_of_ble_eq_true rfl) dX9_isThing_1 ?_
  refine x_iload_n (pc := 4) X dX9_isThing_4 rfl 1 rfl ?_
  refine x_iconst (pc := 5) (v := 0) X dX9_isThing_5 (by decide) ?_
  refine x_aload_n (pc := 6) X dX9_isThing_6 rfl 0 rfl ?_
  refine gX9_109 (pc := 7) X dX9_isThing_7 ?_
  refine x_iconst (pc := 10) (v := 1) X dX9_isThing_10 (by decide) ?_
  refine x_isub (pc := 11) X dX9_isThing_11 ?_
  obtain ⟨r12, σ12, hq12, h⟩ := xb2_some h
  refine x_calliS (pc := 12) (As := [.int v1, .int 0, .int ((xI σ1 2) - 1)]) (rest := []) X (kX9_in l X.2.2.2.2.2.2.2 F _ _ _ _ _ _ hq12) kvX9_97 ⟨rfl, rfl, Nat.le_of_ble_eq_true rfl, Nat.le_of_ble_eq_true rfl⟩ rfl rfl (Nat.le_of_ble_eq_true rfl) dX9_isThing_12 ?_
  obtain ⟨hb15, h⟩ := xck_some h
  exact x_zret (pc := 15) X hr hl hb15 h dX9_isThing_15
set_option maxRecDepth 100000 in
set_option maxHeartbeats 4000000 in
theorem kX9_isPerson (l : Launch) {D : va_G} {A : Nat → Prop} {ad : Nat → Nat} {cI cX : ClassId} (hD : ∀ σ, va_D A ((wM ad cI cX) σ)) (F : Nat) (v1 : Int32) (σ : xSt) (r : Int32) (σ' : xSt) (h : mX9_isPerson F v1 σ = some (r, σ')) : xM l yX9_isPerson cX9_isPerson 2 (some .boolean) ({ frames := 5, cells := 0, slots := 0, locals := 117 }) D (tyM cI cX) A (wM ad cI cX) [.ref (ad 0), .int v1] σ (xQi D A (wM ad cI cX) r σ') := by
  refine xM_of (lv := [(0, .ref (ad 0)), (1, .int v1)]) [.ref (ad 0), .int v1] (by decide) hD rfl (Nat.le_of_ble_eq_true rfl) ?_
  intro p e s m args below meth c X hr hl
  unfold mX9_isPerson at h
  refine x_aload_n (pc := 0) X dX9_isPerson_0 rfl 0 rfl ?_
  obtain ⟨σ1, hq1, h⟩ := xb1_some h
  refine x_callvV (pc := 1) (As := []) (rest := []) X (kX9_reads l X.2.2.2.2.2.2.2 F _ _ hq1) kvX9_127 rfl (qX9) ⟨rfl, rfl, Nat.le_of_ble_eq_true rfl, Nat.le_of_ble_eq_true rfl⟩ rfl rfl (Nat.le_of_ble_eq_true rfl) dX9_isPerson_1 ?_
  refine x_iload_n (pc := 4) X dX9_isPerson_4 rfl 1 rfl ?_
  refine x_iconst (pc := 5) (v := 0) X dX9_isPerson_5 (by decide) ?_
  refine x_aload_n (pc := 6) X dX9_isPerson_6 rfl 0 rfl ?_
  refine gX9_113 (pc := 7) X dX9_isPerson_7 ?_
  refine x_iconst (pc := 10) (v := 1) X dX9_isPerson_10 (by decide) ?_
  refine x_isub (pc := 11) X dX9_isPerson_11 ?_
  obtain ⟨r12, σ12, hq12, h⟩ := xb2_some h
  refine x_calliS (pc := 12) (As := [.int v1, .int 0, .int ((xI σ1 6) - 1)]) (rest := []) X (kX9_in l X.2.2.2.2.2.2.2 F _ _ _ _ _ _ hq12) kvX9_97 ⟨rfl, rfl, Nat.le_of_ble_eq_true rfl, Nat.le_of_ble_eq_true rfl⟩ rfl rfl (Nat.le_of_ble_eq_true rfl) dX9_isPerson_12 ?_
  obtain ⟨hb15, h⟩ := xck_some h
  exact x_zret (pc := 15) X hr hl hb15 h dX9_isPerson_15
set_option maxRecDepth 100000 in
set_option maxHeartbeats 4000000 in
theorem wX9_thing_L55 {p : Program} {l : Launch} {e : Env} {s : State} {m : MethodId} {args : Array Value} {below : List Frame} {meth : Method} {c : Code} {D : va_G} {A : Nat → Prop} {ad : Nat → Nat} {cI cX : ClassId} {r : Int32} {σ' : xSt} (X : xX p s m args c cX9_thing 3 RX9 D (tyM cI cX) A (wM ad cI cX)) (hr : meth.sig.returnType = (some .int)) (hl : meth.locks = false) (F : Nat) (t0 : Int32) (σ : xSt) (h : mX9_thing_L55 F t0 σ = some (r, σ')) : xG p l e ({ frames := 6, cells := 0, slots := 0, locals := 138 }) s m args below meth c (MQ below (xQi D A (wM ad cI cX) r σ') args s 0 0 A) 3 D A (wM ad cI cX) σ 55 [] [.int t0] := by
  unfold mX9_thing_L55 at h
  exact x_iret (pc := 55) X hr hl h dX9_thing_55
set_option maxRecDepth 100000 in
set_option maxHeartbeats 4000000 in
theorem wX9_thing_L53 {p : Program} {l : Launch} {e : Env} {s : State} {m : MethodId} {args : Array Value} {below : List Frame} {meth : Method} {c : Code} {D : va_G} {A : Nat → Prop} {ad : Nat → Nat} {cI cX : ClassId} {r : Int32} {σ' : xSt} (X : xX p s m args c cX9_thing 3 RX9 D (tyM cI cX) A (wM ad cI cX)) (hr : meth.sig.returnType = (some .int)) (hl : meth.locks = false) (F : Nat) (σ : xSt) (h : mX9_thing_L53 F σ = some (r, σ')) : xG p l e ({ frames := 6, cells := 0, slots := 0, locals := 138 }) s m args below meth c (MQ below (xQi D A (wM ad cI cX) r σ') args s 0 0 A) 3 D A (wM ad cI cX) σ 53 [] [] := by
  unfold mX9_thing_L53 at h
  refine x_bipush (pc := 53) (v := (-2)) X dX9_thing_53 (by decide) ?_
  refine x_sub [] rfl ?_
  exact wX9_thing_L55 X hr hl F _ _ h
set_option maxRecDepth 100000 in
set_option maxHeartbeats 4000000 in
theorem kX9_thing (l : Launch) {D : va_G} {A : Nat → Prop} {ad : Nat → Nat} {cI cX : ClassId} (hD : ∀ σ, va_D A ((wM ad cI cX) σ)) (F : Nat) (v1 : Int32) (v2 : Int32) (σ : xSt) (r : Int32) (σ' : xSt) (h : mX9_thing F v1 v2 σ = some (r, σ')) : xM l yX9_thing cX9_thing 3 (some .int) ({ frames := 6, cells := 0, slots := 0, locals := 138 }) D (tyM cI cX) A (wM ad cI cX) [.ref (ad 0), .int v1, .int v2] σ (xQi D A (wM ad cI cX) r σ') := by
  refine xM_of (lv := [(0, .ref (ad 0)), (1, .int v1), (2, .int v2)]) [.ref (ad 0), .int v1, .int v2] (by decide) hD rfl (Nat.le_of_ble_eq_true rfl) ?_
  intro p e s m args below meth c X hr hl
  unfold mX9_thing at h
  refine x_aload_n (pc := 0) X dX9_thing_0 rfl 0 rfl ?_
  refine x_iload_n (pc := 1) X dX9_thing_1 rfl 1 rfl ?_
  obtain ⟨r2, σ2, hq2, h⟩ := xb2_some h
  refine x_calliV (pc := 2) (As := [.int v1]) (rest := []) X (kX9_isThing l X.2.2.2.2.2.2.2 F _ _ _ _ hq2) kvX9_130 rfl (qX9) ⟨rfl, rfl, Nat.le_of_ble_eq_true rfl, Nat.le_of_ble_eq_true rfl⟩ rfl rfl (Nat.le_of_ble_eq_true rfl) dX9_thing_2 ?_
  refine x_if_eq (pc := 5) X 53 dX9_thing_5 (by decide) (fun hc => ?_) (fun hc => ?_)
  · have h := xit hc h
    refine x_sub [] rfl ?_
    exact wX9_thing_L53 X hr hl F _ h
  · have h := xif hc h
    refine x_iload_n (pc := 8) X dX9_thing_8 rfl 2 rfl ?_
    refine x_iconst (pc := 9) (v := 0) X dX9_thing_9 (by decide) ?_
    refine x_iconst (pc := 10) (v := 2) X dX9_thing_10 (by decide) ?_
    obtain ⟨r11, σ11, hq11, h⟩ := xb2_some h
    refine x_calliS (pc := 11) (As := [.int v2, .int 0, .int 2]) (rest := []) X (kX9_in l X.2.2.2.2.2.2.2 F _ _ _ _ _ _ hq11) kvX9_97 ⟨rfl, rfl, Nat.le_of_ble_eq_true rfl, Nat.le_of_ble_eq_true rfl⟩ rfl rfl (Nat.le_of_ble_eq_true rfl) dX9_thing_11 ?_
    refine x_if_eq (pc := 14) X 53 dX9_thing_14 (by decide) (fun hc => ?_) (fun hc => ?_)
    · have h := xit hc h
      refine x_sub [] rfl ?_
      exact wX9_thing_L53 X hr hl F _ h
    · have h := xif hc h
      refine x_iload_n (pc := 17) X dX9_thing_17 rfl 2 rfl ?_
      refine x_if_ne (pc := 18) X 30 dX9_thing_18 (by decide) (fun hc => ?_) (fun hc => ?_)
      · have h := xif hc h
        refine x_iload_n (pc := 30) X dX9_thing_30 rfl 2 rfl ?_
        refine x_iconst (pc := 31) (v := 1) X dX9_thing_31 (by decide) ?_
        refine x_icmp_ne (pc := 32) X 44 dX9_thing_32 (by decide) (fun hc => ?_) (fun hc => ?_)
        · have h := xif hc h
          refine x_aload_n (pc := 44) X dX9_thing_44 rfl 0 rfl ?_
          refine gX9_22 (pc := 45) X dX9_thing_45 ?_
          refine x_iload_n (pc := 48) X dX9_thing_48 rfl 1 rfl ?_
          obtain ⟨hb49, h⟩ := xck_some h
          refine x_iald (pc := 49) X 5 0 (qaX9_unders) rfl hb49 dX9_thing_49 ?_
          refine x_goto (pc := 50) X 55 dX9_thing_50 (by decide) ?_
          refine x_sub [] rfl ?_
          exact wX9_thing_L55 X hr hl F _ _ h
        · have h := xit hc h
          refine x_aload_n (pc := 35) X dX9_thing_35 rfl 0 rfl ?_
          refine gX9_19 (pc := 36) X dX9_thing_36 ?_
          refine x_iload_n (pc := 39) X dX9_thing_39 rfl 1 rfl ?_
          obtain ⟨hb40, h⟩ := xck_some h
          refine x_iald (pc := 40) X 4 0 (qaX9_noses) rfl hb40 dX9_thing_40 ?_
          refine x_goto (pc := 41) X 55 dX9_thing_41 (by decide) ?_
          refine x_sub [] rfl ?_
          exact wX9_thing_L55 X hr hl F _ _ h
      · have h := xit hc h
        refine x_aload_n (pc := 21) X dX9_thing_21 rfl 0 rfl ?_
        refine gX9_16 (pc := 22) X dX9_thing_22 ?_
        refine x_iload_n (pc := 25) X dX9_thing_25 rfl 1 rfl ?_
        obtain ⟨hb26, h⟩ := xck_some h
        refine x_iald (pc := 26) X 3 0 (qaX9_keeps) rfl hb26 dX9_thing_26 ?_
        refine x_goto (pc := 27) X 55 dX9_thing_27 (by decide) ?_
        refine x_sub [] rfl ?_
        exact wX9_thing_L55 X hr hl F _ _ h
set_option maxRecDepth 100000 in
set_option maxHeartbeats 4000000 in
theorem wX9_smellOf_L29 {p : Program} {l : Launch} {e : Env} {s : State} {m : MethodId} {args : Array Value} {below : List Frame} {meth : Method} {c : Code} {D : va_G} {A : Nat → Prop} {ad : Nat → Nat} {cI cX : ClassId} {r : Int32} {σ' : xSt} (X : xX p s m args c cX9_smellOf 2 RX9 D (tyM cI cX) A (wM ad cI cX)) (hr : meth.sig.returnType = (some .int)) (hl : meth.locks = false) (F : Nat) (t0 : Int32) (σ : xSt) (h : mX9_smellOf_L29 F t0 σ = some (r, σ')) : xG p l e ({ frames := 1, cells := 0, slots := 0, locals := 22 }) s m args below meth c (MQ below (xQi D A (wM ad cI cX) r σ') args s 0 0 A) 2 D A (wM ad cI cX) σ 29 [] [.int t0] := by
  unfold mX9_smellOf_L29 at h
  exact x_iret (pc := 29) X hr hl h dX9_smellOf_29
set_option maxRecDepth 100000 in
set_option maxHeartbeats 4000000 in
theorem kX9_smellOf (l : Launch) {D : va_G} {A : Nat → Prop} {ad : Nat → Nat} {cI cX : ClassId} (hD : ∀ σ, va_D A ((wM ad cI cX) σ)) (F : Nat) (v1 : Int32) (σ : xSt) (r : Int32) (σ' : xSt) (h : mX9_smellOf F v1 σ = some (r, σ')) : xM l yX9_smellOf cX9_smellOf 2 (some .int) ({ frames := 1, cells := 0, slots := 0, locals := 22 }) D (tyM cI cX) A (wM ad cI cX) [.ref (ad 0), .int v1] σ (xQi D A (wM ad cI cX) r σ') := by
  refine xM_of (lv := [(0, .ref (ad 0)), (1, .int v1)]) [.ref (ad 0), .int v1] (by decide) hD rfl (Nat.le_of_ble_eq_true rfl) ?_
  intro p e s m args below meth c X hr hl
  unfold mX9_smellOf at h
  refine x_aload_n (pc := 0) X dX9_smellOf_0 rfl 0 rfl ?_
  refine gX9_31 (pc := 1) X dX9_smellOf_1 ?_
  refine x_iload_n (pc := 4) X dX9_smellOf_4 rfl 1 rfl ?_
  obtain ⟨hb5, h⟩ := xck_some h
  refine x_iald (pc := 5) X 8 0 (qaX9_soaps) rfl hb5 dX9_smellOf_5 ?_
  refine x_iconst (pc := 6) (v := 0) X dX9_smellOf_6 (by decide) ?_
  refine x_aload_n (pc := 7) X dX9_smellOf_7 rfl 0 rfl ?_
  refine gX9_113 (pc := 8) X dX9_smellOf_8 ?_
  refine x_iconst (pc := 11) (v := 1) X dX9_smellOf_11 (by decide) ?_
  refine x_isub (pc := 12) X dX9_smellOf_12 ?_
  obtain ⟨r13, σ13, hq13, h⟩ := xb2_some h
  refine x_calliS (pc := 13) (As := [.int (xA σ 9 (Int32.toNatClampNeg v1)), .int 0, .int ((xI σ 6) - 1)]) (rest := []) X (kX9_in l X.2.2.2.2.2.2.2 F _ _ _ _ _ _ hq13) kvX9_97 ⟨rfl, rfl, Nat.le_of_ble_eq_true rfl, Nat.le_of_ble_eq_true rfl⟩ rfl rfl (Nat.le_of_ble_eq_true rfl) dX9_smellOf_13 ?_
  refine x_if_eq (pc := 16) X 28 dX9_smellOf_16 (by decide) (fun hc => ?_) (fun hc => ?_)
  · have h := xit hc h
    refine x_iload_n (pc := 28) X dX9_smellOf_28 rfl 1 rfl ?_
    refine x_sub [] rfl ?_
    exact wX9_smellOf_L29 X hr hl F _ _ h
  · have h := xif hc h
    refine x_aload_n (pc := 19) X dX9_smellOf_19 rfl 0 rfl ?_
    refine gX9_31 (pc := 20) X dX9_smellOf_20 ?_
    refine x_iload_n (pc := 23) X dX9_smellOf_23 rfl 1 rfl ?_
    obtain ⟨hb24, h⟩ := xck_some h
    refine x_iald (pc := 24) X 8 0 (qaX9_soaps) rfl hb24 dX9_smellOf_24 ?_
    refine x_goto (pc := 25) X 29 dX9_smellOf_25 (by decide) ?_
    refine x_sub [] rfl ?_
    exact wX9_smellOf_L29 X hr hl F _ _ h
set_option maxRecDepth 100000 in
set_option maxHeartbeats 4000000 in
theorem wX9_personOf_L32 {p : Program} {l : Launch} {e : Env} {s : State} {m : MethodId} {args : Array Value} {below : List Frame} {meth : Method} {c : Code} {D : va_G} {A : Nat → Prop} {ad : Nat → Nat} {cI cX : ClassId} {r : Int32} {σ' : xSt} (X : xX p s m args c cX9_personOf 3 RX9 D (tyM cI cX) A (wM ad cI cX)) (hr : meth.sig.returnType = (some .int)) (hl : meth.locks = false) (F : Nat) (t0 : Int32) (σ : xSt) (h : mX9_personOf_L32 F t0 σ = some (r, σ')) : xG p l e ({ frames := 2, cells := 0, slots := 0, locals := 43 }) s m args below meth c (MQ below (xQi D A (wM ad cI cX) r σ') args s 0 0 A) 3 D A (wM ad cI cX) σ 32 [] [.int t0] := by
  unfold mX9_personOf_L32 at h
  exact x_iret (pc := 32) X hr hl h dX9_personOf_32
set_option maxRecDepth 100000 in
set_option maxHeartbeats 4000000 in
theorem kX9_personOf (l : Launch) {D : va_G} {A : Nat → Prop} {ad : Nat → Nat} {cI cX : ClassId} (hD : ∀ σ, va_D A ((wM ad cI cX) σ)) (F : Nat) (v1 : Int32) (v2 : Int32) (σ : xSt) (r : Int32) (σ' : xSt) (h : mX9_personOf F v1 v2 σ = some (r, σ')) : xM l yX9_personOf cX9_personOf 3 (some .int) ({ frames := 2, cells := 0, slots := 0, locals := 43 }) D (tyM cI cX) A (wM ad cI cX) [.ref (ad 0), .int v1, .int v2] σ (xQi D A (wM ad cI cX) r σ') := by
  refine xM_of (lv := [(0, .ref (ad 0)), (1, .int v1), (2, .int v2)]) [.ref (ad 0), .int v1, .int v2] (by decide) hD rfl (Nat.le_of_ble_eq_true rfl) ?_
  intro p e s m args below meth c X hr hl
  unfold mX9_personOf at h
  refine x_iload_n (pc := 0) X dX9_personOf_0 rfl 2 rfl ?_
  refine x_if_ne (pc := 1) X 13 dX9_personOf_1 (by decide) (fun hc => ?_) (fun hc => ?_)
  · have h := xif hc h
    refine x_iload_n (pc := 13) X dX9_personOf_13 rfl 2 rfl ?_
    refine x_iconst (pc := 14) (v := 1) X dX9_personOf_14 (by decide) ?_
    refine x_icmp_ne (pc := 15) X 27 dX9_personOf_15 (by decide) (fun hc => ?_) (fun hc => ?_)
    · have h := xif hc h
      refine x_aload_n (pc := 27) X dX9_personOf_27 rfl 0 rfl ?_
      refine x_iload_n (pc := 28) X dX9_personOf_28 rfl 1 rfl ?_
      obtain ⟨r29, σ29, hq29, h⟩ := xb2_some h
      refine x_calliV (pc := 29) (As := [.int v1]) (rest := []) X (kX9_smellOf l X.2.2.2.2.2.2.2 F _ _ _ _ hq29) kvX9_133 rfl (qX9) ⟨rfl, rfl, Nat.le_of_ble_eq_true rfl, Nat.le_of_ble_eq_true rfl⟩ rfl rfl (Nat.le_of_ble_eq_true rfl) dX9_personOf_29 ?_
      refine x_sub [] rfl ?_
      exact wX9_personOf_L32 X hr hl F _ _ h
    · have h := xit hc h
      refine x_aload_n (pc := 18) X dX9_personOf_18 rfl 0 rfl ?_
      refine gX9_28 (pc := 19) X dX9_personOf_19 ?_
      refine x_iload_n (pc := 22) X dX9_personOf_22 rfl 1 rfl ?_
      obtain ⟨hb23, h⟩ := xck_some h
      refine x_iald (pc := 23) X 7 0 (qaX9_fasts) rfl hb23 dX9_personOf_23 ?_
      refine x_goto (pc := 24) X 32 dX9_personOf_24 (by decide) ?_
      refine x_sub [] rfl ?_
      exact wX9_personOf_L32 X hr hl F _ _ h
  · have h := xit hc h
    refine x_aload_n (pc := 4) X dX9_personOf_4 rfl 0 rfl ?_
    refine gX9_25 (pc := 5) X dX9_personOf_5 ?_
    refine x_iload_n (pc := 8) X dX9_personOf_8 rfl 1 rfl ?_
    obtain ⟨hb9, h⟩ := xck_some h
    refine x_iald (pc := 9) X 6 0 (qaX9_strongs) rfl hb9 dX9_personOf_9 ?_
    refine x_goto (pc := 10) X 32 dX9_personOf_10 (by decide) ?_
    refine x_sub [] rfl ?_
    exact wX9_personOf_L32 X hr hl F _ _ h
set_option maxRecDepth 100000 in
set_option maxHeartbeats 4000000 in
theorem wX9_person_L28 {p : Program} {l : Launch} {e : Env} {s : State} {m : MethodId} {args : Array Value} {below : List Frame} {meth : Method} {c : Code} {D : va_G} {A : Nat → Prop} {ad : Nat → Nat} {cI cX : ClassId} {r : Int32} {σ' : xSt} (X : xX p s m args c cX9_person 3 RX9 D (tyM cI cX) A (wM ad cI cX)) (hr : meth.sig.returnType = (some .int)) (hl : meth.locks = false) (F : Nat) (t0 : Int32) (σ : xSt) (h : mX9_person_L28 F t0 σ = some (r, σ')) : xG p l e ({ frames := 6, cells := 0, slots := 0, locals := 138 }) s m args below meth c (MQ below (xQi D A (wM ad cI cX) r σ') args s 0 0 A) 3 D A (wM ad cI cX) σ 28 [] [.int t0] := by
  unfold mX9_person_L28 at h
  exact x_iret (pc := 28) X hr hl h dX9_person_28
set_option maxRecDepth 100000 in
set_option maxHeartbeats 4000000 in
theorem wX9_person_L26 {p : Program} {l : Launch} {e : Env} {s : State} {m : MethodId} {args : Array Value} {below : List Frame} {meth : Method} {c : Code} {D : va_G} {A : Nat → Prop} {ad : Nat → Nat} {cI cX : ClassId} {r : Int32} {σ' : xSt} (X : xX p s m args c cX9_person 3 RX9 D (tyM cI cX) A (wM ad cI cX)) (hr : meth.sig.returnType = (some .int)) (hl : meth.locks = false) (F : Nat) (σ : xSt) (h : mX9_person_L26 F σ = some (r, σ')) : xG p l e ({ frames := 6, cells := 0, slots := 0, locals := 138 }) s m args below meth c (MQ below (xQi D A (wM ad cI cX) r σ') args s 0 0 A) 3 D A (wM ad cI cX) σ 26 [] [] := by
  unfold mX9_person_L26 at h
  refine x_bipush (pc := 26) (v := (-2)) X dX9_person_26 (by decide) ?_
  refine x_sub [] rfl ?_
  exact wX9_person_L28 X hr hl F _ _ h
set_option maxRecDepth 100000 in
set_option maxHeartbeats 4000000 in
theorem kX9_person (l : Launch) {D : va_G} {A : Nat → Prop} {ad : Nat → Nat} {cI cX : ClassId} (hD : ∀ σ, va_D A ((wM ad cI cX) σ)) (F : Nat) (v1 : Int32) (v2 : Int32) (σ : xSt) (r : Int32) (σ' : xSt) (h : mX9_person F v1 v2 σ = some (r, σ')) : xM l yX9_person cX9_person 3 (some .int) ({ frames := 6, cells := 0, slots := 0, locals := 138 }) D (tyM cI cX) A (wM ad cI cX) [.ref (ad 0), .int v1, .int v2] σ (xQi D A (wM ad cI cX) r σ') := by
  refine xM_of (lv := [(0, .ref (ad 0)), (1, .int v1), (2, .int v2)]) [.ref (ad 0), .int v1, .int v2] (by decide) hD rfl (Nat.le_of_ble_eq_true rfl) ?_
  intro p e s m args below meth c X hr hl
  unfold mX9_person at h
  refine x_aload_n (pc := 0) X dX9_person_0 rfl 0 rfl ?_
  refine x_iload_n (pc := 1) X dX9_person_1 rfl 1 rfl ?_
  obtain ⟨r2, σ2, hq2, h⟩ := xb2_some h
  refine x_calliV (pc := 2) (As := [.int v1]) (rest := []) X (kX9_isPerson l X.2.2.2.2.2.2.2 F _ _ _ _ hq2) kvX9_136 rfl (qX9) ⟨rfl, rfl, Nat.le_of_ble_eq_true rfl, Nat.le_of_ble_eq_true rfl⟩ rfl rfl (Nat.le_of_ble_eq_true rfl) dX9_person_2 ?_
  refine x_if_eq (pc := 5) X 26 dX9_person_5 (by decide) (fun hc => ?_) (fun hc => ?_)
  · have h := xit hc h
    refine x_sub [] rfl ?_
    exact wX9_person_L26 X hr hl F _ h
  · have h := xif hc h
    refine x_iload_n (pc := 8) X dX9_person_8 rfl 2 rfl ?_
    refine x_iconst (pc := 9) (v := 0) X dX9_person_9 (by decide) ?_
    refine x_iconst (pc := 10) (v := 2) X dX9_person_10 (by decide) ?_
    obtain ⟨r11, σ11, hq11, h⟩ := xb2_some h
    refine x_calliS (pc := 11) (As := [.int v2, .int 0, .int 2]) (rest := []) X (kX9_in l X.2.2.2.2.2.2.2 F _ _ _ _ _ _ hq11) kvX9_97 ⟨rfl, rfl, Nat.le_of_ble_eq_true rfl, Nat.le_of_ble_eq_true rfl⟩ rfl rfl (Nat.le_of_ble_eq_true rfl) dX9_person_11 ?_
    refine x_if_eq (pc := 14) X 26 dX9_person_14 (by decide) (fun hc => ?_) (fun hc => ?_)
    · have h := xit hc h
      refine x_sub [] rfl ?_
      exact wX9_person_L26 X hr hl F _ h
    · have h := xif hc h
      refine x_aload_n (pc := 17) X dX9_person_17 rfl 0 rfl ?_
      refine x_iload_n (pc := 18) X dX9_person_18 rfl 1 rfl ?_
      refine x_iload_n (pc := 19) X dX9_person_19 rfl 2 rfl ?_
      obtain ⟨r20, σ20, hq20, h⟩ := xb2_some h
      refine x_calliV (pc := 20) (As := [.int v1, .int v2]) (rest := []) X (kX9_personOf l X.2.2.2.2.2.2.2 F _ _ _ _ _ hq20) kvX9_139 rfl (qX9) ⟨rfl, rfl, Nat.le_of_ble_eq_true rfl, Nat.le_of_ble_eq_true rfl⟩ rfl rfl (Nat.le_of_ble_eq_true rfl) dX9_person_20 ?_
      refine x_goto (pc := 23) X 28 dX9_person_23 (by decide) ?_
      refine x_sub [] rfl ?_
      exact wX9_person_L28 X hr hl F _ _ h
set_option maxRecDepth 100000 in
set_option maxHeartbeats 4000000 in
theorem kX9_laysSit (l : Launch) {D : va_G} {A : Nat → Prop} {ad : Nat → Nat} {cI cX : ClassId} (hD : ∀ σ, va_D A ((wM ad cI cX) σ)) (F : Nat) (v1 : Int32) (v2 : Int32) (v3 : Int32) (v4 : Int32) (σ : xSt) (σ' : xSt) (h : mX9_laysSit F v1 v2 v3 v4 σ = some σ') : xM l yX9_laysSit cX9_laysSit 5 none ({ frames := 0, cells := 0, slots := 0, locals := 0 }) D (tyM cI cX) A (wM ad cI cX) [.ref (ad 0), .int v1, .int v2, .int v3, .int v4] σ (xQv D A (wM ad cI cX) σ') := by
  refine xM_of (lv := [(0, .ref (ad 0)), (1, .int v1), (2, .int v2), (3, .int v3), (4, .int v4)]) [.ref (ad 0), .int v1, .int v2, .int v3, .int v4] (by decide) hD rfl (Nat.le_of_ble_eq_true rfl) ?_
  intro p e s m args below meth c X hr hl
  unfold mX9_laysSit at h
  refine x_aload_n (pc := 0) X dX9_laysSit_0 rfl 0 rfl ?_
  refine gX9_34 (pc := 1) X dX9_laysSit_1 ?_
  refine x_iload_n (pc := 4) X dX9_laysSit_4 rfl 1 rfl ?_
  refine x_iload_n (pc := 5) X dX9_laysSit_5 rfl 2 rfl ?_
  obtain ⟨hb6, h⟩ := xck_some h
  refine x_iast (pc := 6) (σ' := (xsA σ 11 (Int32.toNatClampNeg v1) v2)) X 9 0 (qaX9_sitHour) rfl (saX9_sitHour _) hb6 dX9_laysSit_6 ?_
  refine x_aload_n (pc := 7) X dX9_laysSit_7 rfl 0 rfl ?_
  refine gX9_37 (pc := 8) X dX9_laysSit_8 ?_
  refine x_iload_n (pc := 11) X dX9_laysSit_11 rfl 1 rfl ?_
  refine x_iload_n (pc := 12) X dX9_laysSit_12 rfl 3 rfl ?_
  obtain ⟨hb13, h⟩ := xck_some h
  refine x_iast (pc := 13) (σ' := (xsA (xsA σ 11 (Int32.toNatClampNeg v1) v2) 12 (Int32.toNatClampNeg v1) v3)) X 10 0 (qaX9_sitPerson) rfl (saX9_sitPerson _) hb13 dX9_laysSit_13 ?_
  refine x_aload_n (pc := 14) X dX9_laysSit_14 rfl 0 rfl ?_
  refine gX9_40 (pc := 15) X dX9_laysSit_15 ?_
  refine x_iload_n (pc := 18) X dX9_laysSit_18 rfl 1 rfl ?_
  refine x_iload (pc := 19) X dX9_laysSit_19 4 rfl ?_
  obtain ⟨hb21, h⟩ := xck_some h
  refine x_iast (pc := 21) (σ' := (xsA (xsA (xsA σ 11 (Int32.toNatClampNeg v1) v2) 12 (Int32.toNatClampNeg v1) v3) 13 (Int32.toNatClampNeg v1) v4)) X 11 0 (qaX9_sitThing) rfl (saX9_sitThing _) hb21 dX9_laysSit_21 ?_
  exact x_vret (pc := 22) X hr hl h dX9_laysSit_22
set_option maxRecDepth 100000 in
set_option maxHeartbeats 4000000 in
theorem wX9_sit_L21 {p : Program} {l : Launch} {e : Env} {s : State} {m : MethodId} {args : Array Value} {below : List Frame} {meth : Method} {c : Code} {D : va_G} {A : Nat → Prop} {ad : Nat → Nat} {cI cX : ClassId} {r : Int32} {σ' : xSt} (X : xX p s m args c cX9_sit 4 RX9 D (tyM cI cX) A (wM ad cI cX)) (hr : meth.sig.returnType = (some .int)) (hl : meth.locks = false) (F : Nat) (σ : xSt) (h : mX9_sit_L21 F σ = some (r, σ')) : xG p l e ({ frames := 2, cells := 0, slots := 0, locals := 42 }) s m args below meth c (MQ below (xQi D A (wM ad cI cX) r σ') args s 0 0 A) 4 D A (wM ad cI cX) σ 21 [] [] := by
  unfold mX9_sit_L21 at h
  refine x_bipush (pc := 21) (v := (-2)) X dX9_sit_21 (by decide) ?_
  exact x_iret (pc := 23) X hr hl h dX9_sit_23
set_option maxRecDepth 100000 in
set_option maxHeartbeats 4000000 in
theorem kX9_sit (l : Launch) {D : va_G} {A : Nat → Prop} {ad : Nat → Nat} {cI cX : ClassId} (hD : ∀ σ, va_D A ((wM ad cI cX) σ)) (F : Nat) (v1 : Int32) (v2 : Int32) (v3 : Int32) (σ : xSt) (r : Int32) (σ' : xSt) (h : mX9_sit F v1 v2 v3 σ = some (r, σ')) : xM l yX9_sit cX9_sit 4 (some .int) ({ frames := 2, cells := 0, slots := 0, locals := 42 }) D (tyM cI cX) A (wM ad cI cX) [.ref (ad 0), .int v1, .int v2, .int v3] σ (xQi D A (wM ad cI cX) r σ') := by
  refine xM_of (lv := [(0, .ref (ad 0)), (1, .int v1), (2, .int v2), (3, .int v3)]) [.ref (ad 0), .int v1, .int v2, .int v3] (by decide) hD rfl (Nat.le_of_ble_eq_true rfl) ?_
  intro p e s m args below meth c X hr hl
  unfold mX9_sit at h
  refine x_iload_n (pc := 0) X dX9_sit_0 rfl 1 rfl ?_
  obtain ⟨r1, σ1, hq1, h⟩ := xb2_some h
  refine x_calliS (pc := 1) (As := [.int v1]) (rest := []) X (kX9_isHour l X.2.2.2.2.2.2.2 F _ _ _ _ hq1) kvX9_142 ⟨rfl, rfl, Nat.le_of_ble_eq_true rfl, Nat.le_of_ble_eq_true rfl⟩ rfl rfl (Nat.le_of_ble_eq_true rfl) dX9_sit_1 ?_
  refine x_if_eq (pc := 4) X 21 dX9_sit_4 (by decide) (fun hc => ?_) (fun hc => ?_)
  · have h := xit hc h
    refine x_sub [] rfl ?_
    exact wX9_sit_L21 X hr hl F _ h
  · have h := xif hc h
    refine x_iload_n (pc := 7) X dX9_sit_7 rfl 2 rfl ?_
    obtain ⟨r8, σ8, hq8, h⟩ := xb2_some h
    refine x_calliS (pc := 8) (As := [.int v2]) (rest := []) X (kX9_isEight l X.2.2.2.2.2.2.2 F _ _ _ _ hq8) kvX9_145 ⟨rfl, rfl, Nat.le_of_ble_eq_true rfl, Nat.le_of_ble_eq_true rfl⟩ rfl rfl (Nat.le_of_ble_eq_true rfl) dX9_sit_8 ?_
    refine x_if_eq (pc := 11) X 21 dX9_sit_11 (by decide) (fun hc => ?_) (fun hc => ?_)
    · have h := xit hc h
      refine x_sub [] rfl ?_
      exact wX9_sit_L21 X hr hl F _ h
    · have h := xif hc h
      refine x_iload_n (pc := 14) X dX9_sit_14 rfl 3 rfl ?_
      obtain ⟨r15, σ15, hq15, h⟩ := xb2_some h
      refine x_calliS (pc := 15) (As := [.int v3]) (rest := []) X (kX9_isSix l X.2.2.2.2.2.2.2 F _ _ _ _ hq15) kvX9_148 ⟨rfl, rfl, Nat.le_of_ble_eq_true rfl, Nat.le_of_ble_eq_true rfl⟩ rfl rfl (Nat.le_of_ble_eq_true rfl) dX9_sit_15 ?_
      refine x_if_ne (pc := 18) X 24 dX9_sit_18 (by decide) (fun hc => ?_) (fun hc => ?_)
      · have h := xif hc h
        refine x_aload_n (pc := 24) X dX9_sit_24 rfl 0 rfl ?_
        refine gX9_151 (pc := 25) X dX9_sit_25 ?_
        refine x_bipush (pc := 28) (v := 20) X dX9_sit_28 (by decide) ?_
        refine x_icmp_ne (pc := 30) X 36 dX9_sit_30 (by decide) (fun hc => ?_) (fun hc => ?_)
        · have h := xif hc h
          refine x_aload_n (pc := 36) X dX9_sit_36 rfl 0 rfl ?_
          refine x_aload_n (pc := 37) X dX9_sit_37 rfl 0 rfl ?_
          refine gX9_151 (pc := 38) X dX9_sit_38 ?_
          refine x_iload_n (pc := 41) X dX9_sit_41 rfl 1 rfl ?_
          refine x_iload_n (pc := 42) X dX9_sit_42 rfl 2 rfl ?_
          refine x_iload_n (pc := 43) X dX9_sit_43 rfl 3 rfl ?_
          obtain ⟨σ44, hq44, h⟩ := xb1_some h
          refine x_callvV (pc := 44) (As := [.int (xI σ15 10), .int v1, .int v2, .int v3]) (rest := []) X (kX9_laysSit l X.2.2.2.2.2.2.2 F _ _ _ _ _ _ hq44) kvX9_154 rfl (qX9) ⟨rfl, rfl, Nat.le_of_ble_eq_true rfl, Nat.le_of_ble_eq_true rfl⟩ rfl rfl (Nat.le_of_ble_eq_true rfl) dX9_sit_44 ?_
          refine x_aload_n (pc := 47) X dX9_sit_47 rfl 0 rfl ?_
          refine x_dup (pc := 48) X dX9_sit_48 rfl ?_
          refine gX9_151 (pc := 49) X dX9_sit_49 ?_
          refine x_iconst (pc := 52) (v := 1) X dX9_sit_52 (by decide) ?_
          refine x_iadd (pc := 53) X dX9_sit_53 ?_
          refine uX9_151 (pc := 54) X dX9_sit_54 ?_
          refine x_aload_n (pc := 57) X dX9_sit_57 rfl 0 rfl ?_
          refine gX9_151 (pc := 58) X dX9_sit_58 ?_
          exact x_iret (pc := 61) X hr hl h dX9_sit_61
        · have h := xit hc h
          refine x_bipush (pc := 33) (v := (-4)) X dX9_sit_33 (by decide) ?_
          exact x_iret (pc := 35) X hr hl h dX9_sit_35
      · have h := xit hc h
        refine x_sub [] rfl ?_
        exact wX9_sit_L21 X hr hl F _ h
set_option maxRecDepth 100000 in
set_option maxHeartbeats 4000000 in
theorem wX9_window_L14 {p : Program} {l : Launch} {e : Env} {s : State} {m : MethodId} {args : Array Value} {below : List Frame} {meth : Method} {c : Code} {D : va_G} {A : Nat → Prop} {ad : Nat → Nat} {cI cX : ClassId} {r : Int32} {σ' : xSt} (X : xX p s m args c cX9_window 3 RX9 D (tyM cI cX) A (wM ad cI cX)) (hr : meth.sig.returnType = (some .int)) (hl : meth.locks = false) (F : Nat) (σ : xSt) (h : mX9_window_L14 F σ = some (r, σ')) : xG p l e ({ frames := 2, cells := 0, slots := 0, locals := 42 }) s m args below meth c (MQ below (xQi D A (wM ad cI cX) r σ') args s 0 0 A) 3 D A (wM ad cI cX) σ 14 [] [] := by
  unfold mX9_window_L14 at h
  refine x_bipush (pc := 14) (v := (-2)) X dX9_window_14 (by decide) ?_
  exact x_iret (pc := 16) X hr hl h dX9_window_16
set_option maxRecDepth 100000 in
set_option maxHeartbeats 4000000 in
theorem kX9_window (l : Launch) {D : va_G} {A : Nat → Prop} {ad : Nat → Nat} {cI cX : ClassId} (hD : ∀ σ, va_D A ((wM ad cI cX) σ)) (F : Nat) (v1 : Int32) (v2 : Int32) (σ : xSt) (r : Int32) (σ' : xSt) (h : mX9_window F v1 v2 σ = some (r, σ')) : xM l yX9_window cX9_window 3 (some .int) ({ frames := 2, cells := 0, slots := 0, locals := 42 }) D (tyM cI cX) A (wM ad cI cX) [.ref (ad 0), .int v1, .int v2] σ (xQi D A (wM ad cI cX) r σ') := by
  refine xM_of (lv := [(0, .ref (ad 0)), (1, .int v1), (2, .int v2)]) [.ref (ad 0), .int v1, .int v2] (by decide) hD rfl (Nat.le_of_ble_eq_true rfl) ?_
  intro p e s m args below meth c X hr hl
  unfold mX9_window at h
  refine x_iload_n (pc := 0) X dX9_window_0 rfl 1 rfl ?_
  obtain ⟨r1, σ1, hq1, h⟩ := xb2_some h
  refine x_calliS (pc := 1) (As := [.int v1]) (rest := []) X (kX9_isHour l X.2.2.2.2.2.2.2 F _ _ _ _ hq1) kvX9_142 ⟨rfl, rfl, Nat.le_of_ble_eq_true rfl, Nat.le_of_ble_eq_true rfl⟩ rfl rfl (Nat.le_of_ble_eq_true rfl) dX9_window_1 ?_
  refine x_if_eq (pc := 4) X 14 dX9_window_4 (by decide) (fun hc => ?_) (fun hc => ?_)
  · have h := xit hc h
    refine x_sub [] rfl ?_
    exact wX9_window_L14 X hr hl F _ h
  · have h := xif hc h
    refine x_iload_n (pc := 7) X dX9_window_7 rfl 2 rfl ?_
    obtain ⟨r8, σ8, hq8, h⟩ := xb2_some h
    refine x_calliS (pc := 8) (As := [.int v2]) (rest := []) X (kX9_isSix l X.2.2.2.2.2.2.2 F _ _ _ _ hq8) kvX9_148 ⟨rfl, rfl, Nat.le_of_ble_eq_true rfl, Nat.le_of_ble_eq_true rfl⟩ rfl rfl (Nat.le_of_ble_eq_true rfl) dX9_window_8 ?_
    refine x_if_ne (pc := 11) X 17 dX9_window_11 (by decide) (fun hc => ?_) (fun hc => ?_)
    · have h := xif hc h
      refine x_aload_n (pc := 17) X dX9_window_17 rfl 0 rfl ?_
      refine gX9_158 (pc := 18) X dX9_window_18 ?_
      refine x_bipush (pc := 21) (v := 8) X dX9_window_21 (by decide) ?_
      refine x_icmp_ne (pc := 23) X 29 dX9_window_23 (by decide) (fun hc => ?_) (fun hc => ?_)
      · have h := xif hc h
        refine x_aload_n (pc := 29) X dX9_window_29 rfl 0 rfl ?_
        refine gX9_43 (pc := 30) X dX9_window_30 ?_
        refine x_aload_n (pc := 33) X dX9_window_33 rfl 0 rfl ?_
        refine gX9_158 (pc := 34) X dX9_window_34 ?_
        refine x_iload_n (pc := 37) X dX9_window_37 rfl 1 rfl ?_
        obtain ⟨hb38, h⟩ := xck_some h
        refine x_iast (pc := 38) (σ' := (xsA σ8 15 (Int32.toNatClampNeg (xI σ8 14)) v1)) X 12 0 (qaX9_winHour) rfl (saX9_winHour _) hb38 dX9_window_38 ?_
        refine x_aload_n (pc := 39) X dX9_window_39 rfl 0 rfl ?_
        refine gX9_46 (pc := 40) X dX9_window_40 ?_
        refine x_aload_n (pc := 43) X dX9_window_43 rfl 0 rfl ?_
        refine gX9_158 (pc := 44) X dX9_window_44 ?_
        refine x_iload_n (pc := 47) X dX9_window_47 rfl 2 rfl ?_
        obtain ⟨hb48, h⟩ := xck_some h
        refine x_iast (pc := 48) (σ' := (xsA (xsA σ8 15 (Int32.toNatClampNeg (xI σ8 14)) v1) 16 (Int32.toNatClampNeg (xI (xsA σ8 15 (Int32.toNatClampNeg (xI σ8 14)) v1) 14)) v2)) X 13 0 (qaX9_winThing) rfl (saX9_winThing _) hb48 dX9_window_48 ?_
        refine x_aload_n (pc := 49) X dX9_window_49 rfl 0 rfl ?_
        refine x_dup (pc := 50) X dX9_window_50 rfl ?_
        refine gX9_158 (pc := 51) X dX9_window_51 ?_
        refine x_iconst (pc := 54) (v := 1) X dX9_window_54 (by decide) ?_
        refine x_iadd (pc := 55) X dX9_window_55 ?_
        refine uX9_158 (pc := 56) X dX9_window_56 ?_
        refine x_aload_n (pc := 59) X dX9_window_59 rfl 0 rfl ?_
        refine gX9_158 (pc := 60) X dX9_window_60 ?_
        exact x_iret (pc := 63) X hr hl h dX9_window_63
      · have h := xit hc h
        refine x_bipush (pc := 26) (v := (-4)) X dX9_window_26 (by decide) ?_
        exact x_iret (pc := 28) X hr hl h dX9_window_28
    · have h := xit hc h
      refine x_sub [] rfl ?_
      exact wX9_window_L14 X hr hl F _ h
set_option maxRecDepth 100000 in
set_option maxHeartbeats 4000000 in
theorem wX9_back_L68 {p : Program} {l : Launch} {e : Env} {s : State} {m : MethodId} {args : Array Value} {below : List Frame} {meth : Method} {c : Code} {D : va_G} {A : Nat → Prop} {ad : Nat → Nat} {cI cX : ClassId} {r : Int32} {σ' : xSt} (X : xX p s m args c cX9_back 3 RX9 D (tyM cI cX) A (wM ad cI cX)) (hr : meth.sig.returnType = (some .int)) (hl : meth.locks = false) (F : Nat) (v2 : Int32) (t1 : Int32) (t2 : Int32) (σ : xSt) (h : mX9_back_L68 F v2 t1 t2 σ = some (r, σ')) : xG p l e ({ frames := 1, cells := 0, slots := 0, locals := 22 }) s m args below meth c (MQ below (xQi D A (wM ad cI cX) r σ') args s 0 0 A) 3 D A (wM ad cI cX) σ 68 [(2, .int v2)] [.int t2, .int t1, .ref (ad 0)] := by
  unfold mX9_back_L68 at h
  refine x_isub (pc := 68) X dX9_back_68 ?_
  refine uX9_158 (pc := 69) X dX9_back_69 ?_
  refine x_iload_n (pc := 72) X dX9_back_72 rfl 0 rfl ?_
  refine x_iconst (pc := 73) (v := 1) X dX9_back_73 (by decide) ?_
  refine x_isub (pc := 74) X dX9_back_74 ?_
  exact x_iret (pc := 75) X hr hl h dX9_back_75
set_option maxRecDepth 100000 in
set_option maxHeartbeats 4000000 in
theorem wX9_back_L49 {p : Program} {l : Launch} {e : Env} {s : State} {m : MethodId} {args : Array Value} {below : List Frame} {meth : Method} {c : Code} {D : va_G} {A : Nat → Prop} {ad : Nat → Nat} {cI cX : ClassId} {r : Int32} {σ' : xSt} (X : xX p s m args c cX9_back 3 RX9 D (tyM cI cX) A (wM ad cI cX)) (hr : meth.sig.returnType = (some .int)) (hl : meth.locks = false) (F : Nat) (v1 : Int32) (v2 : Int32) (t1 : Int32) (t2 : Int32) (σ : xSt) (h : mX9_back_L49 F v1 v2 t1 t2 σ = some (r, σ')) : xG p l e ({ frames := 1, cells := 0, slots := 0, locals := 22 }) s m args below meth c (MQ below (xQi D A (wM ad cI cX) r σ') args s 0 0 A) 3 D A (wM ad cI cX) σ 49 [(0, .ref (ad 0)), (1, .int v1), (2, .int v2)] [.int t2, .int t1, .ref (ad 0)] := by
  unfold mX9_back_L49 at h
  refine x_isub (pc := 49) X dX9_back_49 ?_
  refine uX9_151 (pc := 50) X dX9_back_50 ?_
  refine x_aload_n (pc := 53) X dX9_back_53 rfl 0 rfl ?_
  refine x_dup (pc := 54) X dX9_back_54 rfl ?_
  refine gX9_158 (pc := 55) X dX9_back_55 ?_
  refine x_iload_n (pc := 58) X dX9_back_58 rfl 1 rfl ?_
  refine x_iconst (pc := 59) (v := 1) X dX9_back_59 (by decide) ?_
  refine x_icmp_ne (pc := 60) X 67 dX9_back_60 (by decide) (fun hc => ?_) (fun hc => ?_)
  · have h := xif hc h
    refine x_iconst (pc := 67) (v := 0) X dX9_back_67 (by decide) ?_
    refine x_sub [2] rfl ?_
    exact wX9_back_L68 X hr hl F _ _ _ _ h
  · have h := xit hc h
    refine x_iconst (pc := 63) (v := 1) X dX9_back_63 (by decide) ?_
    refine x_goto (pc := 64) X 68 dX9_back_64 (by decide) ?_
    refine x_sub [2] rfl ?_
    exact wX9_back_L68 X hr hl F _ _ _ _ h
set_option maxRecDepth 100000 in
set_option maxHeartbeats 4000000 in
theorem wX9_back_L27 {p : Program} {l : Launch} {e : Env} {s : State} {m : MethodId} {args : Array Value} {below : List Frame} {meth : Method} {c : Code} {D : va_G} {A : Nat → Prop} {ad : Nat → Nat} {cI cX : ClassId} {r : Int32} {σ' : xSt} (X : xX p s m args c cX9_back 3 RX9 D (tyM cI cX) A (wM ad cI cX)) (hr : meth.sig.returnType = (some .int)) (hl : meth.locks = false) (F : Nat) (v1 : Int32) (t0 : Int32) (σ : xSt) (h : mX9_back_L27 F v1 t0 σ = some (r, σ')) : xG p l e ({ frames := 1, cells := 0, slots := 0, locals := 22 }) s m args below meth c (MQ below (xQi D A (wM ad cI cX) r σ') args s 0 0 A) 3 D A (wM ad cI cX) σ 27 [(0, .ref (ad 0)), (1, .int v1)] [.int t0] := by
  unfold mX9_back_L27 at h
  refine x_istore_n (pc := 27) (lv' := [(2, .int t0), (0, .ref (ad 0)), (1, .int v1)]) X dX9_back_27 rfl (by decide) rfl ?_
  refine x_iload_n (pc := 28) X dX9_back_28 rfl 0 rfl ?_
  refine x_if_ne (pc := 29) X 35 dX9_back_29 (by decide) (fun hc => ?_) (fun hc => ?_)
  · have h := xif hc h
    refine x_aload_n (pc := 35) X dX9_back_35 rfl 1 rfl ?_
    refine x_dup (pc := 36) X dX9_back_36 rfl ?_
    refine gX9_151 (pc := 37) X dX9_back_37 ?_
    refine x_iload_n (pc := 40) X dX9_back_40 rfl 2 rfl ?_
    refine x_if_ne (pc := 41) X 48 dX9_back_41 (by decide) (fun hc => ?_) (fun hc => ?_)
    · have h := xif hc h
      refine x_iconst (pc := 48) (v := 0) X dX9_back_48 (by decide) ?_
      refine x_sub [1, 2, 0] rfl ?_
      exact wX9_back_L49 X hr hl F _ _ _ _ _ h
    · have h := xit hc h
      refine x_iconst (pc := 44) (v := 1) X dX9_back_44 (by decide) ?_
      refine x_goto (pc := 45) X 49 dX9_back_45 (by decide) ?_
      refine x_sub [1, 2, 0] rfl ?_
      exact wX9_back_L49 X hr hl F _ _ _ _ _ h
  · have h := xit hc h
    refine x_bipush (pc := 32) (v := (-3)) X dX9_back_32 (by decide) ?_
    exact x_iret (pc := 34) X hr hl h dX9_back_34
set_option maxRecDepth 100000 in
set_option maxHeartbeats 4000000 in
theorem kX9_back (l : Launch) {D : va_G} {A : Nat → Prop} {ad : Nat → Nat} {cI cX : ClassId} (hD : ∀ σ, va_D A ((wM ad cI cX) σ)) (F : Nat) (v1 : Int32) (σ : xSt) (r : Int32) (σ' : xSt) (h : mX9_back F v1 σ = some (r, σ')) : xM l yX9_back cX9_back 3 (some .int) ({ frames := 1, cells := 0, slots := 0, locals := 22 }) D (tyM cI cX) A (wM ad cI cX) [.ref (ad 0), .int v1] σ (xQi D A (wM ad cI cX) r σ') := by
  refine xM_of (lv := [(0, .ref (ad 0)), (1, .int v1)]) [.ref (ad 0), .int v1] (by decide) hD rfl (Nat.le_of_ble_eq_true rfl) ?_
  intro p e s m args below meth c X hr hl
  unfold mX9_back at h
  refine x_iload_n (pc := 0) X dX9_back_0 rfl 1 rfl ?_
  refine x_iconst (pc := 1) (v := 0) X dX9_back_1 (by decide) ?_
  refine x_iconst (pc := 2) (v := 1) X dX9_back_2 (by decide) ?_
  obtain ⟨r3, σ3, hq3, h⟩ := xb2_some h
  refine x_calliS (pc := 3) (As := [.int v1, .int 0, .int 1]) (rest := []) X (kX9_in l X.2.2.2.2.2.2.2 F _ _ _ _ _ _ hq3) kvX9_97 ⟨rfl, rfl, Nat.le_of_ble_eq_true rfl, Nat.le_of_ble_eq_true rfl⟩ rfl rfl (Nat.le_of_ble_eq_true rfl) dX9_back_3 ?_
  refine x_if_ne (pc := 6) X 12 dX9_back_6 (by decide) (fun hc => ?_) (fun hc => ?_)
  · have h := xif hc h
    refine x_iload_n (pc := 12) X dX9_back_12 rfl 1 rfl ?_
    refine x_if_ne (pc := 13) X 23 dX9_back_13 (by decide) (fun hc => ?_) (fun hc => ?_)
    · have h := xif hc h
      refine x_aload_n (pc := 23) X dX9_back_23 rfl 0 rfl ?_
      refine gX9_158 (pc := 24) X dX9_back_24 ?_
      refine x_sub [0, 1] rfl ?_
      exact wX9_back_L27 X hr hl F _ _ _ h
    · have h := xit hc h
      refine x_aload_n (pc := 16) X dX9_back_16 rfl 0 rfl ?_
      refine gX9_151 (pc := 17) X dX9_back_17 ?_
      refine x_goto (pc := 20) X 27 dX9_back_20 (by decide) ?_
      refine x_sub [0, 1] rfl ?_
      exact wX9_back_L27 X hr hl F _ _ _ h
  · have h := xit hc h
    refine x_bipush (pc := 9) (v := (-2)) X dX9_back_9 (by decide) ?_
    exact x_iret (pc := 11) X hr hl h dX9_back_11
set_option maxRecDepth 100000 in
set_option maxHeartbeats 4000000 in
theorem kX9_isSheet (l : Launch) {D : va_G} {A : Nat → Prop} {ad : Nat → Nat} {cI cX : ClassId} (hD : ∀ σ, va_D A ((wM ad cI cX) σ)) (F : Nat) (v0 : Int32) (σ : xSt) (r : Int32) (σ' : xSt) (h : mX9_isSheet F v0 σ = some (r, σ')) : xM l yX9_isSheet cX9_isSheet 1 (some .boolean) ({ frames := 1, cells := 0, slots := 0, locals := 22 }) D (tyM cI cX) A (wM ad cI cX) [.int v0] σ (xQi D A (wM ad cI cX) r σ') := by
  refine xM_of (lv := [(0, .int v0)]) [.int v0] (by decide) hD rfl (Nat.le_of_ble_eq_true rfl) ?_
  intro p e s m args below meth c X hr hl
  unfold mX9_isSheet at h
  refine x_iload_n (pc := 0) X dX9_isSheet_0 rfl 0 rfl ?_
  refine x_iconst (pc := 1) (v := 0) X dX9_isSheet_1 (by decide) ?_
  refine x_iconst (pc := 2) (v := 3) X dX9_isSheet_2 (by decide) ?_
  obtain ⟨r3, σ3, hq3, h⟩ := xb2_some h
  refine x_calliS (pc := 3) (As := [.int v0, .int 0, .int 3]) (rest := []) X (kX9_in l X.2.2.2.2.2.2.2 F _ _ _ _ _ _ hq3) kvX9_97 ⟨rfl, rfl, Nat.le_of_ble_eq_true rfl, Nat.le_of_ble_eq_true rfl⟩ rfl rfl (Nat.le_of_ble_eq_true rfl) dX9_isSheet_3 ?_
  obtain ⟨hb6, h⟩ := xck_some h
  exact x_zret (pc := 6) X hr hl hb6 h dX9_isSheet_6
set_option maxRecDepth 100000 in
set_option maxHeartbeats 4000000 in
theorem kX9_meets (l : Launch) {D : va_G} {A : Nat → Prop} {ad : Nat → Nat} {cI cX : ClassId} (hD : ∀ σ, va_D A ((wM ad cI cX) σ)) (F : Nat) (v1 : Int32) (σ : xSt) (r : Int32) (σ' : xSt) (h : mX9_meets F v1 σ = some (r, σ')) : xM l yX9_meets cX9_meets 2 (some .int) ({ frames := 0, cells := 0, slots := 0, locals := 0 }) D (tyM cI cX) A (wM ad cI cX) [.ref (ad 0), .int v1] σ (xQi D A (wM ad cI cX) r σ') := by
  refine xM_of (lv := [(0, .ref (ad 0)), (1, .int v1)]) [.ref (ad 0), .int v1] (by decide) hD rfl (Nat.le_of_ble_eq_true rfl) ?_
  intro p e s m args below meth c X hr hl
  unfold mX9_meets at h
  refine x_aload_n (pc := 0) X dX9_meets_0 rfl 0 rfl ?_
  refine x_iload_n (pc := 1) X dX9_meets_1 rfl 1 rfl ?_
  refine uX9_322 (pc := 2) X dX9_meets_2 ?_
  refine x_bipush (pc := 5) (v := (-10)) X dX9_meets_5 (by decide) ?_
  refine x_iload_n (pc := 7) X dX9_meets_7 rfl 1 rfl ?_
  refine x_isub (pc := 8) X dX9_meets_8 ?_
  exact x_iret (pc := 9) X hr hl h dX9_meets_9
