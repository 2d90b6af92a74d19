set_option maxRecDepth 100000 in
set_option maxHeartbeats 4000000 in
theorem wX9_knownOf_L108 {p : Program} {l : Launch} {e : Env} {s : State} {m : MethodId} {args : Array Value} {below : List Frame} {meth : Method} {c : Code} {D : va_G} {A : Nat → Prop} {ad : Nat → Nat} {cI cX : ClassId} {r : Int32} {σ' : xSt} (X : xX p s m args c cX9_knownOf 7 RX9 D (tyM cI cX) A (wM ad cI cX)) (hr : meth.sig.returnType = (some .int)) (hl : meth.locks = false) (F : Nat) (v3 : Int32) (σ : xSt) (h : mX9_knownOf_L108 F v3 σ = some (r, σ')) : xG p l e ({ frames := 6, cells := 0, slots := 0, locals := 138 }) s m args below meth c (MQ below (xQi D A (wM ad cI cX) r σ') args s 0 0 A) 7 D A (wM ad cI cX) σ 108 [(3, .int v3)] [] := by
  unfold mX9_knownOf_L108 at h
  refine x_iload_n (pc := 108) X dX9_knownOf_108 rfl 0 rfl ?_
  exact x_iret (pc := 109) X hr hl h dX9_knownOf_109
set_option maxRecDepth 100000 in
set_option maxHeartbeats 4000000 in
theorem wX9_knownOf_L101 {p : Program} {l : Launch} {e : Env} {s : State} {m : MethodId} {args : Array Value} {below : List Frame} {meth : Method} {c : Code} {D : va_G} {A : Nat → Prop} {ad : Nat → Nat} {cI cX : ClassId} {r : Int32} {σ' : xSt} {c15 : Int32 → Int32 → Int32 → xSt → Option (Int32 × xSt)} (X : xX p s m args c cX9_knownOf 7 RX9 D (tyM cI cX) A (wM ad cI cX)) (hr : meth.sig.returnType = (some .int)) (hl : meth.locks = false) (F : Nat) (hc15 : ∀ (v2 : Int32) (v3 : Int32) (v4 : Int32) (σ : xSt), c15 v2 v3 v4 σ = some (r, σ') → xG p l e ({ frames := 6, cells := 0, slots := 0, locals := 138 }) s m args below meth c (MQ below (xQi D A (wM ad cI cX) r σ') args s 0 0 A) 7 D A (wM ad cI cX) σ 15 [(0, .ref (ad 0)), (2, .int v2), (3, .int v3), (4, .int v4)] []) (v2 : Int32) (v4 : Int32) (t0 : Int32) (σ : xSt) (h : mX9_knownOf_L101 F c15 v2 v4 t0 σ = some (r, σ')) : xG p l e ({ frames := 6, cells := 0, slots := 0, locals := 138 }) s m args below meth c (MQ below (xQi D A (wM ad cI cX) r σ') args s 0 0 A) 7 D A (wM ad cI cX) σ 101 [(0, .ref (ad 0)), (2, .int v2), (4, .int v4)] [.int t0] := by
  unfold mX9_knownOf_L101 at h
  refine x_istore_n (pc := 101) (lv' := [(3, .int t0), (0, .ref (ad 0)), (2, .int v2), (4, .int v4)]) X dX9_knownOf_101 rfl (by decide) rfl ?_
  refine x_iinc (pc := 102) (v := (v4 + 1)) (lv' := [(4, .int (v4 + 1)), (3, .int t0), (0, .ref (ad 0)), (2, .int v2)]) X dX9_knownOf_102 3 rfl rfl (by decide) rfl ?_
  refine x_goto (pc := 105) X 15 dX9_knownOf_105 (by decide) ?_
  refine x_sub [2, 3, 1, 0] rfl ?_
  exact hc15 _ _ _ _ h
set_option maxRecDepth 100000 in
set_option maxHeartbeats 4000000 in
theorem wX9_knownOf_L100 {p : Program} {l : Launch} {e : Env} {s : State} {m : MethodId} {args : Array Value} {below : List Frame} {meth : Method} {c : Code} {D : va_G} {A : Nat → Prop} {ad : Nat → Nat} {cI cX : ClassId} {r : Int32} {σ' : xSt} {c15 : Int32 → Int32 → Int32 → xSt → Option (Int32 × xSt)} (X : xX p s m args c cX9_knownOf 7 RX9 D (tyM cI cX) A (wM ad cI cX)) (hr : meth.sig.returnType = (some .int)) (hl : meth.locks = false) (F : Nat) (hc15 : ∀ (v2 : Int32) (v3 : Int32) (v4 : Int32) (σ : xSt), c15 v2 v3 v4 σ = some (r, σ') → xG p l e ({ frames := 6, cells := 0, slots := 0, locals := 138 }) s m args below meth c (MQ below (xQi D A (wM ad cI cX) r σ') args s 0 0 A) 7 D A (wM ad cI cX) σ 15 [(0, .ref (ad 0)), (2, .int v2), (3, .int v3), (4, .int v4)] []) (v2 : Int32) (v3 : Int32) (v4 : Int32) (σ : xSt) (h : mX9_knownOf_L100 F c15 v2 v3 v4 σ = some (r, σ')) : xG p l e ({ frames := 6, cells := 0, slots := 0, locals := 138 }) s m args below meth c (MQ below (xQi D A (wM ad cI cX) r σ') args s 0 0 A) 7 D A (wM ad cI cX) σ 100 [(0, .ref (ad 0)), (2, .int v2), (3, .int v3), (4, .int v4)] [] := by
  unfold mX9_knownOf_L100 at h
  refine x_iload_n (pc := 100) X dX9_knownOf_100 rfl 2 rfl ?_
  refine x_sub [0, 1, 3] rfl ?_
  exact wX9_knownOf_L101 X hr hl F hc15 _ _ _ _ h
set_option maxRecDepth 100000 in
set_option maxHeartbeats 4000000 in
theorem wX9_knownOf_L95 {p : Program} {l : Launch} {e : Env} {s : State} {m : MethodId} {args : Array Value} {below : List Frame} {meth : Method} {c : Code} {D : va_G} {A : Nat → Prop} {ad : Nat → Nat} {cI cX : ClassId} {r : Int32} {σ' : xSt} {c15 : Int32 → Int32 → Int32 → xSt → Option (Int32 × xSt)} (X : xX p s m args c cX9_knownOf 7 RX9 D (tyM cI cX) A (wM ad cI cX)) (hr : meth.sig.returnType = (some .int)) (hl : meth.locks = false) (F : Nat) (hc15 : ∀ (v2 : Int32) (v3 : Int32) (v4 : Int32) (σ : xSt), c15 v2 v3 v4 σ = some (r, σ') → xG p l e ({ frames := 6, cells := 0, slots := 0, locals := 138 }) s m args below meth c (MQ below (xQi D A (wM ad cI cX) r σ') args s 0 0 A) 7 D A (wM ad cI cX) σ 15 [(0, .ref (ad 0)), (2, .int v2), (3, .int v3), (4, .int v4)] []) (v2 : Int32) (v4 : Int32) (σ : xSt) (h : mX9_knownOf_L95 F c15 v2 v4 σ = some (r, σ')) : xG p l e ({ frames := 6, cells := 0, slots := 0, locals := 138 }) s m args below meth c (MQ below (xQi D A (wM ad cI cX) r σ') args s 0 0 A) 7 D A (wM ad cI cX) σ 95 [(0, .ref (ad 0)), (2, .int v2), (4, .int v4)] [] := by
  unfold mX9_knownOf_L95 at h
  refine x_iload (pc := 95) X dX9_knownOf_95 2 rfl ?_
  refine x_goto (pc := 97) X 101 dX9_knownOf_97 (by decide) ?_
  refine x_sub [0, 1, 2] rfl ?_
  exact wX9_knownOf_L101 X hr hl F hc15 _ _ _ _ h
set_option maxRecDepth 100000 in
set_option maxHeartbeats 4000000 in
theorem wX9_knownOf_L72 {p : Program} {l : Launch} {e : Env} {s : State} {m : MethodId} {args : Array Value} {below : List Frame} {meth : Method} {c : Code} {D : va_G} {A : Nat → Prop} {ad : Nat → Nat} {cI cX : ClassId} {r : Int32} {σ' : xSt} {c15 : Int32 → Int32 → Int32 → xSt → Option (Int32 × xSt)} (X : xX p s m args c cX9_knownOf 7 RX9 D (tyM cI cX) A (wM ad cI cX)) (hr : meth.sig.returnType = (some .int)) (hl : meth.locks = false) (F : Nat) (hc15 : ∀ (v2 : Int32) (v3 : Int32) (v4 : Int32) (σ : xSt), c15 v2 v3 v4 σ = some (r, σ') → xG p l e ({ frames := 6, cells := 0, slots := 0, locals := 138 }) s m args below meth c (MQ below (xQi D A (wM ad cI cX) r σ') args s 0 0 A) 7 D A (wM ad cI cX) σ 15 [(0, .ref (ad 0)), (2, .int v2), (3, .int v3), (4, .int v4)] []) (v2 : Int32) (v3 : Int32) (v4 : Int32) (v5 : Int32) (σ : xSt) (h : mX9_knownOf_L72 F c15 v2 v3 v4 v5 σ = some (r, σ')) : xG p l e ({ frames := 6, cells := 0, slots := 0, locals := 138 }) s m args below meth c (MQ below (xQi D A (wM ad cI cX) r σ') args s 0 0 A) 7 D A (wM ad cI cX) σ 72 [(0, .ref (ad 0)), (2, .int v2), (3, .int v3), (4, .int v4), (5, .int v5)] [] := by
  unfold mX9_knownOf_L72 at h
  refine x_iload (pc := 72) X dX9_knownOf_72 4 rfl ?_
  refine x_iload_n (pc := 74) X dX9_knownOf_74 rfl 1 rfl ?_
  refine x_icmp_ne (pc := 75) X 100 dX9_knownOf_75 (by decide) (fun hc => ?_) (fun hc => ?_)
  · have h := xif hc h
    refine x_sub [0, 1, 2, 3] rfl ?_
    exact wX9_knownOf_L100 X hr hl F hc15 _ _ _ _ h
  · have h := xit hc h
    refine x_iload_n (pc := 78) X dX9_knownOf_78 rfl 2 rfl ?_
    refine x_iconst (pc := 79) (v := (-1)) X dX9_knownOf_79 (by decide) ?_
    refine x_icmp_eq (pc := 80) X 95 dX9_knownOf_80 (by decide) (fun hc => ?_) (fun hc => ?_)
    · have h := xit hc h
      refine x_sub [0, 1, 3] rfl ?_
      exact wX9_knownOf_L95 X hr hl F hc15 _ _ _ h
    · have h := xif hc h
      refine x_iload (pc := 83) X dX9_knownOf_83 3 rfl ?_
      obtain ⟨r85, σ85, hq85, h⟩ := xb2_some h
      refine x_calliS (pc := 85) (As := [.int v4]) (rest := []) X (kX9_ones l X.2.2.2.2.2.2.2 F _ _ _ _ hq85) kvX9_276 ⟨rfl, rfl, Nat.le_of_ble_eq_true rfl, Nat.le_of_ble_eq_true rfl⟩ rfl rfl (Nat.le_of_ble_eq_true rfl) dX9_knownOf_85 ?_
      refine x_iload_n (pc := 88) X dX9_knownOf_88 rfl 2 rfl ?_
      obtain ⟨r89, σ89, hq89, h⟩ := xb2_some h
      refine x_calliS (pc := 89) (As := [.int v3]) (rest := [.int r85]) X (kX9_ones l X.2.2.2.2.2.2.2 F _ _ _ _ hq89) kvX9_276 ⟨rfl, rfl, Nat.le_of_ble_eq_true rfl, Nat.le_of_ble_eq_true rfl⟩ rfl rfl (Nat.le_of_ble_eq_true rfl) dX9_knownOf_89 ?_
      refine x_icmp_ge (pc := 92) X 100 dX9_knownOf_92 (by decide) (fun hc => ?_) (fun hc => ?_)
      · have h := xit hc h
        refine x_sub [0, 1, 2, 3] rfl ?_
        exact wX9_knownOf_L100 X hr hl F hc15 _ _ _ _ h
      · have h := xif hc h
        refine x_sub [0, 1, 3] rfl ?_
        exact wX9_knownOf_L95 X hr hl F hc15 _ _ _ h
set_option maxRecDepth 100000 in
set_option maxHeartbeats 4000000 in
theorem wX9_knownOf_L63 {p : Program} {l : Launch} {e : Env} {s : State} {m : MethodId} {args : Array Value} {below : List Frame} {meth : Method} {c : Code} {D : va_G} {A : Nat → Prop} {ad : Nat → Nat} {cI cX : ClassId} {r : Int32} {σ' : xSt} {c15 : Int32 → Int32 → Int32 → xSt → Option (Int32 × xSt)} {c32 : Int32 → Int32 → Int32 → Int32 → Int32 → xSt → Option (Int32 × xSt)} (X : xX p s m args c cX9_knownOf 7 RX9 D (tyM cI cX) A (wM ad cI cX)) (hr : meth.sig.returnType = (some .int)) (hl : meth.locks = false) (F : Nat) (hc15 : ∀ (v2 : Int32) (v3 : Int32) (v4 : Int32) (σ : xSt), c15 v2 v3 v4 σ = some (r, σ') → xG p l e ({ frames := 6, cells := 0, slots := 0, locals := 138 }) s m args below meth c (MQ below (xQi D A (wM ad cI cX) r σ') args s 0 0 A) 7 D A (wM ad cI cX) σ 15 [(0, .ref (ad 0)), (2, .int v2), (3, .int v3), (4, .int v4)] []) (hc32 : ∀ (v2 : Int32) (v3 : Int32) (v4 : Int32) (v5 : Int32) (v6 : Int32) (σ : xSt), c32 v2 v3 v4 v5 v6 σ = some (r, σ') → xG p l e ({ frames := 6, cells := 0, slots := 0, locals := 138 }) s m args below meth c (MQ below (xQi D A (wM ad cI cX) r σ') args s 0 0 A) 7 D A (wM ad cI cX) σ 32 [(0, .ref (ad 0)), (2, .int v2), (3, .int v3), (4, .int v4), (5, .int v5), (6, .int v6)] []) (v2 : Int32) (v3 : Int32) (v4 : Int32) (v6 : Int32) (t0 : Int32) (t1 : Int32) (σ : xSt) (h : mX9_knownOf_L63 F c15 c32 v2 v3 v4 v6 t0 t1 σ = some (r, σ')) : xG p l e ({ frames := 6, cells := 0, slots := 0, locals := 138 }) s m args below meth c (MQ below (xQi D A (wM ad cI cX) r σ') args s 0 0 A) 7 D A (wM ad cI cX) σ 63 [(0, .ref (ad 0)), (2, .int v2), (3, .int v3), (4, .int v4), (6, .int v6)] [.int t1, .int t0] := by
  unfold mX9_knownOf_L63 at h
  refine x_ior (pc := 63) X dX9_knownOf_63 ?_
  refine x_istore (pc := 64) (lv' := [(5, .int (t0 ||| t1)), (0, .ref (ad 0)), (2, .int v2), (3, .int v3), (4, .int v4), (6, .int v6)]) X dX9_knownOf_64 (by decide) rfl ?_
  refine x_iinc (pc := 66) (v := (v6 + 1)) (lv' := [(6, .int (v6 + 1)), (5, .int (t0 ||| t1)), (0, .ref (ad 0)), (2, .int v2), (3, .int v3), (4, .int v4)]) X dX9_knownOf_66 5 rfl rfl (by decide) rfl ?_
  refine x_goto (pc := 69) X 32 dX9_knownOf_69 (by decide) ?_
  refine x_sub [2, 3, 4, 5, 1, 0] rfl ?_
  exact hc32 _ _ _ _ _ _ h
set_option maxRecDepth 100000 in
set_option maxHeartbeats 4000000 in
theorem wX9_knownOf_S32 {p : Program} {l : Launch} {e : Env} {s : State} {m : MethodId} {args : Array Value} {below : List Frame} {meth : Method} {c : Code} {D : va_G} {A : Nat → Prop} {ad : Nat → Nat} {cI cX : ClassId} {r : Int32} {σ' : xSt} {c15 : Int32 → Int32 → Int32 → xSt → Option (Int32 × xSt)} {c32 : Int32 → Int32 → Int32 → Int32 → Int32 → xSt → Option (Int32 × xSt)} (X : xX p s m args c cX9_knownOf 7 RX9 D (tyM cI cX) A (wM ad cI cX)) (hr : meth.sig.returnType = (some .int)) (hl : meth.locks = false) (F : Nat) (hc15 : ∀ (v2 : Int32) (v3 : Int32) (v4 : Int32) (σ : xSt), c15 v2 v3 v4 σ = some (r, σ') → xG p l e ({ frames := 6, cells := 0, slots := 0, locals := 138 }) s m args below meth c (MQ below (xQi D A (wM ad cI cX) r σ') args s 0 0 A) 7 D A (wM ad cI cX) σ 15 [(0, .ref (ad 0)), (2, .int v2), (3, .int v3), (4, .int v4)] []) (hc32 : ∀ (v2 : Int32) (v3 : Int32) (v4 : Int32) (v5 : Int32) (v6 : Int32) (σ : xSt), c32 v2 v3 v4 v5 v6 σ = some (r, σ') → xG p l e ({ frames := 6, cells := 0, slots := 0, locals := 138 }) s m args below meth c (MQ below (xQi D A (wM ad cI cX) r σ') args s 0 0 A) 7 D A (wM ad cI cX) σ 32 [(0, .ref (ad 0)), (2, .int v2), (3, .int v3), (4, .int v4), (5, .int v5), (6, .int v6)] []) (v2 : Int32) (v3 : Int32) (v4 : Int32) (v5 : Int32) (v6 : Int32) (σ : xSt) (h : mX9_knownOf_S32 F c15 c32 v2 v3 v4 v5 v6 σ = some (r, σ')) : xG p l e ({ frames := 6, cells := 0, slots := 0, locals := 138 }) s m args below meth c (MQ below (xQi D A (wM ad cI cX) r σ') args s 0 0 A) 7 D A (wM ad cI cX) σ 32 [(0, .ref (ad 0)), (2, .int v2), (3, .int v3), (4, .int v4), (5, .int v5), (6, .int v6)] [] := by
  unfold mX9_knownOf_S32 at h
  refine x_iload (pc := 32) X dX9_knownOf_32 5 rfl ?_
  refine x_aload_n (pc := 34) X dX9_knownOf_34 rfl 0 rfl ?_
  refine gX9_109 (pc := 35) X dX9_knownOf_35 ?_
  refine x_icmp_ge (pc := 38) X 72 dX9_knownOf_38 (by decide) (fun hc => ?_) (fun hc => ?_)
  · have h := xit hc h
    refine x_sub [0, 1, 2, 3, 4] rfl ?_
    exact wX9_knownOf_L72 X hr hl F hc15 _ _ _ _ _ h
  · have h := xif hc h
    refine x_iload (pc := 41) X dX9_knownOf_41 4 rfl ?_
    refine x_iload (pc := 43) X dX9_knownOf_43 3 rfl ?_
    refine x_iload (pc := 45) X dX9_knownOf_45 5 rfl ?_
    obtain ⟨r47, σ47, hq47, h⟩ := xb2_some h
    refine x_calliS (pc := 47) (As := [.int v4, .int v6]) (rest := [.int v5]) X (kX9_isIn l X.2.2.2.2.2.2.2 F _ _ _ _ _ hq47) kvX9_199 ⟨rfl, rfl, Nat.le_of_ble_eq_true rfl, Nat.le_of_ble_eq_true rfl⟩ rfl rfl (Nat.le_of_ble_eq_true rfl) dX9_knownOf_47 ?_
    refine x_if_eq (pc := 50) X 62 dX9_knownOf_50 (by decide) (fun hc => ?_) (fun hc => ?_)
    · have h := xit hc h
      refine x_iconst (pc := 62) (v := 0) X dX9_knownOf_62 (by decide) ?_
      refine x_sub [0, 1, 2, 3, 5] rfl ?_
      exact wX9_knownOf_L63 X hr hl F hc15 hc32 _ _ _ _ _ _ _ h
    · have h := xif hc h
      refine x_aload_n (pc := 53) X dX9_knownOf_53 rfl 0 rfl ?_
      refine x_iload (pc := 54) X dX9_knownOf_54 5 rfl ?_
      obtain ⟨r56, σ56, hq56, h⟩ := xb2_some h
      refine x_calliV (pc := 56) (As := [.int v6]) (rest := [.int v5]) X (kX9_tellsNow l X.2.2.2.2.2.2.2 F _ _ _ _ hq56) kvX9_215 rfl (qX9) ⟨rfl, rfl, Nat.le_of_ble_eq_true rfl, Nat.le_of_ble_eq_true rfl⟩ rfl rfl (Nat.le_of_ble_eq_true rfl) dX9_knownOf_56 ?_
      refine x_goto (pc := 59) X 63 dX9_knownOf_59 (by decide) ?_
      refine x_sub [0, 1, 2, 3, 5] rfl ?_
      exact wX9_knownOf_L63 X hr hl F hc15 hc32 _ _ _ _ _ _ _ h
theorem wX9_knownOf_L32 {p : Program} {l : Launch} {e : Env} {s : State} {m : MethodId} {args : Array Value} {below : List Frame} {meth : Method} {c : Code} {D : va_G} {A : Nat → Prop} {ad : Nat → Nat} {cI cX : ClassId} {r : Int32} {σ' : xSt} {c15 : Int32 → Int32 → Int32 → xSt → Option (Int32 × xSt)} (X : xX p s m args c cX9_knownOf 7 RX9 D (tyM cI cX) A (wM ad cI cX)) (hr : meth.sig.returnType = (some .int)) (hl : meth.locks = false) (F : Nat) (hc15 : ∀ (v2 : Int32) (v3 : Int32) (v4 : Int32) (σ : xSt), c15 v2 v3 v4 σ = some (r, σ') → xG p l e ({ frames := 6, cells := 0, slots := 0, locals := 138 }) s m args below meth c (MQ below (xQi D A (wM ad cI cX) r σ') args s 0 0 A) 7 D A (wM ad cI cX) σ 15 [(0, .ref (ad 0)), (2, .int v2), (3, .int v3), (4, .int v4)] []) : ∀ (n : Nat) (v2 : Int32) (v3 : Int32) (v4 : Int32) (v5 : Int32) (v6 : Int32) (σ : xSt), mX9_knownOf_L32 F c15 n v2 v3 v4 v5 v6 σ = some (r, σ') → xG p l e ({ frames := 6, cells := 0, slots := 0, locals := 138 }) s m args below meth c (MQ below (xQi D A (wM ad cI cX) r σ') args s 0 0 A) 7 D A (wM ad cI cX) σ 32 [(0, .ref (ad 0)), (2, .int v2), (3, .int v3), (4, .int v4), (5, .int v5), (6, .int v6)] [] := by
  intro n
  induction n with
  | zero => intro v2 v3 v4 v5 v6 σ h; cases h
  | succ n ih => intro v2 v3 v4 v5 v6 σ h; exact wX9_knownOf_S32 X hr hl F hc15 ih v2 v3 v4 v5 v6 σ h
set_option maxRecDepth 100000 in
set_option maxHeartbeats 4000000 in
theorem wX9_knownOf_S15 {p : Program} {l : Launch} {e : Env} {s : State} {m : MethodId} {args : Array Value} {below : List Frame} {meth : Method} {c : Code} {D : va_G} {A : Nat → Prop} {ad : Nat → Nat} {cI cX : ClassId} {r : Int32} {σ' : xSt} {c15 : Int32 → Int32 → Int32 → xSt → Option (Int32 × xSt)} (X : xX p s m args c cX9_knownOf 7 RX9 D (tyM cI cX) A (wM ad cI cX)) (hr : meth.sig.returnType = (some .int)) (hl : meth.locks = false) (F : Nat) (hc15 : ∀ (v2 : Int32) (v3 : Int32) (v4 : Int32) (σ : xSt), c15 v2 v3 v4 σ = some (r, σ') → xG p l e ({ frames := 6, cells := 0, slots := 0, locals := 138 }) s m args below meth c (MQ below (xQi D A (wM ad cI cX) r σ') args s 0 0 A) 7 D A (wM ad cI cX) σ 15 [(0, .ref (ad 0)), (2, .int v2), (3, .int v3), (4, .int v4)] []) (v2 : Int32) (v3 : Int32) (v4 : Int32) (σ : xSt) (h : mX9_knownOf_S15 F c15 v2 v3 v4 σ = some (r, σ')) : xG p l e ({ frames := 6, cells := 0, slots := 0, locals := 138 }) s m args below meth c (MQ below (xQi D A (wM ad cI cX) r σ') args s 0 0 A) 7 D A (wM ad cI cX) σ 15 [(0, .ref (ad 0)), (2, .int v2), (3, .int v3), (4, .int v4)] [] := by
  unfold mX9_knownOf_S15 at h
  refine x_iload (pc := 15) X dX9_knownOf_15 3 rfl ?_
  refine x_iconst (pc := 17) (v := 1) X dX9_knownOf_17 (by decide) ?_
  refine x_aload_n (pc := 18) X dX9_knownOf_18 rfl 0 rfl ?_
  refine gX9_109 (pc := 19) X dX9_knownOf_19 ?_
  refine x_ishl (pc := 22) X dX9_knownOf_22 ?_
  refine x_icmp_ge (pc := 23) X 108 dX9_knownOf_23 (by decide) (fun hc => ?_) (fun hc => ?_)
  · have h := xit hc h
    refine x_sub [2] rfl ?_
    exact wX9_knownOf_L108 X hr hl F _ _ h
  · have h := xif hc h
    refine x_iconst (pc := 26) (v := 0) X dX9_knownOf_26 (by decide) ?_
    refine x_istore (pc := 27) (lv' := [(5, .int 0), (0, .ref (ad 0)), (2, .int v2), (3, .int v3), (4, .int v4)]) X dX9_knownOf_27 (by decide) rfl ?_
    refine x_iconst (pc := 29) (v := 0) X dX9_knownOf_29 (by decide) ?_
    refine x_istore (pc := 30) (lv' := [(6, .int 0), (5, .int 0), (0, .ref (ad 0)), (2, .int v2), (3, .int v3), (4, .int v4)]) X dX9_knownOf_30 (by decide) rfl ?_
    refine x_sub [2, 3, 4, 5, 1, 0] rfl ?_
    exact wX9_knownOf_L32 X hr hl F hc15 F _ _ _ _ _ _ h
theorem wX9_knownOf_L15 {p : Program} {l : Launch} {e : Env} {s : State} {m : MethodId} {args : Array Value} {below : List Frame} {meth : Method} {c : Code} {D : va_G} {A : Nat → Prop} {ad : Nat → Nat} {cI cX : ClassId} {r : Int32} {σ' : xSt} (X : xX p s m args c cX9_knownOf 7 RX9 D (tyM cI cX) A (wM ad cI cX)) (hr : meth.sig.returnType = (some .int)) (hl : meth.locks = false) (F : Nat) : ∀ (n : Nat) (v2 : Int32) (v3 : Int32) (v4 : Int32) (σ : xSt), mX9_knownOf_L15 F n v2 v3 v4 σ = some (r, σ') → xG p l e ({ frames := 6, cells := 0, slots := 0, locals := 138 }) s m args below meth c (MQ below (xQi D A (wM ad cI cX) r σ') args s 0 0 A) 7 D A (wM ad cI cX) σ 15 [(0, .ref (ad 0)), (2, .int v2), (3, .int v3), (4, .int v4)] [] := by
  intro n
  induction n with
  | zero => intro v2 v3 v4 σ h; cases h
  | succ n ih => intro v2 v3 v4 σ h; exact wX9_knownOf_S15 X hr hl F ih v2 v3 v4 σ h
set_option maxRecDepth 100000 in
set_option maxHeartbeats 4000000 in
theorem kX9_knownOf (l : Launch) {D : va_G} {A : Nat → Prop} {ad : Nat → Nat} {cI cX : ClassId} (hD : ∀ σ, va_D A ((wM ad cI cX) σ)) (F : Nat) (v1 : Int32) (σ : xSt) (r : Int32) (σ' : xSt) (h : mX9_knownOf F v1 σ = some (r, σ')) : xM l yX9_knownOf cX9_knownOf 7 (some .int) ({ frames := 6, cells := 0, slots := 0, locals := 138 }) D (tyM cI cX) A (wM ad cI cX) [.ref (ad 0), .int v1] σ (xQi D A (wM ad cI cX) r σ') := by
  refine xM_of (lv := [(0, .ref (ad 0)), (1, .int v1)]) [.ref (ad 0), .int v1] (by decide) hD rfl (Nat.le_of_ble_eq_true rfl) ?_
  intro p e s m args below meth c X hr hl
  unfold mX9_knownOf at h
  refine x_aload_n (pc := 0) X dX9_knownOf_0 rfl 0 rfl ?_
  refine x_iload_n (pc := 1) X dX9_knownOf_1 rfl 1 rfl ?_
  obtain ⟨σ2, hq2, h⟩ := xb1_some h
  refine x_callvV (pc := 2) (As := [.int v1]) (rest := []) X (kX9_runsTold l X.2.2.2.2.2.2.2 F _ _ _ hq2) kvX9_218 rfl (qX9) ⟨rfl, rfl, Nat.le_of_ble_eq_true rfl, Nat.le_of_ble_eq_true rfl⟩ rfl rfl (Nat.le_of_ble_eq_true rfl) dX9_knownOf_2 ?_
  refine x_aload_n (pc := 5) X dX9_knownOf_5 rfl 0 rfl ?_
  obtain ⟨r6, σ6, hq6, h⟩ := xb2_some h
  refine x_calliV (pc := 6) (As := []) (rest := []) X (kX9_tellsAll l X.2.2.2.2.2.2.2 F _ _ _ hq6) kvX9_227 rfl (qX9) ⟨rfl, rfl, Nat.le_of_ble_eq_true rfl, Nat.le_of_ble_eq_true rfl⟩ rfl rfl (Nat.le_of_ble_eq_true rfl) dX9_knownOf_6 ?_
  refine x_istore_n (pc := 9) (lv' := [(2, .int r6), (0, .ref (ad 0)), (1, .int v1)]) X dX9_knownOf_9 rfl (by decide) rfl ?_
  refine x_iconst (pc := 10) (v := (-1)) X dX9_knownOf_10 (by decide) ?_
  refine x_istore_n (pc := 11) (lv' := [(3, .int (-1)), (2, .int r6), (0, .ref (ad 0)), (1, .int v1)]) X dX9_knownOf_11 rfl (by decide) rfl ?_
  refine x_iconst (pc := 12) (v := 0) X dX9_knownOf_12 (by decide) ?_
  refine x_istore (pc := 13) (lv' := [(4, .int 0), (3, .int (-1)), (2, .int r6), (0, .ref (ad 0)), (1, .int v1)]) X dX9_knownOf_13 (by decide) rfl ?_
  refine x_sub [3, 2, 1, 0] rfl ?_
  exact wX9_knownOf_L15 X hr hl F F _ _ _ _ h
set_option maxRecDepth 100000 in
set_option maxHeartbeats 4000000 in
theorem wX9_known_L17 {p : Program} {l : Launch} {e : Env} {s : State} {m : MethodId} {args : Array Value} {below : List Frame} {meth : Method} {c : Code} {D : va_G} {A : Nat → Prop} {ad : Nat → Nat} {cI cX : ClassId} {r : Int32} {σ' : xSt} (X : xX p s m args c cX9_known 2 RX9 D (tyM cI cX) A (wM ad cI cX)) (hr : meth.sig.returnType = (some .int)) (hl : meth.locks = false) (F : Nat) (t0 : Int32) (σ : xSt) (h : mX9_known_L17 F t0 σ = some (r, σ')) : xG p l e ({ frames := 7, cells := 0, slots := 0, locals := 164 }) s m args below meth c (MQ below (xQi D A (wM ad cI cX) r σ') args s 0 0 A) 2 D A (wM ad cI cX) σ 17 [] [.int t0] := by
  unfold mX9_known_L17 at h
  exact x_iret (pc := 17) X hr hl h dX9_known_17
set_option maxRecDepth 100000 in
set_option maxHeartbeats 4000000 in
theorem kX9_known (l : Launch) {D : va_G} {A : Nat → Prop} {ad : Nat → Nat} {cI cX : ClassId} (hD : ∀ σ, va_D A ((wM ad cI cX) σ)) (F : Nat) (v1 : Int32) (σ : xSt) (r : Int32) (σ' : xSt) (h : mX9_known F v1 σ = some (r, σ')) : xM l yX9_known cX9_known 2 (some .int) ({ frames := 7, cells := 0, slots := 0, locals := 164 }) D (tyM cI cX) A (wM ad cI cX) [.ref (ad 0), .int v1] σ (xQi D A (wM ad cI cX) r σ') := by
  refine xM_of (lv := [(0, .ref (ad 0)), (1, .int v1)]) [.ref (ad 0), .int v1] (by decide) hD rfl (Nat.le_of_ble_eq_true rfl) ?_
  intro p e s m args below meth c X hr hl
  unfold mX9_known at h
  refine x_iload_n (pc := 0) X dX9_known_0 rfl 1 rfl ?_
  obtain ⟨r1, σ1, hq1, h⟩ := xb2_some h
  refine x_calliS (pc := 1) (As := [.int v1]) (rest := []) X (kX9_isHour l X.2.2.2.2.2.2.2 F _ _ _ _ hq1) kvX9_142 ⟨rfl, rfl, Nat.le_of_ble_eq_true rfl, Nat.le_of_ble_eq_true rfl⟩ rfl rfl (Nat.le_of_ble_eq_true rfl) dX9_known_1 ?_
  refine x_if_eq (pc := 4) X 15 dX9_known_4 (by decide) (fun hc => ?_) (fun hc => ?_)
  · have h := xit hc h
    refine x_bipush (pc := 15) (v := (-2)) X dX9_known_15 (by decide) ?_
    refine x_sub [] rfl ?_
    exact wX9_known_L17 X hr hl F _ _ h
  · have h := xif hc h
    refine x_aload_n (pc := 7) X dX9_known_7 rfl 0 rfl ?_
    refine x_iload_n (pc := 8) X dX9_known_8 rfl 1 rfl ?_
    obtain ⟨r9, σ9, hq9, h⟩ := xb2_some h
    refine x_calliV (pc := 9) (As := [.int v1]) (rest := []) X (kX9_knownOf l X.2.2.2.2.2.2.2 F _ _ _ _ hq9) kvX9_279 rfl (qX9) ⟨rfl, rfl, Nat.le_of_ble_eq_true rfl, Nat.le_of_ble_eq_true rfl⟩ rfl rfl (Nat.le_of_ble_eq_true rfl) dX9_known_9 ?_
    refine x_goto (pc := 12) X 17 dX9_known_12 (by decide) ?_
    refine x_sub [] rfl ?_
    exact wX9_known_L17 X hr hl F _ _ h
set_option maxRecDepth 100000 in
set_option maxHeartbeats 4000000 in
theorem wX9_smelt_L25 {p : Program} {l : Launch} {e : Env} {s : State} {m : MethodId} {args : Array Value} {below : List Frame} {meth : Method} {c : Code} {D : va_G} {A : Nat → Prop} {ad : Nat → Nat} {cI cX : ClassId} {r : Int32} {σ' : xSt} (X : xX p s m args c cX9_smelt 4 RX9 D (tyM cI cX) A (wM ad cI cX)) (hr : meth.sig.returnType = (some .int)) (hl : meth.locks = false) (F : Nat) (σ : xSt) (h : mX9_smelt_L25 F σ = some (r, σ')) : xG p l e ({ frames := 2, cells := 0, slots := 0, locals := 42 }) s m args below meth c (MQ below (xQi D A (wM ad cI cX) r σ') args s 0 0 A) 4 D A (wM ad cI cX) σ 25 [] [] := by
  unfold mX9_smelt_L25 at h
  refine x_bipush (pc := 25) (v := (-2)) X dX9_smelt_25 (by decide) ?_
  exact x_iret (pc := 27) X hr hl h dX9_smelt_27
set_option maxRecDepth 100000 in
set_option maxHeartbeats 4000000 in
theorem kX9_smelt (l : Launch) {D : va_G} {A : Nat → Prop} {ad : Nat → Nat} {cI cX : ClassId} (hD : ∀ σ, va_D A ((wM ad cI cX) σ)) (F : Nat) (v1 : Int32) (v2 : Int32) (v3 : Int32) (σ : xSt) (r : Int32) (σ' : xSt) (h : mX9_smelt F v1 v2 v3 σ = some (r, σ')) : xM l yX9_smelt cX9_smelt 4 (some .int) ({ frames := 2, cells := 0, slots := 0, locals := 42 }) D (tyM cI cX) A (wM ad cI cX) [.ref (ad 0), .int v1, .int v2, .int v3] σ (xQi D A (wM ad cI cX) r σ') := by
  refine xM_of (lv := [(0, .ref (ad 0)), (1, .int v1), (2, .int v2), (3, .int v3)]) [.ref (ad 0), .int v1, .int v2, .int v3] (by decide) hD rfl (Nat.le_of_ble_eq_true rfl) ?_
  intro p e s m args below meth c X hr hl
  unfold mX9_smelt at h
  refine x_iload_n (pc := 0) X dX9_smelt_0 rfl 1 rfl ?_
  obtain ⟨r1, σ1, hq1, h⟩ := xb2_some h
  refine x_calliS (pc := 1) (As := [.int v1]) (rest := []) X (kX9_isHour l X.2.2.2.2.2.2.2 F _ _ _ _ hq1) kvX9_142 ⟨rfl, rfl, Nat.le_of_ble_eq_true rfl, Nat.le_of_ble_eq_true rfl⟩ rfl rfl (Nat.le_of_ble_eq_true rfl) dX9_smelt_1 ?_
  refine x_if_eq (pc := 4) X 25 dX9_smelt_4 (by decide) (fun hc => ?_) (fun hc => ?_)
  · have h := xit hc h
    refine x_sub [] rfl ?_
    exact wX9_smelt_L25 X hr hl F _ h
  · have h := xif hc h
    refine x_iload_n (pc := 7) X dX9_smelt_7 rfl 2 rfl ?_
    obtain ⟨r8, σ8, hq8, h⟩ := xb2_some h
    refine x_calliS (pc := 8) (As := [.int v2]) (rest := []) X (kX9_isSix l X.2.2.2.2.2.2.2 F _ _ _ _ hq8) kvX9_148 ⟨rfl, rfl, Nat.le_of_ble_eq_true rfl, Nat.le_of_ble_eq_true rfl⟩ rfl rfl (Nat.le_of_ble_eq_true rfl) dX9_smelt_8 ?_
    refine x_if_eq (pc := 11) X 25 dX9_smelt_11 (by decide) (fun hc => ?_) (fun hc => ?_)
    · have h := xit hc h
      refine x_sub [] rfl ?_
      exact wX9_smelt_L25 X hr hl F _ h
    · have h := xif hc h
      refine x_iload_n (pc := 14) X dX9_smelt_14 rfl 3 rfl ?_
      refine x_iconst (pc := 15) (v := 0) X dX9_smelt_15 (by decide) ?_
      refine x_sipush (pc := 16) (v := 255) X dX9_smelt_16 (by decide) ?_
      obtain ⟨r19, σ19, hq19, h⟩ := xb2_some h
      refine x_calliS (pc := 19) (As := [.int v3, .int 0, .int 255]) (rest := []) X (kX9_in l X.2.2.2.2.2.2.2 F _ _ _ _ _ _ hq19) kvX9_97 ⟨rfl, rfl, Nat.le_of_ble_eq_true rfl, Nat.le_of_ble_eq_true rfl⟩ rfl rfl (Nat.le_of_ble_eq_true rfl) dX9_smelt_19 ?_
      refine x_if_ne (pc := 22) X 28 dX9_smelt_22 (by decide) (fun hc => ?_) (fun hc => ?_)
      · have h := xif hc h
        refine x_aload_n (pc := 28) X dX9_smelt_28 rfl 0 rfl ?_
        refine gX9_282 (pc := 29) X dX9_smelt_29 ?_
        refine x_bipush (pc := 32) (v := 8) X dX9_smelt_32 (by decide) ?_
        refine x_icmp_ne (pc := 34) X 40 dX9_smelt_34 (by decide) (fun hc => ?_) (fun hc => ?_)
        · have h := xif hc h
          refine x_aload_n (pc := 40) X dX9_smelt_40 rfl 0 rfl ?_
          refine gX9_68 (pc := 41) X dX9_smelt_41 ?_
          refine x_aload_n (pc := 44) X dX9_smelt_44 rfl 0 rfl ?_
          refine gX9_282 (pc := 45) X dX9_smelt_45 ?_
          refine x_iload_n (pc := 48) X dX9_smelt_48 rfl 1 rfl ?_
          obtain ⟨hb49, h⟩ := xck_some h
          refine x_iast (pc := 49) (σ' := (xsA σ19 28 (Int32.toNatClampNeg (xI σ19 27)) v1)) X 20 0 (qaX9_smeltHour) rfl (saX9_smeltHour _) hb49 dX9_smelt_49 ?_
          refine x_aload_n (pc := 50) X dX9_smelt_50 rfl 0 rfl ?_
          refine gX9_71 (pc := 51) X dX9_smelt_51 ?_
          refine x_aload_n (pc := 54) X dX9_smelt_54 rfl 0 rfl ?_
          refine gX9_282 (pc := 55) X dX9_smelt_55 ?_
          refine x_iload_n (pc := 58) X dX9_smelt_58 rfl 2 rfl ?_
          obtain ⟨hb59, h⟩ := xck_some h
          refine x_iast (pc := 59) (σ' := (xsA (xsA σ19 28 (Int32.toNatClampNeg (xI σ19 27)) v1) 29 (Int32.toNatClampNeg (xI (xsA σ19 28 (Int32.toNatClampNeg (xI σ19 27)) v1) 27)) v2)) X 21 0 (qaX9_smeltThing) rfl (saX9_smeltThing _) hb59 dX9_smelt_59 ?_
          refine x_aload_n (pc := 60) X dX9_smelt_60 rfl 0 rfl ?_
          refine gX9_74 (pc := 61) X dX9_smelt_61 ?_
          refine x_aload_n (pc := 64) X dX9_smelt_64 rfl 0 rfl ?_
          refine gX9_282 (pc := 65) X dX9_smelt_65 ?_
          refine x_iload_n (pc := 68) X dX9_smelt_68 rfl 3 rfl ?_
          obtain ⟨hb69, h⟩ := xck_some h
          refine x_iast (pc := 69) (σ' := (xsA (xsA (xsA σ19 28 (Int32.toNatClampNeg (xI σ19 27)) v1) 29 (Int32.toNatClampNeg (xI (xsA σ19 28 (Int32.toNatClampNeg (xI σ19 27)) v1) 27)) v2) 30 (Int32.toNatClampNeg (xI (xsA (xsA σ19 28 (Int32.toNatClampNeg (xI σ19 27)) v1) 29 (Int32.toNatClampNeg (xI (xsA σ19 28 (Int32.toNatClampNeg (xI σ19 27)) v1) 27)) v2) 27)) v3)) X 22 0 (qaX9_smeltSet) rfl (saX9_smeltSet _) hb69 dX9_smelt_69 ?_
          refine x_aload_n (pc := 70) X dX9_smelt_70 rfl 0 rfl ?_
          refine x_dup (pc := 71) X dX9_smelt_71 rfl ?_
          refine gX9_282 (pc := 72) X dX9_smelt_72 ?_
          refine x_iconst (pc := 75) (v := 1) X dX9_smelt_75 (by decide) ?_
          refine x_iadd (pc := 76) X dX9_smelt_76 ?_
          refine uX9_282 (pc := 77) X dX9_smelt_77 ?_
          refine x_aload_n (pc := 80) X dX9_smelt_80 rfl 0 rfl ?_
          refine gX9_282 (pc := 81) X dX9_smelt_81 ?_
          exact x_iret (pc := 84) X hr hl h dX9_smelt_84
        · have h := xit hc h
          refine x_bipush (pc := 37) (v := (-4)) X dX9_smelt_37 (by decide) ?_
          exact x_iret (pc := 39) X hr hl h dX9_smelt_39
      · have h := xit hc h
        refine x_sub [] rfl ?_
        exact wX9_smelt_L25 X hr hl F _ h
set_option maxRecDepth 100000 in
set_option maxHeartbeats 4000000 in
theorem kX9_forget (l : Launch) {D : va_G} {A : Nat → Prop} {ad : Nat → Nat} {cI cX : ClassId} (hD : ∀ σ, va_D A ((wM ad cI cX) σ)) (F : Nat) (σ : xSt) (r : Int32) (σ' : xSt) (h : mX9_forget F σ = some (r, σ')) : xM l yX9_forget cX9_forget 2 (some .int) ({ frames := 0, cells := 0, slots := 0, locals := 0 }) D (tyM cI cX) A (wM ad cI cX) [.ref (ad 0)] σ (xQi D A (wM ad cI cX) r σ') := by
  refine xM_of (lv := [(0, .ref (ad 0))]) [.ref (ad 0)] (by decide) hD rfl (Nat.le_of_ble_eq_true rfl) ?_
  intro p e s m args below meth c X hr hl
  unfold mX9_forget at h
  refine x_aload_n (pc := 0) X dX9_forget_0 rfl 0 rfl ?_
  refine gX9_282 (pc := 1) X dX9_forget_1 ?_
  refine x_istore_n (pc := 4) (lv' := [(1, .int (xI σ 27)), (0, .ref (ad 0))]) X dX9_forget_4 rfl (by decide) rfl ?_
  refine x_aload_n (pc := 5) X dX9_forget_5 rfl 1 rfl ?_
  refine x_iconst (pc := 6) (v := 0) X dX9_forget_6 (by decide) ?_
  refine uX9_282 (pc := 7) X dX9_forget_7 ?_
  refine x_iload_n (pc := 10) X dX9_forget_10 rfl 0 rfl ?_
  exact x_iret (pc := 11) X hr hl h dX9_forget_11
set_option maxRecDepth 100000 in
set_option maxHeartbeats 4000000 in
theorem wX9_isSmelt_L105 {p : Program} {l : Launch} {e : Env} {s : State} {m : MethodId} {args : Array Value} {below : List Frame} {meth : Method} {c : Code} {D : va_G} {A : Nat → Prop} {ad : Nat → Nat} {cI cX : ClassId} {r : Int32} {σ' : xSt} (X : xX p s m args c cX9_isSmelt 5 RX9 D (tyM cI cX) A (wM ad cI cX)) (hr : meth.sig.returnType = (some .boolean)) (hl : meth.locks = false) (F : Nat) (v1 : Int32) (σ : xSt) (h : mX9_isSmelt_L105 F v1 σ = some (r, σ')) : xG p l e ({ frames := 4, cells := 0, slots := 0, locals := 89 }) s m args below meth c (MQ below (xQi D A (wM ad cI cX) r σ') args s 0 0 A) 5 D A (wM ad cI cX) σ 105 [(1, .int v1)] [] := by
  unfold mX9_isSmelt_L105 at h
  refine x_iload_n (pc := 105) X dX9_isSmelt_105 rfl 0 rfl ?_
  obtain ⟨hb106, h⟩ := xck_some h
  exact x_zret (pc := 106) X hr hl hb106 h dX9_isSmelt_106
set_option maxRecDepth 100000 in
set_option maxHeartbeats 4000000 in
theorem wX9_isSmelt_L99 {p : Program} {l : Launch} {e : Env} {s : State} {m : MethodId} {args : Array Value} {below : List Frame} {meth : Method} {c : Code} {D : va_G} {A : Nat → Prop} {ad : Nat → Nat} {cI cX : ClassId} {r : Int32} {σ' : xSt} {c8 : Int32 → Int32 → xSt → Option (Int32 × xSt)} (X : xX p s m args c cX9_isSmelt 5 RX9 D (tyM cI cX) A (wM ad cI cX)) (hr : meth.sig.returnType = (some .boolean)) (hl : meth.locks = false) (F : Nat) (hc8 : ∀ (v1 : Int32) (v2 : Int32) (σ : xSt), c8 v1 v2 σ = some (r, σ') → xG p l e ({ frames := 4, cells := 0, slots := 0, locals := 89 }) s m args below meth c (MQ below (xQi D A (wM ad cI cX) r σ') args s 0 0 A) 5 D A (wM ad cI cX) σ 8 [(0, .ref (ad 0)), (1, .int v1), (2, .int v2)] []) (v1 : Int32) (v2 : Int32) (σ : xSt) (h : mX9_isSmelt_L99 F c8 v1 v2 σ = some (r, σ')) : xG p l e ({ frames := 4, cells := 0, slots := 0, locals := 89 }) s m args below meth c (MQ below (xQi D A (wM ad cI cX) r σ') args s 0 0 A) 5 D A (wM ad cI cX) σ 99 [(0, .ref (ad 0)), (1, .int v1), (2, .int v2)] [] := by
  unfold mX9_isSmelt_L99 at h
  refine x_iinc (pc := 99) (v := (v2 + 1)) (lv' := [(2, .int (v2 + 1)), (0, .ref (ad 0)), (1, .int v1)]) X dX9_isSmelt_99 2 rfl rfl (by decide) rfl ?_
  refine x_goto (pc := 102) X 8 dX9_isSmelt_102 (by decide) ?_
  refine x_sub [1, 2, 0] rfl ?_
  exact hc8 _ _ _ h
set_option maxRecDepth 100000 in
set_option maxHeartbeats 4000000 in
theorem wX9_isSmelt_L92 {p : Program} {l : Launch} {e : Env} {s : State} {m : MethodId} {args : Array Value} {below : List Frame} {meth : Method} {c : Code} {D : va_G} {A : Nat → Prop} {ad : Nat → Nat} {cI cX : ClassId} {r : Int32} {σ' : xSt} {c8 : Int32 → Int32 → xSt → Option (Int32 × xSt)} {c25 : Int32 → Int32 → Int32 → xSt → Option (Int32 × xSt)} (X : xX p s m args c cX9_isSmelt 5 RX9 D (tyM cI cX) A (wM ad cI cX)) (hr : meth.sig.returnType = (some .boolean)) (hl : meth.locks = false) (F : Nat) (hc8 : ∀ (v1 : Int32) (v2 : Int32) (σ : xSt), c8 v1 v2 σ = some (r, σ') → xG p l e ({ frames := 4, cells := 0, slots := 0, locals := 89 }) s m args below meth c (MQ below (xQi D A (wM ad cI cX) r σ') args s 0 0 A) 5 D A (wM ad cI cX) σ 8 [(0, .ref (ad 0)), (1, .int v1), (2, .int v2)] []) (hc25 : ∀ (v1 : Int32) (v2 : Int32) (v3 : Int32) (σ : xSt), c25 v1 v2 v3 σ = some (r, σ') → xG p l e ({ frames := 4, cells := 0, slots := 0, locals := 89 }) s m args below meth c (MQ below (xQi D A (wM ad cI cX) r σ') args s 0 0 A) 5 D A (wM ad cI cX) σ 25 [(0, .ref (ad 0)), (1, .int v1), (2, .int v2), (3, .int v3)] []) (v2 : Int32) (v3 : Int32) (t0 : Int32) (σ : xSt) (h : mX9_isSmelt_L92 F c8 c25 v2 v3 t0 σ = some (r, σ')) : xG p l e ({ frames := 4, cells := 0, slots := 0, locals := 89 }) s m args below meth c (MQ below (xQi D A (wM ad cI cX) r σ') args s 0 0 A) 5 D A (wM ad cI cX) σ 92 [(0, .ref (ad 0)), (2, .int v2), (3, .int v3)] [.int t0] := by
  unfold mX9_isSmelt_L92 at h
  refine x_istore_n (pc := 92) (lv' := [(1, .int t0), (0, .ref (ad 0)), (2, .int v2), (3, .int v3)]) X dX9_isSmelt_92 rfl (by decide) rfl ?_
  refine x_iinc (pc := 93) (v := (v3 + 1)) (lv' := [(3, .int (v3 + 1)), (1, .int t0), (0, .ref (ad 0)), (2, .int v2)]) X dX9_isSmelt_93 3 rfl rfl (by decide) rfl ?_
  refine x_goto (pc := 96) X 25 dX9_isSmelt_96 (by decide) ?_
  refine x_sub [2, 1, 3, 0] rfl ?_
  exact hc25 _ _ _ _ h
set_option maxRecDepth 100000 in
set_option maxHeartbeats 4000000 in
theorem wX9_isSmelt_L91 {p : Program} {l : Launch} {e : Env} {s : State} {m : MethodId} {args : Array Value} {below : List Frame} {meth : Method} {c : Code} {D : va_G} {A : Nat → Prop} {ad : Nat → Nat} {cI cX : ClassId} {r : Int32} {σ' : xSt} {c8 : Int32 → Int32 → xSt → Option (Int32 × xSt)} {c25 : Int32 → Int32 → Int32 → xSt → Option (Int32 × xSt)} (X : xX p s m args c cX9_isSmelt 5 RX9 D (tyM cI cX) A (wM ad cI cX)) (hr : meth.sig.returnType = (some .boolean)) (hl : meth.locks = false) (F : Nat) (hc8 : ∀ (v1 : Int32) (v2 : Int32) (σ : xSt), c8 v1 v2 σ = some (r, σ') → xG p l e ({ frames := 4, cells := 0, slots := 0, locals := 89 }) s m args below meth c (MQ below (xQi D A (wM ad cI cX) r σ') args s 0 0 A) 5 D A (wM ad cI cX) σ 8 [(0, .ref (ad 0)), (1, .int v1), (2, .int v2)] []) (hc25 : ∀ (v1 : Int32) (v2 : Int32) (v3 : Int32) (σ : xSt), c25 v1 v2 v3 σ = some (r, σ') → xG p l e ({ frames := 4, cells := 0, slots := 0, locals := 89 }) s m args below meth c (MQ below (xQi D A (wM ad cI cX) r σ') args s 0 0 A) 5 D A (wM ad cI cX) σ 25 [(0, .ref (ad 0)), (1, .int v1), (2, .int v2), (3, .int v3)] []) (v2 : Int32) (v3 : Int32) (σ : xSt) (h : mX9_isSmelt_L91 F c8 c25 v2 v3 σ = some (r, σ')) : xG p l e ({ frames := 4, cells := 0, slots := 0, locals := 89 }) s m args below meth c (MQ below (xQi D A (wM ad cI cX) r σ') args s 0 0 A) 5 D A (wM ad cI cX) σ 91 [(0, .ref (ad 0)), (2, .int v2), (3, .int v3)] [] := by
  unfold mX9_isSmelt_L91 at h
  refine x_iconst (pc := 91) (v := 0) X dX9_isSmelt_91 (by decide) ?_
  refine x_sub [0, 1, 2] rfl ?_
  exact wX9_isSmelt_L92 X hr hl F hc8 hc25 _ _ _ _ h
set_option maxRecDepth 100000 in
set_option maxHeartbeats 4000000 in
theorem wX9_isSmelt_L87 {p : Program} {l : Launch} {e : Env} {s : State} {m : MethodId} {args : Array Value} {below : List Frame} {meth : Method} {c : Code} {D : va_G} {A : Nat → Prop} {ad : Nat → Nat} {cI cX : ClassId} {r : Int32} {σ' : xSt} {c8 : Int32 → Int32 → xSt → Option (Int32 × xSt)} {c25 : Int32 → Int32 → Int32 → xSt → Option (Int32 × xSt)} (X : xX p s m args c cX9_isSmelt 5 RX9 D (tyM cI cX) A (wM ad cI cX)) (hr : meth.sig.returnType = (some .boolean)) (hl : meth.locks = false) (F : Nat) (hc8 : ∀ (v1 : Int32) (v2 : Int32) (σ : xSt), c8 v1 v2 σ = some (r, σ') → xG p l e ({ frames := 4, cells := 0, slots := 0, locals := 89 }) s m args below meth c (MQ below (xQi D A (wM ad cI cX) r σ') args s 0 0 A) 5 D A (wM ad cI cX) σ 8 [(0, .ref (ad 0)), (1, .int v1), (2, .int v2)] []) (hc25 : ∀ (v1 : Int32) (v2 : Int32) (v3 : Int32) (σ : xSt), c25 v1 v2 v3 σ = some (r, σ') → xG p l e ({ frames := 4, cells := 0, slots := 0, locals := 89 }) s m args below meth c (MQ below (xQi D A (wM ad cI cX) r σ') args s 0 0 A) 5 D A (wM ad cI cX) σ 25 [(0, .ref (ad 0)), (1, .int v1), (2, .int v2), (3, .int v3)] []) (v2 : Int32) (v3 : Int32) (σ : xSt) (h : mX9_isSmelt_L87 F c8 c25 v2 v3 σ = some (r, σ')) : xG p l e ({ frames := 4, cells := 0, slots := 0, locals := 89 }) s m args below meth c (MQ below (xQi D A (wM ad cI cX) r σ') args s 0 0 A) 5 D A (wM ad cI cX) σ 87 [(0, .ref (ad 0)), (2, .int v2), (3, .int v3)] [] := by
  unfold mX9_isSmelt_L87 at h
  refine x_iconst (pc := 87) (v := 1) X dX9_isSmelt_87 (by decide) ?_
  refine x_goto (pc := 88) X 92 dX9_isSmelt_88 (by decide) ?_
  refine x_sub [0, 1, 2] rfl ?_
  exact wX9_isSmelt_L92 X hr hl F hc8 hc25 _ _ _ _ h
set_option maxRecDepth 100000 in
set_option maxHeartbeats 4000000 in
theorem wX9_isSmelt_L60 {p : Program} {l : Launch} {e : Env} {s : State} {m : MethodId} {args : Array Value} {below : List Frame} {meth : Method} {c : Code} {D : va_G} {A : Nat → Prop} {ad : Nat → Nat} {cI cX : ClassId} {r : Int32} {σ' : xSt} {c8 : Int32 → Int32 → xSt → Option (Int32 × xSt)} {c25 : Int32 → Int32 → Int32 → xSt → Option (Int32 × xSt)} (X : xX p s m args c cX9_isSmelt 5 RX9 D (tyM cI cX) A (wM ad cI cX)) (hr : meth.sig.returnType = (some .boolean)) (hl : meth.locks = false) (F : Nat) (hc8 : ∀ (v1 : Int32) (v2 : Int32) (σ : xSt), c8 v1 v2 σ = some (r, σ') → xG p l e ({ frames := 4, cells := 0, slots := 0, locals := 89 }) s m args below meth c (MQ below (xQi D A (wM ad cI cX) r σ') args s 0 0 A) 5 D A (wM ad cI cX) σ 8 [(0, .ref (ad 0)), (1, .int v1), (2, .int v2)] []) (hc25 : ∀ (v1 : Int32) (v2 : Int32) (v3 : Int32) (σ : xSt), c25 v1 v2 v3 σ = some (r, σ') → xG p l e ({ frames := 4, cells := 0, slots := 0, locals := 89 }) s m args below meth c (MQ below (xQi D A (wM ad cI cX) r σ') args s 0 0 A) 5 D A (wM ad cI cX) σ 25 [(0, .ref (ad 0)), (1, .int v1), (2, .int v2), (3, .int v3)] []) (v1 : Int32) (v2 : Int32) (v3 : Int32) (t0 : Int32) (σ : xSt) (h : mX9_isSmelt_L60 F c8 c25 v1 v2 v3 t0 σ = some (r, σ')) : xG p l e ({ frames := 4, cells := 0, slots := 0, locals := 89 }) s m args below meth c (MQ below (xQi D A (wM ad cI cX) r σ') args s 0 0 A) 5 D A (wM ad cI cX) σ 60 [(0, .ref (ad 0)), (1, .int v1), (2, .int v2), (3, .int v3)] [.int t0] := by
  unfold mX9_isSmelt_L60 at h
  refine x_istore (pc := 60) (lv' := [(4, .int t0), (0, .ref (ad 0)), (1, .int v1), (2, .int v2), (3, .int v3)]) X dX9_isSmelt_60 (by decide) rfl ?_
  refine x_iload_n (pc := 62) X dX9_isSmelt_62 rfl 2 rfl ?_
  refine x_if_eq (pc := 63) X 91 dX9_isSmelt_63 (by decide) (fun hc => ?_) (fun hc => ?_)
  · have h := xit hc h
    refine x_sub [1, 3, 4] rfl ?_
    exact wX9_isSmelt_L91 X hr hl F hc8 hc25 _ _ _ h
  · have h := xif hc h
    refine x_aload_n (pc := 66) X dX9_isSmelt_66 rfl 1 rfl ?_
    refine gX9_68 (pc := 67) X dX9_isSmelt_67 ?_
    refine x_iload_n (pc := 70) X dX9_isSmelt_70 rfl 4 rfl ?_
    obtain ⟨hb71, h⟩ := xck_some h
    refine x_iald (pc := 71) X 20 0 (qaX9_smeltHour) rfl hb71 dX9_isSmelt_71 ?_
    refine x_iload_n (pc := 72) X dX9_isSmelt_72 rfl 3 rfl ?_
    refine x_icmp_ne (pc := 73) X 87 dX9_isSmelt_73 (by decide) (fun hc => ?_) (fun hc => ?_)
    · have h := xif hc h
      refine x_sub [1, 3, 4] rfl ?_
      exact wX9_isSmelt_L87 X hr hl F hc8 hc25 _ _ _ h
    · have h := xit hc h
      refine x_iload (pc := 76) X dX9_isSmelt_76 0 rfl ?_
      refine x_aload_n (pc := 78) X dX9_isSmelt_78 rfl 1 rfl ?_
      refine gX9_74 (pc := 79) X dX9_isSmelt_79 ?_
      refine x_iload_n (pc := 82) X dX9_isSmelt_82 rfl 4 rfl ?_
      obtain ⟨hb83, h⟩ := xck_some h
      refine x_iald (pc := 83) X 22 0 (qaX9_smeltSet) rfl hb83 dX9_isSmelt_83 ?_
      refine x_icmp_ne (pc := 84) X 91 dX9_isSmelt_84 (by decide) (fun hc => ?_) (fun hc => ?_)
      · have h := xif hc h
        refine x_sub [1, 3, 4] rfl ?_
        exact wX9_isSmelt_L91 X hr hl F hc8 hc25 _ _ _ h
      · have h := xit hc h
        refine x_sub [1, 3, 4] rfl ?_
        exact wX9_isSmelt_L87 X hr hl F hc8 hc25 _ _ _ h
set_option maxRecDepth 100000 in
set_option maxHeartbeats 4000000 in
theorem wX9_isSmelt_S25 {p : Program} {l : Launch} {e : Env} {s : State} {m : MethodId} {args : Array Value} {below : List Frame} {meth : Method} {c : Code} {D : va_G} {A : Nat → Prop} {ad : Nat → Nat} {cI cX : ClassId} {r : Int32} {σ' : xSt} {c8 : Int32 → Int32 → xSt → Option (Int32 × xSt)} {c25 : Int32 → Int32 → Int32 → xSt → Option (Int32 × xSt)} (X : xX p s m args c cX9_isSmelt 5 RX9 D (tyM cI cX) A (wM ad cI cX)) (hr : meth.sig.returnType = (some .boolean)) (hl : meth.locks = false) (F : Nat) (hc8 : ∀ (v1 : Int32) (v2 : Int32) (σ : xSt), c8 v1 v2 σ = some (r, σ') → xG p l e ({ frames := 4, cells := 0, slots := 0, locals := 89 }) s m args below meth c (MQ below (xQi D A (wM ad cI cX) r σ') args s 0 0 A) 5 D A (wM ad cI cX) σ 8 [(0, .ref (ad 0)), (1, .int v1), (2, .int v2)] []) (hc25 : ∀ (v1 : Int32) (v2 : Int32) (v3 : Int32) (σ : xSt), c25 v1 v2 v3 σ = some (r, σ') → xG p l e ({ frames := 4, cells := 0, slots := 0, locals := 89 }) s m args below meth c (MQ below (xQi D A (wM ad cI cX) r σ') args s 0 0 A) 5 D A (wM ad cI cX) σ 25 [(0, .ref (ad 0)), (1, .int v1), (2, .int v2), (3, .int v3)] []) (v1 : Int32) (v2 : Int32) (v3 : Int32) (σ : xSt) (h : mX9_isSmelt_S25 F c8 c25 v1 v2 v3 σ = some (r, σ')) : xG p l e ({ frames := 4, cells := 0, slots := 0, locals := 89 }) s m args below meth c (MQ below (xQi D A (wM ad cI cX) r σ') args s 0 0 A) 5 D A (wM ad cI cX) σ 25 [(0, .ref (ad 0)), (1, .int v1), (2, .int v2), (3, .int v3)] [] := by
  unfold mX9_isSmelt_S25 at h
  refine x_iload_n (pc := 25) X dX9_isSmelt_25 rfl 3 rfl ?_
  refine x_aload_n (pc := 26) X dX9_isSmelt_26 rfl 0 rfl ?_
  refine gX9_282 (pc := 27) X dX9_isSmelt_27 ?_
  refine x_icmp_ge (pc := 30) X 99 dX9_isSmelt_30 (by decide) (fun hc => ?_) (fun hc => ?_)
  · have h := xit hc h
    refine x_sub [0, 1, 2] rfl ?_
    exact wX9_isSmelt_L99 X hr hl F hc8 _ _ _ h
  · have h := xif hc h
    refine x_aload_n (pc := 33) X dX9_isSmelt_33 rfl 0 rfl ?_
    refine gX9_71 (pc := 34) X dX9_isSmelt_34 ?_
    refine x_iload_n (pc := 37) X dX9_isSmelt_37 rfl 3 rfl ?_
    obtain ⟨hb38, h⟩ := xck_some h
    refine x_iald (pc := 38) X 21 0 (qaX9_smeltThing) rfl hb38 dX9_isSmelt_38 ?_
    refine x_aload_n (pc := 39) X dX9_isSmelt_39 rfl 0 rfl ?_
    refine gX9_109 (pc := 40) X dX9_isSmelt_40 ?_
    refine x_icmp_ge (pc := 43) X 59 dX9_isSmelt_43 (by decide) (fun hc => ?_) (fun hc => ?_)
    · have h := xit hc h
      refine x_iconst (pc := 59) (v := 0) X dX9_isSmelt_59 (by decide) ?_
      refine x_sub [0, 1, 2, 3] rfl ?_
      exact wX9_isSmelt_L60 X hr hl F hc8 hc25 _ _ _ _ _ h
    · have h := xif hc h
      refine x_aload_n (pc := 46) X dX9_isSmelt_46 rfl 0 rfl ?_
      refine x_aload_n (pc := 47) X dX9_isSmelt_47 rfl 0 rfl ?_
      refine gX9_71 (pc := 48) X dX9_isSmelt_48 ?_
      refine x_iload_n (pc := 51) X dX9_isSmelt_51 rfl 3 rfl ?_
      obtain ⟨hb52, h⟩ := xck_some h
      refine x_iald (pc := 52) X 21 0 (qaX9_smeltThing) rfl hb52 dX9_isSmelt_52 ?_
      obtain ⟨r53, σ53, hq53, h⟩ := xb2_some h
      refine x_calliV (pc := 53) (As := [.int (xA σ 29 (Int32.toNatClampNeg v3))]) (rest := []) X (kX9_tellsNow l X.2.2.2.2.2.2.2 F _ _ _ _ hq53) kvX9_215 rfl (qX9) ⟨rfl, rfl, Nat.le_of_ble_eq_true rfl, Nat.le_of_ble_eq_true rfl⟩ rfl rfl (Nat.le_of_ble_eq_true rfl) dX9_isSmelt_53 ?_
      refine x_goto (pc := 56) X 60 dX9_isSmelt_56 (by decide) ?_
      refine x_sub [0, 1, 2, 3] rfl ?_
      exact wX9_isSmelt_L60 X hr hl F hc8 hc25 _ _ _ _ _ h
theorem wX9_isSmelt_L25 {p : Program} {l : Launch} {e : Env} {s : State} {m : MethodId} {args : Array Value} {below : List Frame} {meth : Method} {c : Code} {D : va_G} {A : Nat → Prop} {ad : Nat → Nat} {cI cX : ClassId} {r : Int32} {σ' : xSt} {c8 : Int32 → Int32 → xSt → Option (Int32 × xSt)} (X : xX p s m args c cX9_isSmelt 5 RX9 D (tyM cI cX) A (wM ad cI cX)) (hr : meth.sig.returnType = (some .boolean)) (hl : meth.locks = false) (F : Nat) (hc8 : ∀ (v1 : Int32) (v2 : Int32) (σ : xSt), c8 v1 v2 σ = some (r, σ') → xG p l e ({ frames := 4, cells := 0, slots := 0, locals := 89 }) s m args below meth c (MQ below (xQi D A (wM ad cI cX) r σ') args s 0 0 A) 5 D A (wM ad cI cX) σ 8 [(0, .ref (ad 0)), (1, .int v1), (2, .int v2)] []) : ∀ (n : Nat) (v1 : Int32) (v2 : Int32) (v3 : Int32) (σ : xSt), mX9_isSmelt_L25 F c8 n v1 v2 v3 σ = some (r, σ') → xG p l e ({ frames := 4, cells := 0, slots := 0, locals := 89 }) s m args below meth c (MQ below (xQi D A (wM ad cI cX) r σ') args s 0 0 A) 5 D A (wM ad cI cX) σ 25 [(0, .ref (ad 0)), (1, .int v1), (2, .int v2), (3, .int v3)] [] := by
  intro n
  induction n with
  | zero => intro v1 v2 v3 σ h; cases h
  | succ n ih => intro v1 v2 v3 σ h; exact wX9_isSmelt_S25 X hr hl F hc8 ih v1 v2 v3 σ h
set_option maxRecDepth 100000 in
set_option maxHeartbeats 4000000 in
theorem wX9_isSmelt_S8 {p : Program} {l : Launch} {e : Env} {s : State} {m : MethodId} {args : Array Value} {below : List Frame} {meth : Method} {c : Code} {D : va_G} {A : Nat → Prop} {ad : Nat → Nat} {cI cX : ClassId} {r : Int32} {σ' : xSt} {c8 : Int32 → Int32 → xSt → Option (Int32 × xSt)} (X : xX p s m args c cX9_isSmelt 5 RX9 D (tyM cI cX) A (wM ad cI cX)) (hr : meth.sig.returnType = (some .boolean)) (hl : meth.locks = false) (F : Nat) (hc8 : ∀ (v1 : Int32) (v2 : Int32) (σ : xSt), c8 v1 v2 σ = some (r, σ') → xG p l e ({ frames := 4, cells := 0, slots := 0, locals := 89 }) s m args below meth c (MQ below (xQi D A (wM ad cI cX) r σ') args s 0 0 A) 5 D A (wM ad cI cX) σ 8 [(0, .ref (ad 0)), (1, .int v1), (2, .int v2)] []) (v1 : Int32) (v2 : Int32) (σ : xSt) (h : mX9_isSmelt_S8 F c8 v1 v2 σ = some (r, σ')) : xG p l e ({ frames := 4, cells := 0, slots := 0, locals := 89 }) s m args below meth c (MQ below (xQi D A (wM ad cI cX) r σ') args s 0 0 A) 5 D A (wM ad cI cX) σ 8 [(0, .ref (ad 0)), (1, .int v1), (2, .int v2)] [] := by
  unfold mX9_isSmelt_S8 at h
  refine x_iload_n (pc := 8) X dX9_isSmelt_8 rfl 2 rfl ?_
  refine x_bipush (pc := 9) (v := 24) X dX9_isSmelt_9 (by decide) ?_
  refine x_icmp_ge (pc := 11) X 105 dX9_isSmelt_11 (by decide) (fun hc => ?_) (fun hc => ?_)
  · have h := xit hc h
    refine x_sub [1] rfl ?_
    exact wX9_isSmelt_L105 X hr hl F _ _ h
  · have h := xif hc h
    refine x_iload_n (pc := 14) X dX9_isSmelt_14 rfl 1 rfl ?_
    refine x_if_eq (pc := 15) X 105 dX9_isSmelt_15 (by decide) (fun hc => ?_) (fun hc => ?_)
    · have h := xit hc h
      refine x_sub [1] rfl ?_
      exact wX9_isSmelt_L105 X hr hl F _ _ h
    · have h := xif hc h
      refine x_aload_n (pc := 18) X dX9_isSmelt_18 rfl 0 rfl ?_
      refine x_iload_n (pc := 19) X dX9_isSmelt_19 rfl 2 rfl ?_
      obtain ⟨σ20, hq20, h⟩ := xb1_some h
      refine x_callvV (pc := 20) (As := [.int v2]) (rest := []) X (kX9_goesBy l X.2.2.2.2.2.2.2 F _ _ _ hq20) kvX9_206 rfl (qX9) ⟨rfl, rfl, Nat.le_of_ble_eq_true rfl, Nat.le_of_ble_eq_true rfl⟩ rfl rfl (Nat.le_of_ble_eq_true rfl) dX9_isSmelt_20 ?_
      refine x_iconst (pc := 23) (v := 0) X dX9_isSmelt_23 (by decide) ?_
      refine x_istore_n (pc := 24) (lv' := [(3, .int 0), (0, .ref (ad 0)), (1, .int v1), (2, .int v2)]) X dX9_isSmelt_24 rfl (by decide) rfl ?_
      refine x_sub [1, 2, 3, 0] rfl ?_
      exact wX9_isSmelt_L25 X hr hl F hc8 F _ _ _ _ h
theorem wX9_isSmelt_L8 {p : Program} {l : Launch} {e : Env} {s : State} {m : MethodId} {args : Array Value} {below : List Frame} {meth : Method} {c : Code} {D : va_G} {A : Nat → Prop} {ad : Nat → Nat} {cI cX : ClassId} {r : Int32} {σ' : xSt} (X : xX p s m args c cX9_isSmelt 5 RX9 D (tyM cI cX) A (wM ad cI cX)) (hr : meth.sig.returnType = (some .boolean)) (hl : meth.locks = false) (F : Nat) : ∀ (n : Nat) (v1 : Int32) (v2 : Int32) (σ : xSt), mX9_isSmelt_L8 F n v1 v2 σ = some (r, σ') → xG p l e ({ frames := 4, cells := 0, slots := 0, locals := 89 }) s m args below meth c (MQ below (xQi D A (wM ad cI cX) r σ') args s 0 0 A) 5 D A (wM ad cI cX) σ 8 [(0, .ref (ad 0)), (1, .int v1), (2, .int v2)] [] := by
  intro n
  induction n with
  | zero => intro v1 v2 σ h; cases h
  | succ n ih => intro v1 v2 σ h; exact wX9_isSmelt_S8 X hr hl F ih v1 v2 σ h
set_option maxRecDepth 100000 in
set_option maxHeartbeats 4000000 in
theorem kX9_isSmelt (l : Launch) {D : va_G} {A : Nat → Prop} {ad : Nat → Nat} {cI cX : ClassId} (hD : ∀ σ, va_D A ((wM ad cI cX) σ)) (F : Nat) (σ : xSt) (r : Int32) (σ' : xSt) (h : mX9_isSmelt F σ = some (r, σ')) : xM l yX9_isSmelt cX9_isSmelt 5 (some .boolean) ({ frames := 4, cells := 0, slots := 0, locals := 89 }) D (tyM cI cX) A (wM ad cI cX) [.ref (ad 0)] σ (xQi D A (wM ad cI cX) r σ') := by
  refine xM_of (lv := [(0, .ref (ad 0))]) [.ref (ad 0)] (by decide) hD rfl (Nat.le_of_ble_eq_true rfl) ?_
  intro p e s m args below meth c X hr hl
  unfold mX9_isSmelt at h
  refine x_iconst (pc := 0) (v := 1) X dX9_isSmelt_0 (by decide) ?_
  refine x_istore_n (pc := 1) (lv' := [(1, .int 1), (0, .ref (ad 0))]) X dX9_isSmelt_1 rfl (by decide) rfl ?_
  refine x_aload_n (pc := 2) X dX9_isSmelt_2 rfl 1 rfl ?_
  obtain ⟨σ3, hq3, h⟩ := xb1_some h
  refine x_callvV (pc := 3) (As := []) (rest := []) X (kX9_begins l X.2.2.2.2.2.2.2 F _ _ hq3) kvX9_203 rfl (qX9) ⟨rfl, rfl, Nat.le_of_ble_eq_true rfl, Nat.le_of_ble_eq_true rfl⟩ rfl rfl (Nat.le_of_ble_eq_true rfl) dX9_isSmelt_3 ?_
  refine x_iconst (pc := 6) (v := 0) X dX9_isSmelt_6 (by decide) ?_
  refine x_istore_n (pc := 7) (lv' := [(2, .int 0), (1, .int 1), (0, .ref (ad 0))]) X dX9_isSmelt_7 rfl (by decide) rfl ?_
  refine x_sub [2, 1, 0] rfl ?_
  exact wX9_isSmelt_L8 X hr hl F F _ _ _ h
set_option maxRecDepth 100000 in
set_option maxHeartbeats 4000000 in
theorem wX9_whenOf_L66 {p : Program} {l : Launch} {e : Env} {s : State} {m : MethodId} {args : Array Value} {below : List Frame} {meth : Method} {c : Code} {D : va_G} {A : Nat → Prop} {ad : Nat → Nat} {cI cX : ClassId} {r : Int32} {σ' : xSt} (X : xX p s m args c cX9_whenOf 5 RX9 D (tyM cI cX) A (wM ad cI cX)) (hr : meth.sig.returnType = (some .int)) (hl : meth.locks = false) (F : Nat) (v3 : Int32) (σ : xSt) (h : mX9_whenOf_L66 F v3 σ = some (r, σ')) : xG p l e ({ frames := 5, cells := 0, slots := 0, locals := 117 }) s m args below meth c (MQ below (xQi D A (wM ad cI cX) r σ') args s 0 0 A) 5 D A (wM ad cI cX) σ 66 [(3, .int v3)] [] := by
  unfold mX9_whenOf_L66 at h
  refine x_iload_n (pc := 66) X dX9_whenOf_66 rfl 0 rfl ?_
  exact x_iret (pc := 67) X hr hl h dX9_whenOf_67
set_option maxRecDepth 100000 in
set_option maxHeartbeats 4000000 in
theorem wX9_whenOf_L58 {p : Program} {l : Launch} {e : Env} {s : State} {m : MethodId} {args : Array Value} {below : List Frame} {meth : Method} {c : Code} {D : va_G} {A : Nat → Prop} {ad : Nat → Nat} {cI cX : ClassId} {r : Int32} {σ' : xSt} {c23 : Int32 → Int32 → Int32 → Int32 → xSt → Option (Int32 × xSt)} (X : xX p s m args c cX9_whenOf 5 RX9 D (tyM cI cX) A (wM ad cI cX)) (hr : meth.sig.returnType = (some .int)) (hl : meth.locks = false) (F : Nat) (hc23 : ∀ (v1 : Int32) (v2 : Int32) (v3 : Int32) (v4 : Int32) (σ : xSt), c23 v1 v2 v3 v4 σ = some (r, σ') → xG p l e ({ frames := 5, cells := 0, slots := 0, locals := 117 }) s m args below meth c (MQ below (xQi D A (wM ad cI cX) r σ') args s 0 0 A) 5 D A (wM ad cI cX) σ 23 [(0, .ref (ad 0)), (1, .int v1), (2, .int v2), (3, .int v3), (4, .int v4)] []) (v1 : Int32) (v2 : Int32) (v4 : Int32) (t0 : Int32) (t1 : Int32) (σ : xSt) (h : mX9_whenOf_L58 F c23 v1 v2 v4 t0 t1 σ = some (r, σ')) : xG p l e ({ frames := 5, cells := 0, slots := 0, locals := 117 }) s m args below meth c (MQ below (xQi D A (wM ad cI cX) r σ') args s 0 0 A) 5 D A (wM ad cI cX) σ 58 [(0, .ref (ad 0)), (1, .int v1), (2, .int v2), (4, .int v4)] [.int t1, .int t0] := by
  unfold mX9_whenOf_L58 at h
  refine x_ior (pc := 58) X dX9_whenOf_58 ?_
  refine x_istore_n (pc := 59) (lv' := [(3, .int (t0 ||| t1)), (0, .ref (ad 0)), (1, .int v1), (2, .int v2), (4, .int v4)]) X dX9_whenOf_59 rfl (by decide) rfl ?_
  refine x_iinc (pc := 60) (v := (v4 + 1)) (lv' := [(4, .int (v4 + 1)), (3, .int (t0 ||| t1)), (0, .ref (ad 0)), (1, .int v1), (2, .int v2)]) X dX9_whenOf_60 4 rfl rfl (by decide) rfl ?_
  refine x_goto (pc := 63) X 23 dX9_whenOf_63 (by decide) ?_
  refine x_sub [2, 3, 4, 1, 0] rfl ?_
  exact hc23 _ _ _ _ _ h
set_option maxRecDepth 100000 in
set_option maxHeartbeats 4000000 in
theorem wX9_whenOf_S23 {p : Program} {l : Launch} {e : Env} {s : State} {m : MethodId} {args : Array Value} {below : List Frame} {meth : Method} {c : Code} {D : va_G} {A : Nat → Prop} {ad : Nat → Nat} {cI cX : ClassId} {r : Int32} {σ' : xSt} {c23 : Int32 → Int32 → Int32 → Int32 → xSt → Option (Int32 × xSt)} (X : xX p s m args c cX9_whenOf 5 RX9 D (tyM cI cX) A (wM ad cI cX)) (hr : meth.sig.returnType = (some .int)) (hl : meth.locks = false) (F : Nat) (hc23 : ∀ (v1 : Int32) (v2 : Int32) (v3 : Int32) (v4 : Int32) (σ : xSt), c23 v1 v2 v3 v4 σ = some (r, σ') → xG p l e ({ frames := 5, cells := 0, slots := 0, locals := 117 }) s m args below meth c (MQ below (xQi D A (wM ad cI cX) r σ') args s 0 0 A) 5 D A (wM ad cI cX) σ 23 [(0, .ref (ad 0)), (1, .int v1), (2, .int v2), (3, .int v3), (4, .int v4)] []) (v1 : Int32) (v2 : Int32) (v3 : Int32) (v4 : Int32) (σ : xSt) (h : mX9_whenOf_S23 F c23 v1 v2 v3 v4 σ = some (r, σ')) : xG p l e ({ frames := 5, cells := 0, slots := 0, locals := 117 }) s m args below meth c (MQ below (xQi D A (wM ad cI cX) r σ') args s 0 0 A) 5 D A (wM ad cI cX) σ 23 [(0, .ref (ad 0)), (1, .int v1), (2, .int v2), (3, .int v3), (4, .int v4)] [] := by
  unfold mX9_whenOf_S23 at h
  refine x_iload (pc := 23) X dX9_whenOf_23 4 rfl ?_
  refine x_bipush (pc := 25) (v := 24) X dX9_whenOf_25 (by decide) ?_
  refine x_icmp_ge (pc := 27) X 66 dX9_whenOf_27 (by decide) (fun hc => ?_) (fun hc => ?_)
  · have h := xit hc h
    refine x_sub [3] rfl ?_
    exact wX9_whenOf_L66 X hr hl F _ _ h
  · have h := xif hc h
    refine x_aload_n (pc := 30) X dX9_whenOf_30 rfl 0 rfl ?_
    refine x_aload_n (pc := 31) X dX9_whenOf_31 rfl 0 rfl ?_
    refine gX9_151 (pc := 32) X dX9_whenOf_32 ?_
    refine x_iload (pc := 35) X dX9_whenOf_35 4 rfl ?_
    refine x_iload_n (pc := 37) X dX9_whenOf_37 rfl 1 rfl ?_
    refine x_iload_n (pc := 38) X dX9_whenOf_38 rfl 2 rfl ?_
    obtain ⟨σ39, hq39, h⟩ := xb1_some h
    refine x_callvV (pc := 39) (As := [.int (xI σ 10), .int v4, .int v1, .int v2]) (rest := []) X (kX9_laysSit l X.2.2.2.2.2.2.2 F _ _ _ _ _ _ hq39) kvX9_154 rfl (qX9) ⟨rfl, rfl, Nat.le_of_ble_eq_true rfl, Nat.le_of_ble_eq_true rfl⟩ rfl rfl (Nat.le_of_ble_eq_true rfl) dX9_whenOf_39 ?_
    refine x_iload_n (pc := 42) X dX9_whenOf_42 rfl 3 rfl ?_
    refine x_aload_n (pc := 43) X dX9_whenOf_43 rfl 0 rfl ?_
    obtain ⟨r44, σ44, hq44, h⟩ := xb2_some h
    refine x_calliV (pc := 44) (As := []) (rest := [.int v3]) X (kX9_isSmelt l X.2.2.2.2.2.2.2 F _ _ _ hq44) kvX9_285 rfl (qX9) ⟨rfl, rfl, Nat.le_of_ble_eq_true rfl, Nat.le_of_ble_eq_true rfl⟩ rfl rfl (Nat.le_of_ble_eq_true rfl) dX9_whenOf_44 ?_
    refine x_if_eq (pc := 47) X 57 dX9_whenOf_47 (by decide) (fun hc => ?_) (fun hc => ?_)
    · have h := xit hc h
      refine x_iconst (pc := 57) (v := 0) X dX9_whenOf_57 (by decide) ?_
      refine x_sub [0, 1, 2, 4] rfl ?_
      exact wX9_whenOf_L58 X hr hl F hc23 _ _ _ _ _ _ h
    · have h := xif hc h
      refine x_iconst (pc := 50) (v := 1) X dX9_whenOf_50 (by decide) ?_
      refine x_iload (pc := 51) X dX9_whenOf_51 4 rfl ?_
      refine x_ishl (pc := 53) X dX9_whenOf_53 ?_
      refine x_goto (pc := 54) X 58 dX9_whenOf_54 (by decide) ?_
      refine x_sub [0, 1, 2, 4] rfl ?_
      exact wX9_whenOf_L58 X hr hl F hc23 _ _ _ _ _ _ h
theorem wX9_whenOf_L23 {p : Program} {l : Launch} {e : Env} {s : State} {m : MethodId} {args : Array Value} {below : List Frame} {meth : Method} {c : Code} {D : va_G} {A : Nat → Prop} {ad : Nat → Nat} {cI cX : ClassId} {r : Int32} {σ' : xSt} (X : xX p s m args c cX9_whenOf 5 RX9 D (tyM cI cX) A (wM ad cI cX)) (hr : meth.sig.returnType = (some .int)) (hl : meth.locks = false) (F : Nat) : ∀ (n : Nat) (v1 : Int32) (v2 : Int32) (v3 : Int32) (v4 : Int32) (σ : xSt), mX9_whenOf_L23 F n v1 v2 v3 v4 σ = some (r, σ') → xG p l e ({ frames := 5, cells := 0, slots := 0, locals := 117 }) s m args below meth c (MQ below (xQi D A (wM ad cI cX) r σ') args s 0 0 A) 5 D A (wM ad cI cX) σ 23 [(0, .ref (ad 0)), (1, .int v1), (2, .int v2), (3, .int v3), (4, .int v4)] [] := by
  intro n
  induction n with
  | zero => intro v1 v2 v3 v4 σ h; cases h
  | succ n ih => intro v1 v2 v3 v4 σ h; exact wX9_whenOf_S23 X hr hl F ih v1 v2 v3 v4 σ h
set_option maxRecDepth 100000 in
set_option maxHeartbeats 4000000 in
theorem kX9_whenOf (l : Launch) {D : va_G} {A : Nat → Prop} {ad : Nat → Nat} {cI cX : ClassId} (hD : ∀ σ, va_D A ((wM ad cI cX) σ)) (F : Nat) (v1 : Int32) (v2 : Int32) (σ : xSt) (r : Int32) (σ' : xSt) (h : mX9_whenOf F v1 v2 σ = some (r, σ')) : xM l yX9_whenOf cX9_whenOf 5 (some .int) ({ frames := 5, cells := 0, slots := 0, locals := 117 }) D (tyM cI cX) A (wM ad cI cX) [.ref (ad 0), .int v1, .int v2] σ (xQi D A (wM ad cI cX) r σ') := by
  refine xM_of (lv := [(0, .ref (ad 0)), (1, .int v1), (2, .int v2)]) [.ref (ad 0), .int v1, .int v2] (by decide) hD rfl (Nat.le_of_ble_eq_true rfl) ?_
  intro p e s m args below meth c X hr hl
  unfold mX9_whenOf at h
  refine x_aload_n (pc := 0) X dX9_whenOf_0 rfl 0 rfl ?_
  obtain ⟨σ1, hq1, h⟩ := xb1_some h
  refine x_callvV (pc := 1) (As := []) (rest := []) X (kX9_reads l X.2.2.2.2.2.2.2 F _ _ hq1) kvX9_127 rfl (qX9) ⟨rfl, rfl, Nat.le_of_ble_eq_true rfl, Nat.le_of_ble_eq_true rfl⟩ rfl rfl (Nat.le_of_ble_eq_true rfl) dX9_whenOf_1 ?_
  refine x_aload_n (pc := 4) X dX9_whenOf_4 rfl 0 rfl ?_
  obtain ⟨σ5, hq5, h⟩ := xb1_some h
  refine x_callvV (pc := 5) (As := []) (rest := []) X (kX9_asTold l X.2.2.2.2.2.2.2 F _ _ hq5) kvX9_209 rfl (qX9) ⟨rfl, rfl, Nat.le_of_ble_eq_true rfl, Nat.le_of_ble_eq_true rfl⟩ rfl rfl (Nat.le_of_ble_eq_true rfl) dX9_whenOf_5 ?_
  refine x_aload_n (pc := 8) X dX9_whenOf_8 rfl 0 rfl ?_
  refine x_dup (pc := 9) X dX9_whenOf_9 rfl ?_
  refine gX9_170 (pc := 10) X dX9_whenOf_10 ?_
  refine x_iconst (pc := 13) (v := 1) X dX9_whenOf_13 (by decide) ?_
  refine x_iadd (pc := 14) X dX9_whenOf_14 ?_
  refine uX9_170 (pc := 15) X dX9_whenOf_15 ?_
  refine x_iconst (pc := 18) (v := 0) X dX9_whenOf_18 (by decide) ?_
  refine x_istore_n (pc := 19) (lv' := [(3, .int 0), (0, .ref (ad 0)), (1, .int v1), (2, .int v2)]) X dX9_whenOf_19 rfl (by decide) rfl ?_
  refine x_iconst (pc := 20) (v := 0) X dX9_whenOf_20 (by decide) ?_
  refine x_istore (pc := 21) (lv' := [(4, .int 0), (3, .int 0), (0, .ref (ad 0)), (1, .int v1), (2, .int v2)]) X dX9_whenOf_21 (by decide) rfl ?_
  refine x_sub [2, 3, 4, 1, 0] rfl ?_
  exact wX9_whenOf_L23 X hr hl F F _ _ _ _ _ h
set_option maxRecDepth 100000 in
set_option maxHeartbeats 4000000 in
theorem wX9_when_L27 {p : Program} {l : Launch} {e : Env} {s : State} {m : MethodId} {args : Array Value} {below : List Frame} {meth : Method} {c : Code} {D : va_G} {A : Nat → Prop} {ad : Nat → Nat} {cI cX : ClassId} {r : Int32} {σ' : xSt} (X : xX p s m args c cX9_when 3 RX9 D (tyM cI cX) A (wM ad cI cX)) (hr : meth.sig.returnType = (some .int)) (hl : meth.locks = false) (F : Nat) (t0 : Int32) (σ : xSt) (h : mX9_when_L27 F t0 σ = some (r, σ')) : xG p l e ({ frames := 6, cells := 0, slots := 0, locals := 141 }) s m args below meth c (MQ below (xQi D A (wM ad cI cX) r σ') args s 0 0 A) 3 D A (wM ad cI cX) σ 27 [] [.int t0] := by
  unfold mX9_when_L27 at h
  exact x_iret (pc := 27) X hr hl h dX9_when_27
set_option maxRecDepth 100000 in
set_option maxHeartbeats 4000000 in
theorem wX9_when_L25 {p : Program} {l : Launch} {e : Env} {s : State} {m : MethodId} {args : Array Value} {below : List Frame} {meth : Method} {c : Code} {D : va_G} {A : Nat → Prop} {ad : Nat → Nat} {cI cX : ClassId} {r : Int32} {σ' : xSt} (X : xX p s m args c cX9_when 3 RX9 D (tyM cI cX) A (wM ad cI cX)) (hr : meth.sig.returnType = (some .int)) (hl : meth.locks = false) (F : Nat) (σ : xSt) (h : mX9_when_L25 F σ = some (r, σ')) : xG p l e ({ frames := 6, cells := 0, slots := 0, locals := 141 }) s m args below meth c (MQ below (xQi D A (wM ad cI cX) r σ') args s 0 0 A) 3 D A (wM ad cI cX) σ 25 [] [] := by
  unfold mX9_when_L25 at h
  refine x_bipush (pc := 25) (v := (-2)) X dX9_when_25 (by decide) ?_
  refine x_sub [] rfl ?_
  exact wX9_when_L27 X hr hl F _ _ h
set_option maxRecDepth 100000 in
set_option maxHeartbeats 4000000 in
theorem kX9_when (l : Launch) {D : va_G} {A : Nat → Prop} {ad : Nat → Nat} {cI cX : ClassId} (hD : ∀ σ, va_D A ((wM ad cI cX) σ)) (F : Nat) (v1 : Int32) (v2 : Int32) (σ : xSt) (r : Int32) (σ' : xSt) (h : mX9_when F v1 v2 σ = some (r, σ')) : xM l yX9_when cX9_when 3 (some .int) ({ frames := 6, cells := 0, slots := 0, locals := 141 }) D (tyM cI cX) A (wM ad cI cX) [.ref (ad 0), .int v1, .int v2] σ (xQi D A (wM ad cI cX) r σ') := by
  refine xM_of (lv := [(0, .ref (ad 0)), (1, .int v1), (2, .int v2)]) [.ref (ad 0), .int v1, .int v2] (by decide) hD rfl (Nat.le_of_ble_eq_true rfl) ?_
  intro p e s m args below meth c X hr hl
  unfold mX9_when at h
  refine x_aload_n (pc := 0) X dX9_when_0 rfl 0 rfl ?_
  refine x_iload_n (pc := 1) X dX9_when_1 rfl 1 rfl ?_
  obtain ⟨r2, σ2, hq2, h⟩ := xb2_some h
  refine x_calliV (pc := 2) (As := [.int v1]) (rest := []) X (kX9_isPerson l X.2.2.2.2.2.2.2 F _ _ _ _ hq2) kvX9_136 rfl (qX9) ⟨rfl, rfl, Nat.le_of_ble_eq_true rfl, Nat.le_of_ble_eq_true rfl⟩ rfl rfl (Nat.le_of_ble_eq_true rfl) dX9_when_2 ?_
  refine x_if_eq (pc := 5) X 25 dX9_when_5 (by decide) (fun hc => ?_) (fun hc => ?_)
  · have h := xit hc h
    refine x_sub [] rfl ?_
    exact wX9_when_L25 X hr hl F _ h
  · have h := xif hc h
    refine x_aload_n (pc := 8) X dX9_when_8 rfl 0 rfl ?_
    refine x_iload_n (pc := 9) X dX9_when_9 rfl 2 rfl ?_
    obtain ⟨r10, σ10, hq10, h⟩ := xb2_some h
    refine x_calliV (pc := 10) (As := [.int v2]) (rest := []) X (kX9_isThing l X.2.2.2.2.2.2.2 F _ _ _ _ hq10) kvX9_130 rfl (qX9) ⟨rfl, rfl, Nat.le_of_ble_eq_true rfl, Nat.le_of_ble_eq_true rfl⟩ rfl rfl (Nat.le_of_ble_eq_true rfl) dX9_when_10 ?_
    refine x_if_eq (pc := 13) X 25 dX9_when_13 (by decide) (fun hc => ?_) (fun hc => ?_)
    · have h := xit hc h
      refine x_sub [] rfl ?_
      exact wX9_when_L25 X hr hl F _ h
    · have h := xif hc h
      refine x_aload_n (pc := 16) X dX9_when_16 rfl 0 rfl ?_
      refine x_iload_n (pc := 17) X dX9_when_17 rfl 1 rfl ?_
      refine x_iload_n (pc := 18) X dX9_when_18 rfl 2 rfl ?_
      obtain ⟨r19, σ19, hq19, h⟩ := xb2_some h
      refine x_calliV (pc := 19) (As := [.int v1, .int v2]) (rest := []) X (kX9_whenOf l X.2.2.2.2.2.2.2 F _ _ _ _ _ hq19) kvX9_289 rfl (qX9) ⟨rfl, rfl, Nat.le_of_ble_eq_true rfl, Nat.le_of_ble_eq_true rfl⟩ rfl rfl (Nat.le_of_ble_eq_true rfl) dX9_when_19 ?_
      refine x_goto (pc := 22) X 27 dX9_when_22 (by decide) ?_
      refine x_sub [] rfl ?_
      exact wX9_when_L27 X hr hl F _ _ h
set_option maxRecDepth 100000 in
set_option maxHeartbeats 4000000 in
theorem wX9_whoOf_L61 {p : Program} {l : Launch} {e : Env} {s : State} {m : MethodId} {args : Array Value} {below : List Frame} {meth : Method} {c : Code} {D : va_G} {A : Nat → Prop} {ad : Nat → Nat} {cI cX : ClassId} {r : Int32} {σ' : xSt} (X : xX p s m args c cX9_whoOf 5 RX9 D (tyM cI cX) A (wM ad cI cX)) (hr : meth.sig.returnType = (some .int)) (hl : meth.locks = false) (F : Nat) (v1 : Int32) (v2 : Int32) (v3 : Int32) (σ : xSt) (h : mX9_whoOf_L61 F v1 v2 v3 σ = some (r, σ')) : xG p l e ({ frames := 5, cells := 0, slots := 0, locals := 117 }) s m args below meth c (MQ below (xQi D A (wM ad cI cX) r σ') args s 0 0 A) 5 D A (wM ad cI cX) σ 61 [(0, .ref (ad 0)), (1, .int v1), (2, .int v2), (3, .int v3)] [] := by
  unfold mX9_whoOf_L61 at h
  refine x_aload_n (pc := 61) X dX9_whoOf_61 rfl 0 rfl ?_
  refine gX9_37 (pc := 62) X dX9_whoOf_62 ?_
  refine x_iload_n (pc := 65) X dX9_whoOf_65 rfl 1 rfl ?_
  refine x_iload_n (pc := 66) X dX9_whoOf_66 rfl 2 rfl ?_
  obtain ⟨hb67, h⟩ := xck_some h
  refine x_iast (pc := 67) (σ' := (xsA σ 12 (Int32.toNatClampNeg v1) v2)) X 10 0 (qaX9_sitPerson) rfl (saX9_sitPerson _) hb67 dX9_whoOf_67 ?_
  refine x_iload_n (pc := 68) X dX9_whoOf_68 rfl 3 rfl ?_
  exact x_iret (pc := 69) X hr hl h dX9_whoOf_69
set_option maxRecDepth 100000 in
set_option maxHeartbeats 4000000 in
theorem wX9_whoOf_L53 {p : Program} {l : Launch} {e : Env} {s : State} {m : MethodId} {args : Array Value} {below : List Frame} {meth : Method} {c : Code} {D : va_G} {A : Nat → Prop} {ad : Nat → Nat} {cI cX : ClassId} {r : Int32} {σ' : xSt} {c20 : Int32 → Int32 → Int32 → Int32 → xSt → Option (Int32 × xSt)} (X : xX p s m args c cX9_whoOf 5 RX9 D (tyM cI cX) A (wM ad cI cX)) (hr : meth.sig.returnType = (some .int)) (hl : meth.locks = false) (F : Nat) (hc20 : ∀ (v1 : Int32) (v2 : Int32) (v3 : Int32) (v4 : Int32) (σ : xSt), c20 v1 v2 v3 v4 σ = some (r, σ') → xG p l e ({ frames := 5, cells := 0, slots := 0, locals := 117 }) s m args below meth c (MQ below (xQi D A (wM ad cI cX) r σ') args s 0 0 A) 5 D A (wM ad cI cX) σ 20 [(0, .ref (ad 0)), (1, .int v1), (2, .int v2), (3, .int v3), (4, .int v4)] []) (v1 : Int32) (v2 : Int32) (v4 : Int32) (t0 : Int32) (t1 : Int32) (σ : xSt) (h : mX9_whoOf_L53 F c20 v1 v2 v4 t0 t1 σ = some (r, σ')) : xG p l e ({ frames := 5, cells := 0, slots := 0, locals := 117 }) s m args below meth c (MQ below (xQi D A (wM ad cI cX) r σ') args s 0 0 A) 5 D A (wM ad cI cX) σ 53 [(0, .ref (ad 0)), (1, .int v1), (2, .int v2), (4, .int v4)] [.int t1, .int t0] := by
  unfold mX9_whoOf_L53 at h
  refine x_ior (pc := 53) X dX9_whoOf_53 ?_
  refine x_istore_n (pc := 54) (lv' := [(3, .int (t0 ||| t1)), (0, .ref (ad 0)), (1, .int v1), (2, .int v2), (4, .int v4)]) X dX9_whoOf_54 rfl (by decide) rfl ?_
  refine x_iinc (pc := 55) (v := (v4 + 1)) (lv' := [(4, .int (v4 + 1)), (3, .int (t0 ||| t1)), (0, .ref (ad 0)), (1, .int v1), (2, .int v2)]) X dX9_whoOf_55 4 rfl rfl (by decide) rfl ?_
  refine x_goto (pc := 58) X 20 dX9_whoOf_58 (by decide) ?_
  refine x_sub [2, 3, 4, 1, 0] rfl ?_
  exact hc20 _ _ _ _ _ h
set_option maxRecDepth 100000 in
set_option maxHeartbeats 4000000 in
theorem wX9_whoOf_S20 {p : Program} {l : Launch} {e : Env} {s : State} {m : MethodId} {args : Array Value} {below : List Frame} {meth : Method} {c : Code} {D : va_G} {A : Nat → Prop} {ad : Nat → Nat} {cI cX : ClassId} {r : Int32} {σ' : xSt} {c20 : Int32 → Int32 → Int32 → Int32 → xSt → Option (Int32 × xSt)} (X : xX p s m args c cX9_whoOf 5 RX9 D (tyM cI cX) A (wM ad cI cX)) (hr : meth.sig.returnType = (some .int)) (hl : meth.locks = false) (F : Nat) (hc20 : ∀ (v1 : Int32) (v2 : Int32) (v3 : Int32) (v4 : Int32) (σ : xSt), c20 v1 v2 v3 v4 σ = some (r, σ') → xG p l e ({ frames := 5, cells := 0, slots := 0, locals := 117 }) s m args below meth c (MQ below (xQi D A (wM ad cI cX) r σ') args s 0 0 A) 5 D A (wM ad cI cX) σ 20 [(0, .ref (ad 0)), (1, .int v1), (2, .int v2), (3, .int v3), (4, .int v4)] []) (v1 : Int32) (v2 : Int32) (v3 : Int32) (v4 : Int32) (σ : xSt) (h : mX9_whoOf_S20 F c20 v1 v2 v3 v4 σ = some (r, σ')) : xG p l e ({ frames := 5, cells := 0, slots := 0, locals := 117 }) s m args below meth c (MQ below (xQi D A (wM ad cI cX) r σ') args s 0 0 A) 5 D A (wM ad cI cX) σ 20 [(0, .ref (ad 0)), (1, .int v1), (2, .int v2), (3, .int v3), (4, .int v4)] [] := by
  unfold mX9_whoOf_S20 at h
  refine x_iload (pc := 20) X dX9_whoOf_20 4 rfl ?_
  refine x_aload_n (pc := 22) X dX9_whoOf_22 rfl 0 rfl ?_
  refine gX9_113 (pc := 23) X dX9_whoOf_23 ?_
  refine x_icmp_ge (pc := 26) X 61 dX9_whoOf_26 (by decide) (fun hc => ?_) (fun hc => ?_)
  · have h := xit hc h
    refine x_sub [0, 1, 2, 3] rfl ?_
    exact wX9_whoOf_L61 X hr hl F _ _ _ _ h
  · have h := xif hc h
    refine x_aload_n (pc := 29) X dX9_whoOf_29 rfl 0 rfl ?_
    refine gX9_37 (pc := 30) X dX9_whoOf_30 ?_
    refine x_iload_n (pc := 33) X dX9_whoOf_33 rfl 1 rfl ?_
    refine x_iload (pc := 34) X dX9_whoOf_34 4 rfl ?_
    obtain ⟨hb36, h⟩ := xck_some h
    refine x_iast (pc := 36) (σ' := (xsA σ 12 (Int32.toNatClampNeg v1) v4)) X 10 0 (qaX9_sitPerson) rfl (saX9_sitPerson _) hb36 dX9_whoOf_36 ?_
    refine x_iload_n (pc := 37) X dX9_whoOf_37 rfl 3 rfl ?_
    refine x_aload_n (pc := 38) X dX9_whoOf_38 rfl 0 rfl ?_
    obtain ⟨r39, σ39, hq39, h⟩ := xb2_some h
    refine x_calliV (pc := 39) (As := []) (rest := [.int v3]) X (kX9_isSmelt l X.2.2.2.2.2.2.2 F _ _ _ hq39) kvX9_285 rfl (qX9) ⟨rfl, rfl, Nat.le_of_ble_eq_true rfl, Nat.le_of_ble_eq_true rfl⟩ rfl rfl (Nat.le_of_ble_eq_true rfl) dX9_whoOf_39 ?_
    refine x_if_eq (pc := 42) X 52 dX9_whoOf_42 (by decide) (fun hc => ?_) (fun hc => ?_)
    · have h := xit hc h
      refine x_iconst (pc := 52) (v := 0) X dX9_whoOf_52 (by decide) ?_
      refine x_sub [0, 1, 2, 4] rfl ?_
      exact wX9_whoOf_L53 X hr hl F hc20 _ _ _ _ _ _ h
    · have h := xif hc h
      refine x_iconst (pc := 45) (v := 1) X dX9_whoOf_45 (by decide) ?_
      refine x_iload (pc := 46) X dX9_whoOf_46 4 rfl ?_
      refine x_ishl (pc := 48) X dX9_whoOf_48 ?_
      refine x_goto (pc := 49) X 53 dX9_whoOf_49 (by decide) ?_
      refine x_sub [0, 1, 2, 4] rfl ?_
      exact wX9_whoOf_L53 X hr hl F hc20 _ _ _ _ _ _ h
theorem wX9_whoOf_L20 {p : Program} {l : Launch} {e : Env} {s : State} {m : MethodId} {args : Array Value} {below : List Frame} {meth : Method} {c : Code} {D : va_G} {A : Nat → Prop} {ad : Nat → Nat} {cI cX : ClassId} {r : Int32} {σ' : xSt} (X : xX p s m args c cX9_whoOf 5 RX9 D (tyM cI cX) A (wM ad cI cX)) (hr : meth.sig.returnType = (some .int)) (hl : meth.locks = false) (F : Nat) : ∀ (n : Nat) (v1 : Int32) (v2 : Int32) (v3 : Int32) (v4 : Int32) (σ : xSt), mX9_whoOf_L20 F n v1 v2 v3 v4 σ = some (r, σ') → xG p l e ({ frames := 5, cells := 0, slots := 0, locals := 117 }) s m args below meth c (MQ below (xQi D A (wM ad cI cX) r σ') args s 0 0 A) 5 D A (wM ad cI cX) σ 20 [(0, .ref (ad 0)), (1, .int v1), (2, .int v2), (3, .int v3), (4, .int v4)] [] := by
  intro n
  induction n with
  | zero => intro v1 v2 v3 v4 σ h; cases h
  | succ n ih => intro v1 v2 v3 v4 σ h; exact wX9_whoOf_S20 X hr hl F ih v1 v2 v3 v4 σ h
set_option maxRecDepth 100000 in
set_option maxHeartbeats 4000000 in
theorem kX9_whoOf (l : Launch) {D : va_G} {A : Nat → Prop} {ad : Nat → Nat} {cI cX : ClassId} (hD : ∀ σ, va_D A ((wM ad cI cX) σ)) (F : Nat) (v1 : Int32) (σ : xSt) (r : Int32) (σ' : xSt) (h : mX9_whoOf F v1 σ = some (r, σ')) : xM l yX9_whoOf cX9_whoOf 5 (some .int) ({ frames := 5, cells := 0, slots := 0, locals := 117 }) D (tyM cI cX) A (wM ad cI cX) [.ref (ad 0), .int v1] σ (xQi D A (wM ad cI cX) r σ') := by
  refine xM_of (lv := [(0, .ref (ad 0)), (1, .int v1)]) [.ref (ad 0), .int v1] (by decide) hD rfl (Nat.le_of_ble_eq_true rfl) ?_
  intro p e s m args below meth c X hr hl
  unfold mX9_whoOf at h
  refine x_aload_n (pc := 0) X dX9_whoOf_0 rfl 0 rfl ?_
  obtain ⟨σ1, hq1, h⟩ := xb1_some h
  refine x_callvV (pc := 1) (As := []) (rest := []) X (kX9_reads l X.2.2.2.2.2.2.2 F _ _ hq1) kvX9_127 rfl (qX9) ⟨rfl, rfl, Nat.le_of_ble_eq_true rfl, Nat.le_of_ble_eq_true rfl⟩ rfl rfl (Nat.le_of_ble_eq_true rfl) dX9_whoOf_1 ?_
  refine x_aload_n (pc := 4) X dX9_whoOf_4 rfl 0 rfl ?_
  obtain ⟨σ5, hq5, h⟩ := xb1_some h
  refine x_callvV (pc := 5) (As := []) (rest := []) X (kX9_asTold l X.2.2.2.2.2.2.2 F _ _ hq5) kvX9_209 rfl (qX9) ⟨rfl, rfl, Nat.le_of_ble_eq_true rfl, Nat.le_of_ble_eq_true rfl⟩ rfl rfl (Nat.le_of_ble_eq_true rfl) dX9_whoOf_5 ?_
  refine x_aload_n (pc := 8) X dX9_whoOf_8 rfl 0 rfl ?_
  refine gX9_37 (pc := 9) X dX9_whoOf_9 ?_
  refine x_iload_n (pc := 12) X dX9_whoOf_12 rfl 1 rfl ?_
  obtain ⟨hb13, h⟩ := xck_some h
  refine x_iald (pc := 13) X 10 0 (qaX9_sitPerson) rfl hb13 dX9_whoOf_13 ?_
  refine x_istore_n (pc := 14) (lv' := [(2, .int (xA σ5 12 (Int32.toNatClampNeg v1))), (0, .ref (ad 0)), (1, .int v1)]) X dX9_whoOf_14 rfl (by decide) rfl ?_
  refine x_iconst (pc := 15) (v := 0) X dX9_whoOf_15 (by decide) ?_
  refine x_istore_n (pc := 16) (lv' := [(3, .int 0), (2, .int (xA σ5 12 (Int32.toNatClampNeg v1))), (0, .ref (ad 0)), (1, .int v1)]) X dX9_whoOf_16 rfl (by decide) rfl ?_
  refine x_iconst (pc := 17) (v := 0) X dX9_whoOf_17 (by decide) ?_
  refine x_istore (pc := 18) (lv' := [(4, .int 0), (3, .int 0), (2, .int (xA σ5 12 (Int32.toNatClampNeg v1))), (0, .ref (ad 0)), (1, .int v1)]) X dX9_whoOf_18 (by decide) rfl ?_
  refine x_sub [3, 4, 2, 1, 0] rfl ?_
  exact wX9_whoOf_L20 X hr hl F F _ _ _ _ _ h
set_option maxRecDepth 100000 in
set_option maxHeartbeats 4000000 in
theorem kX9_isSitting (l : Launch) {D : va_G} {A : Nat → Prop} {ad : Nat → Nat} {cI cX : ClassId} (hD : ∀ σ, va_D A ((wM ad cI cX) σ)) (F : Nat) (v1 : Int32) (σ : xSt) (r : Int32) (σ' : xSt) (h : mX9_isSitting F v1 σ = some (r, σ')) : xM l yX9_isSitting cX9_isSitting 2 (some .boolean) ({ frames := 1, cells := 0, slots := 0, locals := 22 }) D (tyM cI cX) A (wM ad cI cX) [.ref (ad 0), .int v1] σ (xQi D A (wM ad cI cX) r σ') := by
  refine xM_of (lv := [(0, .ref (ad 0)), (1, .int v1)]) [.ref (ad 0), .int v1] (by decide) hD rfl (Nat.le_of_ble_eq_true rfl) ?_
  intro p e s m args below meth c X hr hl
  unfold mX9_isSitting at h
  refine x_iload_n (pc := 0) X dX9_isSitting_0 rfl 1 rfl ?_
  refine x_iconst (pc := 1) (v := 0) X dX9_isSitting_1 (by decide) ?_
  refine x_aload_n (pc := 2) X dX9_isSitting_2 rfl 0 rfl ?_
  refine gX9_151 (pc := 3) X dX9_isSitting_3 ?_
  refine x_iconst (pc := 6) (v := 1) X dX9_isSitting_6 (by decide) ?_
  refine x_isub (pc := 7) X dX9_isSitting_7 ?_
  obtain ⟨r8, σ8, hq8, h⟩ := xb2_some h
  refine x_calliS (pc := 8) (As := [.int v1, .int 0, .int ((xI σ 10) - 1)]) (rest := []) X (kX9_in l X.2.2.2.2.2.2.2 F _ _ _ _ _ _ hq8) kvX9_97 ⟨rfl, rfl, Nat.le_of_ble_eq_true rfl, Nat.le_of_ble_eq_true rfl⟩ rfl rfl (Nat.le_of_ble_eq_true rfl) dX9_isSitting_8 ?_
  obtain ⟨hb11, h⟩ := xck_some h
  exact x_zret (pc := 11) X hr hl hb11 h dX9_isSitting_11
set_option maxRecDepth 100000 in
set_option maxHeartbeats 4000000 in
theorem wX9_who_L18 {p : Program} {l : Launch} {e : Env} {s : State} {m : MethodId} {args : Array Value} {below : List Frame} {meth : Method} {c : Code} {D : va_G} {A : Nat → Prop} {ad : Nat → Nat} {cI cX : ClassId} {r : Int32} {σ' : xSt} (X : xX p s m args c cX9_who 2 RX9 D (tyM cI cX) A (wM ad cI cX)) (hr : meth.sig.returnType = (some .int)) (hl : meth.locks = false) (F : Nat) (t0 : Int32) (σ : xSt) (h : mX9_who_L18 F t0 σ = some (r, σ')) : xG p l e ({ frames := 6, cells := 0, slots := 0, locals := 141 }) s m args below meth c (MQ below (xQi D A (wM ad cI cX) r σ') args s 0 0 A) 2 D A (wM ad cI cX) σ 18 [] [.int t0] := by
  unfold mX9_who_L18 at h
  exact x_iret (pc := 18) X hr hl h dX9_who_18
set_option maxRecDepth 100000 in
set_option maxHeartbeats 4000000 in
theorem kX9_who (l : Launch) {D : va_G} {A : Nat → Prop} {ad : Nat → Nat} {cI cX : ClassId} (hD : ∀ σ, va_D A ((wM ad cI cX) σ)) (F : Nat) (v1 : Int32) (σ : xSt) (r : Int32) (σ' : xSt) (h : mX9_who F v1 σ = some (r, σ')) : xM l yX9_who cX9_who 2 (some .int) ({ frames := 6, cells := 0, slots := 0, locals := 141 }) D (tyM cI cX) A (wM ad cI cX) [.ref (ad 0), .int v1] σ (xQi D A (wM ad cI cX) r σ') := by
  refine xM_of (lv := [(0, .ref (ad 0)), (1, .int v1)]) [.ref (ad 0), .int v1] (by decide) hD rfl (Nat.le_of_ble_eq_true rfl) ?_
  intro p e s m args below meth c X hr hl
  unfold mX9_who at h
  refine x_aload_n (pc := 0) X dX9_who_0 rfl 0 rfl ?_
  refine x_iload_n (pc := 1) X dX9_who_1 rfl 1 rfl ?_
  obtain ⟨r2, σ2, hq2, h⟩ := xb2_some h
  refine x_calliV (pc := 2) (As := [.int v1]) (rest := []) X (kX9_isSitting l X.2.2.2.2.2.2.2 F _ _ _ _ hq2) kvX9_292 rfl (qX9) ⟨rfl, rfl, Nat.le_of_ble_eq_true rfl, Nat.le_of_ble_eq_true rfl⟩ rfl rfl (Nat.le_of_ble_eq_true rfl) dX9_who_2 ?_
  refine x_if_eq (pc := 5) X 16 dX9_who_5 (by decide) (fun hc => ?_) (fun hc => ?_)
  · have h := xit hc h
    refine x_bipush (pc := 16) (v := (-2)) X dX9_who_16 (by decide) ?_
    refine x_sub [] rfl ?_
    exact wX9_who_L18 X hr hl F _ _ h
  · have h := xif hc h
    refine x_aload_n (pc := 8) X dX9_who_8 rfl 0 rfl ?_
    refine x_iload_n (pc := 9) X dX9_who_9 rfl 1 rfl ?_
    obtain ⟨r10, σ10, hq10, h⟩ := xb2_some h
    refine x_calliV (pc := 10) (As := [.int v1]) (rest := []) X (kX9_whoOf l X.2.2.2.2.2.2.2 F _ _ _ _ hq10) kvX9_295 rfl (qX9) ⟨rfl, rfl, Nat.le_of_ble_eq_true rfl, Nat.le_of_ble_eq_true rfl⟩ rfl rfl (Nat.le_of_ble_eq_true rfl) dX9_who_10 ?_
    refine x_goto (pc := 13) X 18 dX9_who_13 (by decide) ?_
    refine x_sub [] rfl ?_
    exact wX9_who_L18 X hr hl F _ _ h
set_option maxRecDepth 100000 in
set_option maxHeartbeats 4000000 in
theorem wX9_standOf_L233 {p : Program} {l : Launch} {e : Env} {s : State} {m : MethodId} {args : Array Value} {below : List Frame} {meth : Method} {c : Code} {D : va_G} {A : Nat → Prop} {ad : Nat → Nat} {cI cX : ClassId} {r : Int32} {σ' : xSt} (X : xX p s m args c cX9_standOf 12 RX9 D (tyM cI cX) A (wM ad cI cX)) (hr : meth.sig.returnType = (some .int)) (hl : meth.locks = false) (F : Nat) (v1 : Int32) (v4 : Int32) (v5 : Int32) (σ : xSt) (h : mX9_standOf_L233 F v1 v4 v5 σ = some (r, σ')) : xG p l e ({ frames := 6, cells := 0, slots := 0, locals := 141 }) s m args below meth c (MQ below (xQi D A (wM ad cI cX) r σ') args s 0 0 A) 12 D A (wM ad cI cX) σ 233 [(0, .ref (ad 0)), (1, .int v1), (4, .int v4), (5, .int v5)] [] := by
  unfold mX9_standOf_L233 at h
  refine x_aload_n (pc := 233) X dX9_standOf_233 rfl 0 rfl ?_
  refine gX9_37 (pc := 234) X dX9_standOf_234 ?_
  refine x_iload_n (pc := 237) X dX9_standOf_237 rfl 1 rfl ?_
  refine x_iload (pc := 238) X dX9_standOf_238 2 rfl ?_
  obtain ⟨hb240, h⟩ := xck_some h
  refine x_iast (pc := 240) (σ' := (xsA σ 12 (Int32.toNatClampNeg v1) v4)) X 10 0 (qaX9_sitPerson) rfl (saX9_sitPerson _) hb240 dX9_standOf_240 ?_
  refine x_iload (pc := 241) X dX9_standOf_241 3 rfl ?_
  exact x_iret (pc := 243) X hr hl h dX9_standOf_243
set_option maxRecDepth 100000 in
set_option maxHeartbeats 4000000 in
theorem wX9_standOf_L225 {p : Program} {l : Launch} {e : Env} {s : State} {m : MethodId} {args : Array Value} {below : List Frame} {meth : Method} {c : Code} {D : va_G} {A : Nat → Prop} {ad : Nat → Nat} {cI cX : ClassId} {r : Int32} {σ' : xSt} {c23 : Int32 → Int32 → Int32 → Int32 → Int32 → Int32 → Int32 → xSt → Option (Int32 × xSt)} (X : xX p s m args c cX9_standOf 12 RX9 D (tyM cI cX) A (wM ad cI cX)) (hr : meth.sig.returnType = (some .int)) (hl : meth.locks = false) (F : Nat) (hc23 : ∀ (v1 : Int32) (v2 : Int32) (v3 : Int32) (v4 : Int32) (v5 : Int32) (v6 : Int32) (v7 : Int32) (σ : xSt), c23 v1 v2 v3 v4 v5 v6 v7 σ = some (r, σ') → xG p l e ({ frames := 6, cells := 0, slots := 0, locals := 141 }) s m args below meth c (MQ below (xQi D A (wM ad cI cX) r σ') args s 0 0 A) 12 D A (wM ad cI cX) σ 23 [(0, .ref (ad 0)), (1, .int v1), (2, .int v2), (3, .int v3), (4, .int v4), (5, .int v5), (6, .int v6), (7, .int v7)] []) (v1 : Int32) (v2 : Int32) (v3 : Int32) (v4 : Int32) (v5 : Int32) (v7 : Int32) (t0 : Int32) (σ : xSt) (h : mX9_standOf_L225 F c23 v1 v2 v3 v4 v5 v7 t0 σ = some (r, σ')) : xG p l e ({ frames := 6, cells := 0, slots := 0, locals := 141 }) s m args below meth c (MQ below (xQi D A (wM ad cI cX) r σ') args s 0 0 A) 12 D A (wM ad cI cX) σ 225 [(0, .ref (ad 0)), (1, .int v1), (2, .int v2), (3, .int v3), (4, .int v4), (5, .int v5), (7, .int v7)] [.int t0] := by
  unfold mX9_standOf_L225 at h
  refine x_istore (pc := 225) (lv' := [(6, .int t0), (0, .ref (ad 0)), (1, .int v1), (2, .int v2), (3, .int v3), (4, .int v4), (5, .int v5), (7, .int v7)]) X dX9_standOf_225 (by decide) rfl ?_
  refine x_iinc (pc := 227) (v := (v7 + 1)) (lv' := [(7, .int (v7 + 1)), (6, .int t0), (0, .ref (ad 0)), (1, .int v1), (2, .int v2), (3, .int v3), (4, .int v4), (5, .int v5)]) X dX9_standOf_227 7 rfl rfl (by decide) rfl ?_
  refine x_goto (pc := 230) X 23 dX9_standOf_230 (by decide) ?_
  refine x_sub [2, 3, 4, 5, 6, 7, 1, 0] rfl ?_
  exact hc23 _ _ _ _ _ _ _ _ h
set_option maxRecDepth 100000 in
set_option maxHeartbeats 4000000 in
theorem wX9_standOf_L211 {p : Program} {l : Launch} {e : Env} {s : State} {m : MethodId} {args : Array Value} {below : List Frame} {meth : Method} {c : Code} {D : va_G} {A : Nat → Prop} {ad : Nat → Nat} {cI cX : ClassId} {r : Int32} {σ' : xSt} {c23 : Int32 → Int32 → Int32 → Int32 → Int32 → Int32 → Int32 → xSt → Option (Int32 × xSt)} (X : xX p s m args c cX9_standOf 12 RX9 D (tyM cI cX) A (wM ad cI cX)) (hr : meth.sig.returnType = (some .int)) (hl : meth.locks = false) (F : Nat) (hc23 : ∀ (v1 : Int32) (v2 : Int32) (v3 : Int32) (v4 : Int32) (v5 : Int32) (v6 : Int32) (v7 : Int32) (σ : xSt), c23 v1 v2 v3 v4 v5 v6 v7 σ = some (r, σ') → xG p l e ({ frames := 6, cells := 0, slots := 0, locals := 141 }) s m args below meth c (MQ below (xQi D A (wM ad cI cX) r σ') args s 0 0 A) 12 D A (wM ad cI cX) σ 23 [(0, .ref (ad 0)), (1, .int v1), (2, .int v2), (3, .int v3), (4, .int v4), (5, .int v5), (6, .int v6), (7, .int v7)] []) (v1 : Int32) (v2 : Int32) (v3 : Int32) (v4 : Int32) (v6 : Int32) (v7 : Int32) (v8 : Int32) (v9 : Int32) (t0 : Int32) (σ : xSt) (h : mX9_standOf_L211 F c23 v1 v2 v3 v4 v6 v7 v8 v9 t0 σ = some (r, σ')) : xG p l e ({ frames := 6, cells := 0, slots := 0, locals := 141 }) s m args below meth c (MQ below (xQi D A (wM ad cI cX) r σ') args s 0 0 A) 12 D A (wM ad cI cX) σ 211 [(0, .ref (ad 0)), (1, .int v1), (2, .int v2), (3, .int v3), (4, .int v4), (6, .int v6), (7, .int v7), (8, .int v8), (9, .int v9)] [.int t0] := by
  unfold mX9_standOf_L211 at h
  refine x_istore (pc := 211) (lv' := [(5, .int t0), (0, .ref (ad 0)), (1, .int v1), (2, .int v2), (3, .int v3), (4, .int v4), (6, .int v6), (7, .int v7), (8, .int v8), (9, .int v9)]) X dX9_standOf_211 (by decide) rfl ?_
  refine x_iload (pc := 213) X dX9_standOf_213 9 rfl ?_
  refine x_if_eq (pc := 215) X 223 dX9_standOf_215 (by decide) (fun hc => ?_) (fun hc => ?_)
  · have h := xit hc h
    refine x_iload (pc := 223) X dX9_standOf_223 6 rfl ?_
    refine x_sub [1, 2, 3, 4, 5, 0, 7] rfl ?_
    exact wX9_standOf_L225 X hr hl F hc23 _ _ _ _ _ _ _ _ h
  · have h := xif hc h
    refine x_iload (pc := 218) X dX9_standOf_218 8 rfl ?_
    refine x_goto (pc := 220) X 225 dX9_standOf_220 (by decide) ?_
    refine x_sub [1, 2, 3, 4, 5, 0, 7] rfl ?_
    exact wX9_standOf_L225 X hr hl F hc23 _ _ _ _ _ _ _ _ h
set_option maxRecDepth 100000 in
set_option maxHeartbeats 4000000 in
theorem wX9_standOf_L197 {p : Program} {l : Launch} {e : Env} {s : State} {m : MethodId} {args : Array Value} {below : List Frame} {meth : Method} {c : Code} {D : va_G} {A : Nat → Prop} {ad : Nat → Nat} {cI cX : ClassId} {r : Int32} {σ' : xSt} {c23 : Int32 → Int32 → Int32 → Int32 → Int32 → Int32 → Int32 → xSt → Option (Int32 × xSt)} (X : xX p s m args c cX9_standOf 12 RX9 D (tyM cI cX) A (wM ad cI cX)) (hr : meth.sig.returnType = (some .int)) (hl : meth.locks = false) (F : Nat) (hc23 : ∀ (v1 : Int32) (v2 : Int32) (v3 : Int32) (v4 : Int32) (v5 : Int32) (v6 : Int32) (v7 : Int32) (σ : xSt), c23 v1 v2 v3 v4 v5 v6 v7 σ = some (r, σ') → xG p l e ({ frames := 6, cells := 0, slots := 0, locals := 141 }) s m args below meth c (MQ below (xQi D A (wM ad cI cX) r σ') args s 0 0 A) 12 D A (wM ad cI cX) σ 23 [(0, .ref (ad 0)), (1, .int v1), (2, .int v2), (3, .int v3), (4, .int v4), (5, .int v5), (6, .int v6), (7, .int v7)] []) (v1 : Int32) (v2 : Int32) (v3 : Int32) (v4 : Int32) (v5 : Int32) (v6 : Int32) (v7 : Int32) (v8 : Int32) (t0 : Int32) (σ : xSt) (h : mX9_standOf_L197 F c23 v1 v2 v3 v4 v5 v6 v7 v8 t0 σ = some (r, σ')) : xG p l e ({ frames := 6, cells := 0, slots := 0, locals := 141 }) s m args below meth c (MQ below (xQi D A (wM ad cI cX) r σ') args s 0 0 A) 12 D A (wM ad cI cX) σ 197 [(0, .ref (ad 0)), (1, .int v1), (2, .int v2), (3, .int v3), (4, .int v4), (5, .int v5), (6, .int v6), (7, .int v7), (8, .int v8)] [.int t0] := by
  unfold mX9_standOf_L197 at h
  refine x_istore (pc := 197) (lv' := [(9, .int t0), (0, .ref (ad 0)), (1, .int v1), (2, .int v2), (3, .int v3), (4, .int v4), (5, .int v5), (6, .int v6), (7, .int v7), (8, .int v8)]) X dX9_standOf_197 (by decide) rfl ?_
  refine x_iload (pc := 199) X dX9_standOf_199 0 rfl ?_
  refine x_if_eq (pc := 201) X 209 dX9_standOf_201 (by decide) (fun hc => ?_) (fun hc => ?_)
  · have h := xit hc h
    refine x_iload (pc := 209) X dX9_standOf_209 6 rfl ?_
    refine x_sub [1, 2, 3, 4, 5, 7, 8, 9, 0] rfl ?_
    exact wX9_standOf_L211 X hr hl F hc23 _ _ _ _ _ _ _ _ _ _ h
  · have h := xif hc h
    refine x_iload (pc := 204) X dX9_standOf_204 8 rfl ?_
    refine x_goto (pc := 206) X 211 dX9_standOf_206 (by decide) ?_
    refine x_sub [1, 2, 3, 4, 5, 7, 8, 9, 0] rfl ?_
    exact wX9_standOf_L211 X hr hl F hc23 _ _ _ _ _ _ _ _ _ _ h
set_option maxRecDepth 100000 in
set_option maxHeartbeats 4000000 in
theorem wX9_standOf_L192 {p : Program} {l : Launch} {e : Env} {s : State} {m : MethodId} {args : Array Value} {below : List Frame} {meth : Method} {c : Code} {D : va_G} {A : Nat → Prop} {ad : Nat → Nat} {cI cX : ClassId} {r : Int32} {σ' : xSt} {c23 : Int32 → Int32 → Int32 → Int32 → Int32 → Int32 → Int32 → xSt → Option (Int32 × xSt)} (X : xX p s m args c cX9_standOf 12 RX9 D (tyM cI cX) A (wM ad cI cX)) (hr : meth.sig.returnType = (some .int)) (hl : meth.locks = false) (F : Nat) (hc23 : ∀ (v1 : Int32) (v2 : Int32) (v3 : Int32) (v4 : Int32) (v5 : Int32) (v6 : Int32) (v7 : Int32) (σ : xSt), c23 v1 v2 v3 v4 v5 v6 v7 σ = some (r, σ') → xG p l e ({ frames := 6, cells := 0, slots := 0, locals := 141 }) s m args below meth c (MQ below (xQi D A (wM ad cI cX) r σ') args s 0 0 A) 12 D A (wM ad cI cX) σ 23 [(0, .ref (ad 0)), (1, .int v1), (2, .int v2), (3, .int v3), (4, .int v4), (5, .int v5), (6, .int v6), (7, .int v7)] []) (v1 : Int32) (v2 : Int32) (v3 : Int32) (v4 : Int32) (v5 : Int32) (v6 : Int32) (v7 : Int32) (v8 : Int32) (σ : xSt) (h : mX9_standOf_L192 F c23 v1 v2 v3 v4 v5 v6 v7 v8 σ = some (r, σ')) : xG p l e ({ frames := 6, cells := 0, slots := 0, locals := 141 }) s m args below meth c (MQ below (xQi D A (wM ad cI cX) r σ') args s 0 0 A) 12 D A (wM ad cI cX) σ 192 [(0, .ref (ad 0)), (1, .int v1), (2, .int v2), (3, .int v3), (4, .int v4), (5, .int v5), (6, .int v6), (7, .int v7), (8, .int v8)] [] := by
  unfold mX9_standOf_L192 at h
  refine x_iconst (pc := 192) (v := 1) X dX9_standOf_192 (by decide) ?_
  refine x_goto (pc := 193) X 197 dX9_standOf_193 (by decide) ?_
  refine x_sub [0, 1, 2, 3, 4, 5, 6, 7, 8] rfl ?_
  exact wX9_standOf_L197 X hr hl F hc23 _ _ _ _ _ _ _ _ _ _ h
set_option maxRecDepth 100000 in
set_option maxHeartbeats 4000000 in
theorem wX9_standOf_L179 {p : Program} {l : Launch} {e : Env} {s : State} {m : MethodId} {args : Array Value} {below : List Frame} {meth : Method} {c : Code} {D : va_G} {A : Nat → Prop} {ad : Nat → Nat} {cI cX : ClassId} {r : Int32} {σ' : xSt} {c23 : Int32 → Int32 → Int32 → Int32 → Int32 → Int32 → Int32 → xSt → Option (Int32 × xSt)} (X : xX p s m args c cX9_standOf 12 RX9 D (tyM cI cX) A (wM ad cI cX)) (hr : meth.sig.returnType = (some .int)) (hl : meth.locks = false) (F : Nat) (hc23 : ∀ (v1 : Int32) (v2 : Int32) (v3 : Int32) (v4 : Int32) (v5 : Int32) (v6 : Int32) (v7 : Int32) (σ : xSt), c23 v1 v2 v3 v4 v5 v6 v7 σ = some (r, σ') → xG p l e ({ frames := 6, cells := 0, slots := 0, locals := 141 }) s m args below meth c (MQ below (xQi D A (wM ad cI cX) r σ') args s 0 0 A) 12 D A (wM ad cI cX) σ 23 [(0, .ref (ad 0)), (1, .int v1), (2, .int v2), (3, .int v3), (4, .int v4), (5, .int v5), (6, .int v6), (7, .int v7)] []) (v1 : Int32) (v2 : Int32) (v3 : Int32) (v4 : Int32) (v5 : Int32) (v6 : Int32) (v7 : Int32) (v8 : Int32) (σ : xSt) (h : mX9_standOf_L179 F c23 v1 v2 v3 v4 v5 v6 v7 v8 σ = some (r, σ')) : xG p l e ({ frames := 6, cells := 0, slots := 0, locals := 141 }) s m args below meth c (MQ below (xQi D A (wM ad cI cX) r σ') args s 0 0 A) 12 D A (wM ad cI cX) σ 179 [(0, .ref (ad 0)), (1, .int v1), (2, .int v2), (3, .int v3), (4, .int v4), (5, .int v5), (6, .int v6), (7, .int v7), (8, .int v8)] [] := by
  unfold mX9_standOf_L179 at h
  refine x_iload (pc := 179) X dX9_standOf_179 5 rfl ?_
  refine x_iconst (pc := 181) (v := (-1)) X dX9_standOf_181 (by decide) ?_
  refine x_icmp_eq (pc := 182) X 192 dX9_standOf_182 (by decide) (fun hc => ?_) (fun hc => ?_)
  · have h := xit hc h
    refine x_sub [0, 1, 2, 3, 4, 5, 6, 7, 8] rfl ?_
    exact wX9_standOf_L192 X hr hl F hc23 _ _ _ _ _ _ _ _ _ h
  · have h := xif hc h
    refine x_iload (pc := 185) X dX9_standOf_185 8 rfl ?_
    refine x_iload (pc := 187) X dX9_standOf_187 6 rfl ?_
    refine x_icmp_ge (pc := 189) X 196 dX9_standOf_189 (by decide) (fun hc => ?_) (fun hc => ?_)
    · have h := xit hc h
      refine x_iconst (pc := 196) (v := 0) X dX9_standOf_196 (by decide) ?_
      refine x_sub [0, 1, 2, 3, 4, 5, 6, 7, 8] rfl ?_
      exact wX9_standOf_L197 X hr hl F hc23 _ _ _ _ _ _ _ _ _ _ h
    · have h := xif hc h
      refine x_sub [0, 1, 2, 3, 4, 5, 6, 7, 8] rfl ?_
      exact wX9_standOf_L192 X hr hl F hc23 _ _ _ _ _ _ _ _ _ h
set_option maxRecDepth 100000 in
set_option maxHeartbeats 4000000 in
theorem wX9_standOf_L171 {p : Program} {l : Launch} {e : Env} {s : State} {m : MethodId} {args : Array Value} {below : List Frame} {meth : Method} {c : Code} {D : va_G} {A : Nat → Prop} {ad : Nat → Nat} {cI cX : ClassId} {r : Int32} {σ' : xSt} {c23 : Int32 → Int32 → Int32 → Int32 → Int32 → Int32 → Int32 → xSt → Option (Int32 × xSt)} {c82 : Int32 → Int32 → Int32 → Int32 → Int32 → Int32 → Int32 → Int32 → Int32 → xSt → Option (Int32 × xSt)} (X : xX p s m args c cX9_standOf 12 RX9 D (tyM cI cX) A (wM ad cI cX)) (hr : meth.sig.returnType = (some .int)) (hl : meth.locks = false) (F : Nat) (hc23 : ∀ (v1 : Int32) (v2 : Int32) (v3 : Int32) (v4 : Int32) (v5 : Int32) (v6 : Int32) (v7 : Int32) (σ : xSt), c23 v1 v2 v3 v4 v5 v6 v7 σ = some (r, σ') → xG p l e ({ frames := 6, cells := 0, slots := 0, locals := 141 }) s m args below meth c (MQ below (xQi D A (wM ad cI cX) r σ') args s 0 0 A) 12 D A (wM ad cI cX) σ 23 [(0, .ref (ad 0)), (1, .int v1), (2, .int v2), (3, .int v3), (4, .int v4), (5, .int v5), (6, .int v6), (7, .int v7)] []) (hc82 : ∀ (v1 : Int32) (v2 : Int32) (v3 : Int32) (v4 : Int32) (v5 : Int32) (v6 : Int32) (v7 : Int32) (v8 : Int32) (v9 : Int32) (σ : xSt), c82 v1 v2 v3 v4 v5 v6 v7 v8 v9 σ = some (r, σ') → xG p l e ({ frames := 6, cells := 0, slots := 0, locals := 141 }) s m args below meth c (MQ below (xQi D A (wM ad cI cX) r σ') args s 0 0 A) 12 D A (wM ad cI cX) σ 82 [(0, .ref (ad 0)), (1, .int v1), (2, .int v2), (3, .int v3), (4, .int v4), (5, .int v5), (6, .int v6), (7, .int v7), (8, .int v8), (9, .int v9)] []) (v1 : Int32) (v2 : Int32) (v3 : Int32) (v4 : Int32) (v5 : Int32) (v6 : Int32) (v7 : Int32) (v9 : Int32) (t0 : Int32) (σ : xSt) (h : mX9_standOf_L171 F c23 c82 v1 v2 v3 v4 v5 v6 v7 v9 t0 σ = some (r, σ')) : xG p l e ({ frames := 6, cells := 0, slots := 0, locals := 141 }) s m args below meth c (MQ below (xQi D A (wM ad cI cX) r σ') args s 0 0 A) 12 D A (wM ad cI cX) σ 171 [(0, .ref (ad 0)), (1, .int v1), (2, .int v2), (3, .int v3), (4, .int v4), (5, .int v5), (6, .int v6), (7, .int v7), (9, .int v9)] [.int t0] := by
  unfold mX9_standOf_L171 at h
  refine x_istore (pc := 171) (lv' := [(8, .int t0), (0, .ref (ad 0)), (1, .int v1), (2, .int v2), (3, .int v3), (4, .int v4), (5, .int v5), (6, .int v6), (7, .int v7), (9, .int v9)]) X dX9_standOf_171 (by decide) rfl ?_
  refine x_iinc (pc := 173) (v := (v9 + 1)) (lv' := [(9, .int (v9 + 1)), (8, .int t0), (0, .ref (ad 0)), (1, .int v1), (2, .int v2), (3, .int v3), (4, .int v4), (5, .int v5), (6, .int v6), (7, .int v7)]) X dX9_standOf_173 9 rfl rfl (by decide) rfl ?_
  refine x_goto (pc := 176) X 82 dX9_standOf_176 (by decide) ?_
  refine x_sub [2, 3, 4, 5, 6, 7, 8, 9, 1, 0] rfl ?_
  exact hc82 _ _ _ _ _ _ _ _ _ _ h
set_option maxRecDepth 100000 in
set_option maxHeartbeats 4000000 in
theorem wX9_standOf_L157 {p : Program} {l : Launch} {e : Env} {s : State} {m : MethodId} {args : Array Value} {below : List Frame} {meth : Method} {c : Code} {D : va_G} {A : Nat → Prop} {ad : Nat → Nat} {cI cX : ClassId} {r : Int32} {σ' : xSt} {c23 : Int32 → Int32 → Int32 → Int32 → Int32 → Int32 → Int32 → xSt → Option (Int32 × xSt)} {c82 : Int32 → Int32 → Int32 → Int32 → Int32 → Int32 → Int32 → Int32 → Int32 → xSt → Option (Int32 × xSt)} (X : xX p s m args c cX9_standOf 12 RX9 D (tyM cI cX) A (wM ad cI cX)) (hr : meth.sig.returnType = (some .int)) (hl : meth.locks = false) (F : Nat) (hc23 : ∀ (v1 : Int32) (v2 : Int32) (v3 : Int32) (v4 : Int32) (v5 : Int32) (v6 : Int32) (v7 : Int32) (σ : xSt), c23 v1 v2 v3 v4 v5 v6 v7 σ = some (r, σ') → xG p l e ({ frames := 6, cells := 0, slots := 0, locals := 141 }) s m args below meth c (MQ below (xQi D A (wM ad cI cX) r σ') args s 0 0 A) 12 D A (wM ad cI cX) σ 23 [(0, .ref (ad 0)), (1, .int v1), (2, .int v2), (3, .int v3), (4, .int v4), (5, .int v5), (6, .int v6), (7, .int v7)] []) (hc82 : ∀ (v1 : Int32) (v2 : Int32) (v3 : Int32) (v4 : Int32) (v5 : Int32) (v6 : Int32) (v7 : Int32) (v8 : Int32) (v9 : Int32) (σ : xSt), c82 v1 v2 v3 v4 v5 v6 v7 v8 v9 σ = some (r, σ') → xG p l e ({ frames := 6, cells := 0, slots := 0, locals := 141 }) s m args below meth c (MQ below (xQi D A (wM ad cI cX) r σ') args s 0 0 A) 12 D A (wM ad cI cX) σ 82 [(0, .ref (ad 0)), (1, .int v1), (2, .int v2), (3, .int v3), (4, .int v4), (5, .int v5), (6, .int v6), (7, .int v7), (8, .int v8), (9, .int v9)] []) (v1 : Int32) (v2 : Int32) (v3 : Int32) (v4 : Int32) (v5 : Int32) (v6 : Int32) (v7 : Int32) (v8 : Int32) (v9 : Int32) (v10 : Int32) (σ : xSt) (h : mX9_standOf_L157 F c23 c82 v1 v2 v3 v4 v5 v6 v7 v8 v9 v10 σ = some (r, σ')) : xG p l e ({ frames := 6, cells := 0, slots := 0, locals := 141 }) s m args below meth c (MQ below (xQi D A (wM ad cI cX) r σ') args s 0 0 A) 12 D A (wM ad cI cX) σ 157 [(0, .ref (ad 0)), (1, .int v1), (2, .int v2), (3, .int v3), (4, .int v4), (5, .int v5), (6, .int v6), (7, .int v7), (8, .int v8), (9, .int v9), (10, .int v10)] [] := by
  unfold mX9_standOf_L157 at h
  refine x_iload (pc := 157) X dX9_standOf_157 10 rfl ?_
  refine x_iload (pc := 159) X dX9_standOf_159 8 rfl ?_
  refine x_icmp_le (pc := 161) X 169 dX9_standOf_161 (by decide) (fun hc => ?_) (fun hc => ?_)
  · have h := xit hc h
    refine x_iload (pc := 169) X dX9_standOf_169 8 rfl ?_
    refine x_sub [0, 1, 2, 3, 4, 5, 6, 7, 9] rfl ?_
    exact wX9_standOf_L171 X hr hl F hc23 hc82 _ _ _ _ _ _ _ _ _ _ h
  · have h := xif hc h
    refine x_iload (pc := 164) X dX9_standOf_164 10 rfl ?_
    refine x_goto (pc := 166) X 171 dX9_standOf_166 (by decide) ?_
    refine x_sub [0, 1, 2, 3, 4, 5, 6, 7, 9] rfl ?_
    exact wX9_standOf_L171 X hr hl F hc23 hc82 _ _ _ _ _ _ _ _ _ _ h
set_option maxRecDepth 100000 in
set_option maxHeartbeats 4000000 in
theorem wX9_standOf_L148 {p : Program} {l : Launch} {e : Env} {s : State} {m : MethodId} {args : Array Value} {below : List Frame} {meth : Method} {c : Code} {D : va_G} {A : Nat → Prop} {ad : Nat → Nat} {cI cX : ClassId} {r : Int32} {σ' : xSt} {c23 : Int32 → Int32 → Int32 → Int32 → Int32 → Int32 → Int32 → xSt → Option (Int32 × xSt)} {c82 : Int32 → Int32 → Int32 → Int32 → Int32 → Int32 → Int32 → Int32 → Int32 → xSt → Option (Int32 × xSt)} {c97 : Int32 → Int32 → Int32 → Int32 → Int32 → Int32 → Int32 → Int32 → Int32 → Int32 → Int32 → xSt → Option (Int32 × xSt)} (X : xX p s m args c cX9_standOf 12 RX9 D (tyM cI cX) A (wM ad cI cX)) (hr : meth.sig.returnType = (some .int)) (hl : meth.locks = false) (F : Nat) (hc23 : ∀ (v1 : Int32) (v2 : Int32) (v3 : Int32) (v4 : Int32) (v5 : Int32) (v6 : Int32) (v7 : Int32) (σ : xSt), c23 v1 v2 v3 v4 v5 v6 v7 σ = some (r, σ') → xG p l e ({ frames := 6, cells := 0, slots := 0, locals := 141 }) s m args below meth c (MQ below (xQi D A (wM ad cI cX) r σ') args s 0 0 A) 12 D A (wM ad cI cX) σ 23 [(0, .ref (ad 0)), (1, .int v1), (2, .int v2), (3, .int v3), (4, .int v4), (5, .int v5), (6, .int v6), (7, .int v7)] []) (hc82 : ∀ (v1 : Int32) (v2 : Int32) (v3 : Int32) (v4 : Int32) (v5 : Int32) (v6 : Int32) (v7 : Int32) (v8 : Int32) (v9 : Int32) (σ : xSt), c82 v1 v2 v3 v4 v5 v6 v7 v8 v9 σ = some (r, σ') → xG p l e ({ frames := 6, cells := 0, slots := 0, locals := 141 }) s m args below meth c (MQ below (xQi D A (wM ad cI cX) r σ') args s 0 0 A) 12 D A (wM ad cI cX) σ 82 [(0, .ref (ad 0)), (1, .int v1), (2, .int v2), (3, .int v3), (4, .int v4), (5, .int v5), (6, .int v6), (7, .int v7), (8, .int v8), (9, .int v9)] []) (hc97 : ∀ (v1 : Int32) (v2 : Int32) (v3 : Int32) (v4 : Int32) (v5 : Int32) (v6 : Int32) (v7 : Int32) (v8 : Int32) (v9 : Int32) (v10 : Int32) (v11 : Int32) (σ : xSt), c97 v1 v2 v3 v4 v5 v6 v7 v8 v9 v10 v11 σ = some (r, σ') → xG p l e ({ frames := 6, cells := 0, slots := 0, locals := 141 }) s m args below meth c (MQ below (xQi D A (wM ad cI cX) r σ') args s 0 0 A) 12 D A (wM ad cI cX) σ 97 [(0, .ref (ad 0)), (1, .int v1), (2, .int v2), (3, .int v3), (4, .int v4), (5, .int v5), (6, .int v6), (7, .int v7), (8, .int v8), (9, .int v9), (10, .int v10), (11, .int v11)] []) (v1 : Int32) (v2 : Int32) (v3 : Int32) (v4 : Int32) (v5 : Int32) (v6 : Int32) (v7 : Int32) (v8 : Int32) (v9 : Int32) (v11 : Int32) (t0 : Int32) (t1 : Int32) (σ : xSt) (h : mX9_standOf_L148 F c23 c82 c97 v1 v2 v3 v4 v5 v6 v7 v8 v9 v11 t0 t1 σ = some (r, σ')) : xG p l e ({ frames := 6, cells := 0, slots := 0, locals := 141 }) s m args below meth c (MQ below (xQi D A (wM ad cI cX) r σ') args s 0 0 A) 12 D A (wM ad cI cX) σ 148 [(0, .ref (ad 0)), (1, .int v1), (2, .int v2), (3, .int v3), (4, .int v4), (5, .int v5), (6, .int v6), (7, .int v7), (8, .int v8), (9, .int v9), (11, .int v11)] [.int t1, .int t0] := by
  unfold mX9_standOf_L148 at h
  refine x_iadd (pc := 148) X dX9_standOf_148 ?_
  refine x_istore (pc := 149) (lv' := [(10, .int (t0 + t1)), (0, .ref (ad 0)), (1, .int v1), (2, .int v2), (3, .int v3), (4, .int v4), (5, .int v5), (6, .int v6), (7, .int v7), (8, .int v8), (9, .int v9), (11, .int v11)]) X dX9_standOf_149 (by decide) rfl ?_
  refine x_iinc (pc := 151) (v := (v11 + 1)) (lv' := [(11, .int (v11 + 1)), (10, .int (t0 + t1)), (0, .ref (ad 0)), (1, .int v1), (2, .int v2), (3, .int v3), (4, .int v4), (5, .int v5), (6, .int v6), (7, .int v7), (8, .int v8), (9, .int v9)]) X dX9_standOf_151 11 rfl rfl (by decide) rfl ?_
  refine x_goto (pc := 154) X 97 dX9_standOf_154 (by decide) ?_
  refine x_sub [2, 3, 4, 5, 6, 7, 8, 9, 10, 11, 1, 0] rfl ?_
  exact hc97 _ _ _ _ _ _ _ _ _ _ _ _ h
set_option maxRecDepth 100000 in
set_option maxHeartbeats 4000000 in
theorem wX9_standOf_L147 {p : Program} {l : Launch} {e : Env} {s : State} {m : MethodId} {args : Array Value} {below : List Frame} {meth : Method} {c : Code} {D : va_G} {A : Nat → Prop} {ad : Nat → Nat} {cI cX : ClassId} {r : Int32} {σ' : xSt} {c23 : Int32 → Int32 → Int32 → Int32 → Int32 → Int32 → Int32 → xSt → Option (Int32 × xSt)} {c82 : Int32 → Int32 → Int32 → Int32 → Int32 → Int32 → Int32 → Int32 → Int32 → xSt → Option (Int32 × xSt)} {c97 : Int32 → Int32 → Int32 → Int32 → Int32 → Int32 → Int32 → Int32 → Int32 → Int32 → Int32 → xSt → Option (Int32 × xSt)} (X : xX p s m args c cX9_standOf 12 RX9 D (tyM cI cX) A (wM ad cI cX)) (hr : meth.sig.returnType = (some .int)) (hl : meth.locks = false) (F : Nat) (hc23 : ∀ (v1 : Int32) (v2 : Int32) (v3 : Int32) (v4 : Int32) (v5 : Int32) (v6 : Int32) (v7 : Int32) (σ : xSt), c23 v1 v2 v3 v4 v5 v6 v7 σ = some (r, σ') → xG p l e ({ frames := 6, cells := 0, slots := 0, locals := 141 }) s m args below meth c (MQ below (xQi D A (wM ad cI cX) r σ') args s 0 0 A) 12 D A (wM ad cI cX) σ 23 [(0, .ref (ad 0)), (1, .int v1), (2, .int v2), (3, .int v3), (4, .int v4), (5, .int v5), (6, .int v6), (7, .int v7)] []) (hc82 : ∀ (v1 : Int32) (v2 : Int32) (v3 : Int32) (v4 : Int32) (v5 : Int32) (v6 : Int32) (v7 : Int32) (v8 : Int32) (v9 : Int32) (σ : xSt), c82 v1 v2 v3 v4 v5 v6 v7 v8 v9 σ = some (r, σ') → xG p l e ({ frames := 6, cells := 0, slots := 0, locals := 141 }) s m args below meth c (MQ below (xQi D A (wM ad cI cX) r σ') args s 0 0 A) 12 D A (wM ad cI cX) σ 82 [(0, .ref (ad 0)), (1, .int v1), (2, .int v2), (3, .int v3), (4, .int v4), (5, .int v5), (6, .int v6), (7, .int v7), (8, .int v8), (9, .int v9)] []) (hc97 : ∀ (v1 : Int32) (v2 : Int32) (v3 : Int32) (v4 : Int32) (v5 : Int32) (v6 : Int32) (v7 : Int32) (v8 : Int32) (v9 : Int32) (v10 : Int32) (v11 : Int32) (σ : xSt), c97 v1 v2 v3 v4 v5 v6 v7 v8 v9 v10 v11 σ = some (r, σ') → xG p l e ({ frames := 6, cells := 0, slots := 0, locals := 141 }) s m args below meth c (MQ below (xQi D A (wM ad cI cX) r σ') args s 0 0 A) 12 D A (wM ad cI cX) σ 97 [(0, .ref (ad 0)), (1, .int v1), (2, .int v2), (3, .int v3), (4, .int v4), (5, .int v5), (6, .int v6), (7, .int v7), (8, .int v8), (9, .int v9), (10, .int v10), (11, .int v11)] []) (v1 : Int32) (v2 : Int32) (v3 : Int32) (v4 : Int32) (v5 : Int32) (v6 : Int32) (v7 : Int32) (v8 : Int32) (v9 : Int32) (v11 : Int32) (t0 : Int32) (σ : xSt) (h : mX9_standOf_L147 F c23 c82 c97 v1 v2 v3 v4 v5 v6 v7 v8 v9 v11 t0 σ = some (r, σ')) : xG p l e ({ frames := 6, cells := 0, slots := 0, locals := 141 }) s m args below meth c (MQ below (xQi D A (wM ad cI cX) r σ') args s 0 0 A) 12 D A (wM ad cI cX) σ 147 [(0, .ref (ad 0)), (1, .int v1), (2, .int v2), (3, .int v3), (4, .int v4), (5, .int v5), (6, .int v6), (7, .int v7), (8, .int v8), (9, .int v9), (11, .int v11)] [.int t0] := by
  unfold mX9_standOf_L147 at h
  refine x_iconst (pc := 147) (v := 0) X dX9_standOf_147 (by decide) ?_
  refine x_sub [0, 1, 2, 3, 4, 5, 6, 7, 8, 9, 10] rfl ?_
  exact wX9_standOf_L148 X hr hl F hc23 hc82 hc97 _ _ _ _ _ _ _ _ _ _ _ _ _ h
set_option maxRecDepth 100000 in
set_option maxHeartbeats 4000000 in
theorem wX9_standOf_S97 {p : Program} {l : Launch} {e : Env} {s : State} {m : MethodId} {args : Array Value} {below : List Frame} {meth : Method} {c : Code} {D : va_G} {A : Nat → Prop} {ad : Nat → Nat} {cI cX : ClassId} {r : Int32} {σ' : xSt} {c23 : Int32 → Int32 → Int32 → Int32 → Int32 → Int32 → Int32 → xSt → Option (Int32 × xSt)} {c82 : Int32 → Int32 → Int32 → Int32 → Int32 → Int32 → Int32 → Int32 → Int32 → xSt → Option (Int32 × xSt)} {c97 : Int32 → Int32 → Int32 → Int32 → Int32 → Int32 → Int32 → Int32 → Int32 → Int32 → Int32 → xSt → Option (Int32 × xSt)} (X : xX p s m args c cX9_standOf 12 RX9 D (tyM cI cX) A (wM ad cI cX)) (hr : meth.sig.returnType = (some .int)) (hl : meth.locks = false) (F : Nat) (hc23 : ∀ (v1 : Int32) (v2 : Int32) (v3 : Int32) (v4 : Int32) (v5 : Int32) (v6 : Int32) (v7 : Int32) (σ : xSt), c23 v1 v2 v3 v4 v5 v6 v7 σ = some (r, σ') → xG p l e ({ frames := 6, cells := 0, slots := 0, locals := 141 }) s m args below meth c (MQ below (xQi D A (wM ad cI cX) r σ') args s 0 0 A) 12 D A (wM ad cI cX) σ 23 [(0, .ref (ad 0)), (1, .int v1), (2, .int v2), (3, .int v3), (4, .int v4), (5, .int v5), (6, .int v6), (7, .int v7)] []) (hc82 : ∀ (v1 : Int32) (v2 : Int32) (v3 : Int32) (v4 : Int32) (v5 : Int32) (v6 : Int32) (v7 : Int32) (v8 : Int32) (v9 : Int32) (σ : xSt), c82 v1 v2 v3 v4 v5 v6 v7 v8 v9 σ = some (r, σ') → xG p l e ({ frames := 6, cells := 0, slots := 0, locals := 141 }) s m args below meth c (MQ below (xQi D A (wM ad cI cX) r σ') args s 0 0 A) 12 D A (wM ad cI cX) σ 82 [(0, .ref (ad 0)), (1, .int v1), (2, .int v2), (3, .int v3), (4, .int v4), (5, .int v5), (6, .int v6), (7, .int v7), (8, .int v8), (9, .int v9)] []) (hc97 : ∀ (v1 : Int32) (v2 : Int32) (v3 : Int32) (v4 : Int32) (v5 : Int32) (v6 : Int32) (v7 : Int32) (v8 : Int32) (v9 : Int32) (v10 : Int32) (v11 : Int32) (σ : xSt), c97 v1 v2 v3 v4 v5 v6 v7 v8 v9 v10 v11 σ = some (r, σ') → xG p l e ({ frames := 6, cells := 0, slots := 0, locals := 141 }) s m args below meth c (MQ below (xQi D A (wM ad cI cX) r σ') args s 0 0 A) 12 D A (wM ad cI cX) σ 97 [(0, .ref (ad 0)), (1, .int v1), (2, .int v2), (3, .int v3), (4, .int v4), (5, .int v5), (6, .int v6), (7, .int v7), (8, .int v8), (9, .int v9), (10, .int v10), (11, .int v11)] []) (v1 : Int32) (v2 : Int32) (v3 : Int32) (v4 : Int32) (v5 : Int32) (v6 : Int32) (v7 : Int32) (v8 : Int32) (v9 : Int32) (v10 : Int32) (v11 : Int32) (σ : xSt) (h : mX9_standOf_S97 F c23 c82 c97 v1 v2 v3 v4 v5 v6 v7 v8 v9 v10 v11 σ = some (r, σ')) : xG p l e ({ frames := 6, cells := 0, slots := 0, locals := 141 }) s m args below meth c (MQ below (xQi D A (wM ad cI cX) r σ') args s 0 0 A) 12 D A (wM ad cI cX) σ 97 [(0, .ref (ad 0)), (1, .int v1), (2, .int v2), (3, .int v3), (4, .int v4), (5, .int v5), (6, .int v6), (7, .int v7), (8, .int v8), (9, .int v9), (10, .int v10), (11, .int v11)] [] := by
  unfold mX9_standOf_S97 at h
  refine x_iload (pc := 97) X dX9_standOf_97 11 rfl ?_
  refine x_aload_n (pc := 99) X dX9_standOf_99 rfl 0 rfl ?_
  refine gX9_113 (pc := 100) X dX9_standOf_100 ?_
  refine x_icmp_ge (pc := 103) X 157 dX9_standOf_103 (by decide) (fun hc => ?_) (fun hc => ?_)
  · have h := xit hc h
    refine x_sub [0, 1, 2, 3, 4, 5, 6, 7, 8, 9, 10] rfl ?_
    exact wX9_standOf_L157 X hr hl F hc23 hc82 _ _ _ _ _ _ _ _ _ _ _ h
  · have h := xif hc h
    refine x_iload (pc := 106) X dX9_standOf_106 10 rfl ?_
    refine x_iload_n (pc := 108) X dX9_standOf_108 rfl 3 rfl ?_
    refine x_iload (pc := 109) X dX9_standOf_109 9 rfl ?_
    obtain ⟨r111, σ111, hq111, h⟩ := xb2_some h
    refine x_calliS (pc := 111) (As := [.int v3, .int v9]) (rest := [.int v10]) X (kX9_isIn l X.2.2.2.2.2.2.2 F _ _ _ _ _ hq111) kvX9_199 ⟨rfl, rfl, Nat.le_of_ble_eq_true rfl, Nat.le_of_ble_eq_true rfl⟩ rfl rfl (Nat.le_of_ble_eq_true rfl) dX9_standOf_111 ?_
    refine x_if_eq (pc := 114) X 147 dX9_standOf_114 (by decide) (fun hc => ?_) (fun hc => ?_)
    · have h := xit hc h
      refine x_sub [0, 1, 2, 3, 4, 5, 6, 7, 8, 9, 11] rfl ?_
      exact wX9_standOf_L147 X hr hl F hc23 hc82 hc97 _ _ _ _ _ _ _ _ _ _ _ _ h
    · have h := xif hc h
      refine x_iload_n (pc := 117) X dX9_standOf_117 rfl 3 rfl ?_
      refine x_iload (pc := 118) X dX9_standOf_118 11 rfl ?_
      obtain ⟨r120, σ120, hq120, h⟩ := xb2_some h
      refine x_calliS (pc := 120) (As := [.int v3, .int v11]) (rest := [.int v10]) X (kX9_isIn l X.2.2.2.2.2.2.2 F _ _ _ _ _ hq120) kvX9_199 ⟨rfl, rfl, Nat.le_of_ble_eq_true rfl, Nat.le_of_ble_eq_true rfl⟩ rfl rfl (Nat.le_of_ble_eq_true rfl) dX9_standOf_120 ?_
      refine x_if_eq (pc := 123) X 147 dX9_standOf_123 (by decide) (fun hc => ?_) (fun hc => ?_)
      · have h := xit hc h
        refine x_sub [0, 1, 2, 3, 4, 5, 6, 7, 8, 9, 11] rfl ?_
        exact wX9_standOf_L147 X hr hl F hc23 hc82 hc97 _ _ _ _ _ _ _ _ _ _ _ _ h
      · have h := xif hc h
        refine x_aload_n (pc := 126) X dX9_standOf_126 rfl 0 rfl ?_
        refine gX9_77 (pc := 127) X dX9_standOf_127 ?_
        refine x_iload (pc := 130) X dX9_standOf_130 9 rfl ?_
        obtain ⟨hb132, h⟩ := xck_some h
        refine x_iald (pc := 132) X 23 0 (qaX9_toldBy) rfl hb132 dX9_standOf_132 ?_
        refine x_aload_n (pc := 133) X dX9_standOf_133 rfl 0 rfl ?_
        refine gX9_77 (pc := 134) X dX9_standOf_134 ?_
        refine x_iload (pc := 137) X dX9_standOf_137 11 rfl ?_
        obtain ⟨hb139, h⟩ := xck_some h
        refine x_iald (pc := 139) X 23 0 (qaX9_toldBy) rfl hb139 dX9_standOf_139 ?_
        refine x_icmp_ne (pc := 140) X 147 dX9_standOf_140 (by decide) (fun hc => ?_) (fun hc => ?_)
        · have h := xif hc h
          refine x_sub [0, 1, 2, 3, 4, 5, 6, 7, 8, 9, 11] rfl ?_
          exact wX9_standOf_L147 X hr hl F hc23 hc82 hc97 _ _ _ _ _ _ _ _ _ _ _ _ h
        · have h := xit hc h
          refine x_iconst (pc := 143) (v := 1) X dX9_standOf_143 (by decide) ?_
          refine x_goto (pc := 144) X 148 dX9_standOf_144 (by decide) ?_
          refine x_sub [0, 1, 2, 3, 4, 5, 6, 7, 8, 9, 11] rfl ?_
          exact wX9_standOf_L148 X hr hl F hc23 hc82 hc97 _ _ _ _ _ _ _ _ _ _ _ _ _ h
theorem wX9_standOf_L97 {p : Program} {l : Launch} {e : Env} {s : State} {m : MethodId} {args : Array Value} {below : List Frame} {meth : Method} {c : Code} {D : va_G} {A : Nat → Prop} {ad : Nat → Nat} {cI cX : ClassId} {r : Int32} {σ' : xSt} {c23 : Int32 → Int32 → Int32 → Int32 → Int32 → Int32 → Int32 → xSt → Option (Int32 × xSt)} {c82 : Int32 → Int32 → Int32 → Int32 → Int32 → Int32 → Int32 → Int32 → Int32 → xSt → Option (Int32 × xSt)} (X : xX p s m args c cX9_standOf 12 RX9 D (tyM cI cX) A (wM ad cI cX)) (hr : meth.sig.returnType = (some .int)) (hl : meth.locks = false) (F : Nat) (hc23 : ∀ (v1 : Int32) (v2 : Int32) (v3 : Int32) (v4 : Int32) (v5 : Int32) (v6 : Int32) (v7 : Int32) (σ : xSt), c23 v1 v2 v3 v4 v5 v6 v7 σ = some (r, σ') → xG p l e ({ frames := 6, cells := 0, slots := 0, locals := 141 }) s m args below meth c (MQ below (xQi D A (wM ad cI cX) r σ') args s 0 0 A) 12 D A (wM ad cI cX) σ 23 [(0, .ref (ad 0)), (1, .int v1), (2, .int v2), (3, .int v3), (4, .int v4), (5, .int v5), (6, .int v6), (7, .int v7)] []) (hc82 : ∀ (v1 : Int32) (v2 : Int32) (v3 : Int32) (v4 : Int32) (v5 : Int32) (v6 : Int32) (v7 : Int32) (v8 : Int32) (v9 : Int32) (σ : xSt), c82 v1 v2 v3 v4 v5 v6 v7 v8 v9 σ = some (r, σ') → xG p l e ({ frames := 6, cells := 0, slots := 0, locals := 141 }) s m args below meth c (MQ below (xQi D A (wM ad cI cX) r σ') args s 0 0 A) 12 D A (wM ad cI cX) σ 82 [(0, .ref (ad 0)), (1, .int v1), (2, .int v2), (3, .int v3), (4, .int v4), (5, .int v5), (6, .int v6), (7, .int v7), (8, .int v8), (9, .int v9)] []) : ∀ (n : Nat) (v1 : Int32) (v2 : Int32) (v3 : Int32) (v4 : Int32) (v5 : Int32) (v6 : Int32) (v7 : Int32) (v8 : Int32) (v9 : Int32) (v10 : Int32) (v11 : Int32) (σ : xSt), mX9_standOf_L97 F c23 c82 n v1 v2 v3 v4 v5 v6 v7 v8 v9 v10 v11 σ = some (r, σ') → xG p l e ({ frames := 6, cells := 0, slots := 0, locals := 141 }) s m args below meth c (MQ below (xQi D A (wM ad cI cX) r σ') args s 0 0 A) 12 D A (wM ad cI cX) σ 97 [(0, .ref (ad 0)), (1, .int v1), (2, .int v2), (3, .int v3), (4, .int v4), (5, .int v5), (6, .int v6), (7, .int v7), (8, .int v8), (9, .int v9), (10, .int v10), (11, .int v11)] [] := by
  intro n
  induction n with
  | zero => intro v1 v2 v3 v4 v5 v6 v7 v8 v9 v10 v11 σ h; cases h
  | succ n ih => intro v1 v2 v3 v4 v5 v6 v7 v8 v9 v10 v11 σ h; exact wX9_standOf_S97 X hr hl F hc23 hc82 ih v1 v2 v3 v4 v5 v6 v7 v8 v9 v10 v11 σ h
set_option maxRecDepth 100000 in
set_option maxHeartbeats 4000000 in
theorem wX9_standOf_S82 {p : Program} {l : Launch} {e : Env} {s : State} {m : MethodId} {args : Array Value} {below : List Frame} {meth : Method} {c : Code} {D : va_G} {A : Nat → Prop} {ad : Nat → Nat} {cI cX : ClassId} {r : Int32} {σ' : xSt} {c23 : Int32 → Int32 → Int32 → Int32 → Int32 → Int32 → Int32 → xSt → Option (Int32 × xSt)} {c82 : Int32 → Int32 → Int32 → Int32 → Int32 → Int32 → Int32 → Int32 → Int32 → xSt → Option (Int32 × xSt)} (X : xX p s m args c cX9_standOf 12 RX9 D (tyM cI cX) A (wM ad cI cX)) (hr : meth.sig.returnType = (some .int)) (hl : meth.locks = false) (F : Nat) (hc23 : ∀ (v1 : Int32) (v2 : Int32) (v3 : Int32) (v4 : Int32) (v5 : Int32) (v6 : Int32) (v7 : Int32) (σ : xSt), c23 v1 v2 v3 v4 v5 v6 v7 σ = some (r, σ') → xG p l e ({ frames := 6, cells := 0, slots := 0, locals := 141 }) s m args below meth c (MQ below (xQi D A (wM ad cI cX) r σ') args s 0 0 A) 12 D A (wM ad cI cX) σ 23 [(0, .ref (ad 0)), (1, .int v1), (2, .int v2), (3, .int v3), (4, .int v4), (5, .int v5), (6, .int v6), (7, .int v7)] []) (hc82 : ∀ (v1 : Int32) (v2 : Int32) (v3 : Int32) (v4 : Int32) (v5 : Int32) (v6 : Int32) (v7 : Int32) (v8 : Int32) (v9 : Int32) (σ : xSt), c82 v1 v2 v3 v4 v5 v6 v7 v8 v9 σ = some (r, σ') → xG p l e ({ frames := 6, cells := 0, slots := 0, locals := 141 }) s m args below meth c (MQ below (xQi D A (wM ad cI cX) r σ') args s 0 0 A) 12 D A (wM ad cI cX) σ 82 [(0, .ref (ad 0)), (1, .int v1), (2, .int v2), (3, .int v3), (4, .int v4), (5, .int v5), (6, .int v6), (7, .int v7), (8, .int v8), (9, .int v9)] []) (v1 : Int32) (v2 : Int32) (v3 : Int32) (v4 : Int32) (v5 : Int32) (v6 : Int32) (v7 : Int32) (v8 : Int32) (v9 : Int32) (σ : xSt) (h : mX9_standOf_S82 F c23 c82 v1 v2 v3 v4 v5 v6 v7 v8 v9 σ = some (r, σ')) : xG p l e ({ frames := 6, cells := 0, slots := 0, locals := 141 }) s m args below meth c (MQ below (xQi D A (wM ad cI cX) r σ') args s 0 0 A) 12 D A (wM ad cI cX) σ 82 [(0, .ref (ad 0)), (1, .int v1), (2, .int v2), (3, .int v3), (4, .int v4), (5, .int v5), (6, .int v6), (7, .int v7), (8, .int v8), (9, .int v9)] [] := by
  unfold mX9_standOf_S82 at h
  refine x_iload (pc := 82) X dX9_standOf_82 9 rfl ?_
  refine x_aload_n (pc := 84) X dX9_standOf_84 rfl 0 rfl ?_
  refine gX9_113 (pc := 85) X dX9_standOf_85 ?_
  refine x_icmp_ge (pc := 88) X 179 dX9_standOf_88 (by decide) (fun hc => ?_) (fun hc => ?_)
  · have h := xit hc h
    refine x_sub [0, 1, 2, 3, 4, 5, 6, 7, 8] rfl ?_
    exact wX9_standOf_L179 X hr hl F hc23 _ _ _ _ _ _ _ _ _ h
  · have h := xif hc h
    refine x_iconst (pc := 91) (v := 0) X dX9_standOf_91 (by decide) ?_
    refine x_istore (pc := 92) (lv' := [(10, .int 0), (0, .ref (ad 0)), (1, .int v1), (2, .int v2), (3, .int v3), (4, .int v4), (5, .int v5), (6, .int v6), (7, .int v7), (8, .int v8), (9, .int v9)]) X dX9_standOf_92 (by decide) rfl ?_
    refine x_iconst (pc := 94) (v := 0) X dX9_standOf_94 (by decide) ?_
    refine x_istore (pc := 95) (lv' := [(11, .int 0), (10, .int 0), (0, .ref (ad 0)), (1, .int v1), (2, .int v2), (3, .int v3), (4, .int v4), (5, .int v5), (6, .int v6), (7, .int v7), (8, .int v8), (9, .int v9)]) X dX9_standOf_95 (by decide) rfl ?_
    refine x_sub [2, 3, 4, 5, 6, 7, 8, 9, 10, 11, 1, 0] rfl ?_
    exact wX9_standOf_L97 X hr hl F hc23 hc82 F _ _ _ _ _ _ _ _ _ _ _ _ h
theorem wX9_standOf_L82 {p : Program} {l : Launch} {e : Env} {s : State} {m : MethodId} {args : Array Value} {below : List Frame} {meth : Method} {c : Code} {D : va_G} {A : Nat → Prop} {ad : Nat → Nat} {cI cX : ClassId} {r : Int32} {σ' : xSt} {c23 : Int32 → Int32 → Int32 → Int32 → Int32 → Int32 → Int32 → xSt → Option (Int32 × xSt)} (X : xX p s m args c cX9_standOf 12 RX9 D (tyM cI cX) A (wM ad cI cX)) (hr : meth.sig.returnType = (some .int)) (hl : meth.locks = false) (F : Nat) (hc23 : ∀ (v1 : Int32) (v2 : Int32) (v3 : Int32) (v4 : Int32) (v5 : Int32) (v6 : Int32) (v7 : Int32) (σ : xSt), c23 v1 v2 v3 v4 v5 v6 v7 σ = some (r, σ') → xG p l e ({ frames := 6, cells := 0, slots := 0, locals := 141 }) s m args below meth c (MQ below (xQi D A (wM ad cI cX) r σ') args s 0 0 A) 12 D A (wM ad cI cX) σ 23 [(0, .ref (ad 0)), (1, .int v1), (2, .int v2), (3, .int v3), (4, .int v4), (5, .int v5), (6, .int v6), (7, .int v7)] []) : ∀ (n : Nat) (v1 : Int32) (v2 : Int32) (v3 : Int32) (v4 : Int32) (v5 : Int32) (v6 : Int32) (v7 : Int32) (v8 : Int32) (v9 : Int32) (σ : xSt), mX9_standOf_L82 F c23 n v1 v2 v3 v4 v5 v6 v7 v8 v9 σ = some (r, σ') → xG p l e ({ frames := 6, cells := 0, slots := 0, locals := 141 }) s m args below meth c (MQ below (xQi D A (wM ad cI cX) r σ') args s 0 0 A) 12 D A (wM ad cI cX) σ 82 [(0, .ref (ad 0)), (1, .int v1), (2, .int v2), (3, .int v3), (4, .int v4), (5, .int v5), (6, .int v6), (7, .int v7), (8, .int v8), (9, .int v9)] [] := by
  intro n
  induction n with
  | zero => intro v1 v2 v3 v4 v5 v6 v7 v8 v9 σ h; cases h
  | succ n ih => intro v1 v2 v3 v4 v5 v6 v7 v8 v9 σ h; exact wX9_standOf_S82 X hr hl F hc23 ih v1 v2 v3 v4 v5 v6 v7 v8 v9 σ h
set_option maxRecDepth 100000 in
set_option maxHeartbeats 4000000 in
theorem wX9_standOf_L79 {p : Program} {l : Launch} {e : Env} {s : State} {m : MethodId} {args : Array Value} {below : List Frame} {meth : Method} {c : Code} {D : va_G} {A : Nat → Prop} {ad : Nat → Nat} {cI cX : ClassId} {r : Int32} {σ' : xSt} {c23 : Int32 → Int32 → Int32 → Int32 → Int32 → Int32 → Int32 → xSt → Option (Int32 × xSt)} (X : xX p s m args c cX9_standOf 12 RX9 D (tyM cI cX) A (wM ad cI cX)) (hr : meth.sig.returnType = (some .int)) (hl : meth.locks = false) (F : Nat) (hc23 : ∀ (v1 : Int32) (v2 : Int32) (v3 : Int32) (v4 : Int32) (v5 : Int32) (v6 : Int32) (v7 : Int32) (σ : xSt), c23 v1 v2 v3 v4 v5 v6 v7 σ = some (r, σ') → xG p l e ({ frames := 6, cells := 0, slots := 0, locals := 141 }) s m args below meth c (MQ below (xQi D A (wM ad cI cX) r σ') args s 0 0 A) 12 D A (wM ad cI cX) σ 23 [(0, .ref (ad 0)), (1, .int v1), (2, .int v2), (3, .int v3), (4, .int v4), (5, .int v5), (6, .int v6), (7, .int v7)] []) (v1 : Int32) (v2 : Int32) (v3 : Int32) (v4 : Int32) (v5 : Int32) (v6 : Int32) (v7 : Int32) (v8 : Int32) (σ : xSt) (h : mX9_standOf_L79 F c23 v1 v2 v3 v4 v5 v6 v7 v8 σ = some (r, σ')) : xG p l e ({ frames := 6, cells := 0, slots := 0, locals := 141 }) s m args below meth c (MQ below (xQi D A (wM ad cI cX) r σ') args s 0 0 A) 12 D A (wM ad cI cX) σ 79 [(0, .ref (ad 0)), (1, .int v1), (2, .int v2), (3, .int v3), (4, .int v4), (5, .int v5), (6, .int v6), (7, .int v7), (8, .int v8)] [] := by
  unfold mX9_standOf_L79 at h
  refine x_iconst (pc := 79) (v := 0) X dX9_standOf_79 (by decide) ?_
  refine x_istore (pc := 80) (lv' := [(9, .int 0), (0, .ref (ad 0)), (1, .int v1), (2, .int v2), (3, .int v3), (4, .int v4), (5, .int v5), (6, .int v6), (7, .int v7), (8, .int v8)]) X dX9_standOf_80 (by decide) rfl ?_
  refine x_sub [1, 2, 3, 4, 5, 6, 7, 8, 9, 0] rfl ?_
  exact wX9_standOf_L82 X hr hl F hc23 F _ _ _ _ _ _ _ _ _ _ h
set_option maxRecDepth 100000 in
set_option maxHeartbeats 4000000 in
theorem wX9_standOf_S38 {p : Program} {l : Launch} {e : Env} {s : State} {m : MethodId} {args : Array Value} {below : List Frame} {meth : Method} {c : Code} {D : va_G} {A : Nat → Prop} {ad : Nat → Nat} {cI cX : ClassId} {r : Int32} {σ' : xSt} {c23 : Int32 → Int32 → Int32 → Int32 → Int32 → Int32 → Int32 → xSt → Option (Int32 × xSt)} {c38 : Int32 → Int32 → Int32 → Int32 → Int32 → Int32 → Int32 → Int32 → Int32 → xSt → Option (Int32 × xSt)} (X : xX p s m args c cX9_standOf 12 RX9 D (tyM cI cX) A (wM ad cI cX)) (hr : meth.sig.returnType = (some .int)) (hl : meth.locks = false) (F : Nat) (hc23 : ∀ (v1 : Int32) (v2 : Int32) (v3 : Int32) (v4 : Int32) (v5 : Int32) (v6 : Int32) (v7 : Int32) (σ : xSt), c23 v1 v2 v3 v4 v5 v6 v7 σ = some (r, σ') → xG p l e ({ frames := 6, cells := 0, slots := 0, locals := 141 }) s m args below meth c (MQ below (xQi D A (wM ad cI cX) r σ') args s 0 0 A) 12 D A (wM ad cI cX) σ 23 [(0, .ref (ad 0)), (1, .int v1), (2, .int v2), (3, .int v3), (4, .int v4), (5, .int v5), (6, .int v6), (7, .int v7)] []) (hc38 : ∀ (v1 : Int32) (v2 : Int32) (v3 : Int32) (v4 : Int32) (v5 : Int32) (v6 : Int32) (v7 : Int32) (v8 : Int32) (v9 : Int32) (σ : xSt), c38 v1 v2 v3 v4 v5 v6 v7 v8 v9 σ = some (r, σ') → xG p l e ({ frames := 6, cells := 0, slots := 0, locals := 141 }) s m args below meth c (MQ below (xQi D A (wM ad cI cX) r σ') args s 0 0 A) 12 D A (wM ad cI cX) σ 38 [(0, .ref (ad 0)), (1, .int v1), (2, .int v2), (3, .int v3), (4, .int v4), (5, .int v5), (6, .int v6), (7, .int v7), (8, .int v8), (9, .int v9)] []) (v1 : Int32) (v2 : Int32) (v3 : Int32) (v4 : Int32) (v5 : Int32) (v6 : Int32) (v7 : Int32) (v8 : Int32) (v9 : Int32) (σ : xSt) (h : mX9_standOf_S38 F c23 c38 v1 v2 v3 v4 v5 v6 v7 v8 v9 σ = some (r, σ')) : xG p l e ({ frames := 6, cells := 0, slots := 0, locals := 141 }) s m args below meth c (MQ below (xQi D A (wM ad cI cX) r σ') args s 0 0 A) 12 D A (wM ad cI cX) σ 38 [(0, .ref (ad 0)), (1, .int v1), (2, .int v2), (3, .int v3), (4, .int v4), (5, .int v5), (6, .int v6), (7, .int v7), (8, .int v8), (9, .int v9)] [] := by
  unfold mX9_standOf_S38 at h
  refine x_iload (pc := 38) X dX9_standOf_38 9 rfl ?_
  refine x_aload_n (pc := 40) X dX9_standOf_40 rfl 0 rfl ?_
  refine gX9_113 (pc := 41) X dX9_standOf_41 ?_
  refine x_icmp_ge (pc := 44) X 79 dX9_standOf_44 (by decide) (fun hc => ?_) (fun hc => ?_)
  · have h := xit hc h
    refine x_sub [0, 1, 2, 3, 4, 5, 6, 7, 8] rfl ?_
    exact wX9_standOf_L79 X hr hl F hc23 _ _ _ _ _ _ _ _ _ h
  · have h := xif hc h
    refine x_aload_n (pc := 47) X dX9_standOf_47 rfl 0 rfl ?_
    refine gX9_37 (pc := 48) X dX9_standOf_48 ?_
    refine x_iload_n (pc := 51) X dX9_standOf_51 rfl 1 rfl ?_
    refine x_iload (pc := 52) X dX9_standOf_52 9 rfl ?_
    obtain ⟨hb54, h⟩ := xck_some h
    refine x_iast (pc := 54) (σ' := (xsA σ 12 (Int32.toNatClampNeg v1) v9)) X 10 0 (qaX9_sitPerson) rfl (saX9_sitPerson _) hb54 dX9_standOf_54 ?_
    refine x_aload_n (pc := 55) X dX9_standOf_55 rfl 0 rfl ?_
    refine x_iload_n (pc := 56) X dX9_standOf_56 rfl 2 rfl ?_
    obtain ⟨σ57, hq57, h⟩ := xb1_some h
    refine x_callvV (pc := 57) (As := [.int v2]) (rest := []) X (kX9_runs l X.2.2.2.2.2.2.2 F _ _ _ hq57) kvX9_212 rfl (qX9) ⟨rfl, rfl, Nat.le_of_ble_eq_true rfl, Nat.le_of_ble_eq_true rfl⟩ rfl rfl (Nat.le_of_ble_eq_true rfl) dX9_standOf_57 ?_
    refine x_aload_n (pc := 60) X dX9_standOf_60 rfl 0 rfl ?_
    refine gX9_77 (pc := 61) X dX9_standOf_61 ?_
    refine x_iload (pc := 64) X dX9_standOf_64 9 rfl ?_
    refine x_aload_n (pc := 66) X dX9_standOf_66 rfl 0 rfl ?_
    refine x_iload (pc := 67) X dX9_standOf_67 7 rfl ?_
    obtain ⟨r69, σ69, hq69, h⟩ := xb2_some h
    refine x_calliV (pc := 69) (As := [.int v7]) (rest := [.int v9, .ref (ad 23)]) X (kX9_tellsNow l X.2.2.2.2.2.2.2 F _ _ _ _ hq69) kvX9_215 rfl (qX9) ⟨rfl, rfl, Nat.le_of_ble_eq_true rfl, Nat.le_of_ble_eq_true rfl⟩ rfl rfl (Nat.le_of_ble_eq_true rfl) dX9_standOf_69 ?_
    obtain ⟨hb72, h⟩ := xck_some h
    refine x_iast (pc := 72) (σ' := (xsA σ69 31 (Int32.toNatClampNeg v9) r69)) X 23 0 (qaX9_toldBy) rfl (saX9_toldBy _) hb72 dX9_standOf_72 ?_
    refine x_iinc (pc := 73) (v := (v9 + 1)) (lv' := [(9, .int (v9 + 1)), (0, .ref (ad 0)), (1, .int v1), (2, .int v2), (3, .int v3), (4, .int v4), (5, .int v5), (6, .int v6), (7, .int v7), (8, .int v8)]) X dX9_standOf_73 9 rfl rfl (by decide) rfl ?_
    refine x_goto (pc := 76) X 38 dX9_standOf_76 (by decide) ?_
    refine x_sub [1, 2, 3, 4, 5, 6, 7, 8, 9, 0] rfl ?_
    exact hc38 _ _ _ _ _ _ _ _ _ _ h
theorem wX9_standOf_L38 {p : Program} {l : Launch} {e : Env} {s : State} {m : MethodId} {args : Array Value} {below : List Frame} {meth : Method} {c : Code} {D : va_G} {A : Nat → Prop} {ad : Nat → Nat} {cI cX : ClassId} {r : Int32} {σ' : xSt} {c23 : Int32 → Int32 → Int32 → Int32 → Int32 → Int32 → Int32 → xSt → Option (Int32 × xSt)} (X : xX p s m args c cX9_standOf 12 RX9 D (tyM cI cX) A (wM ad cI cX)) (hr : meth.sig.returnType = (some .int)) (hl : meth.locks = false) (F : Nat) (hc23 : ∀ (v1 : Int32) (v2 : Int32) (v3 : Int32) (v4 : Int32) (v5 : Int32) (v6 : Int32) (v7 : Int32) (σ : xSt), c23 v1 v2 v3 v4 v5 v6 v7 σ = some (r, σ') → xG p l e ({ frames := 6, cells := 0, slots := 0, locals := 141 }) s m args below meth c (MQ below (xQi D A (wM ad cI cX) r σ') args s 0 0 A) 12 D A (wM ad cI cX) σ 23 [(0, .ref (ad 0)), (1, .int v1), (2, .int v2), (3, .int v3), (4, .int v4), (5, .int v5), (6, .int v6), (7, .int v7)] []) : ∀ (n : Nat) (v1 : Int32) (v2 : Int32) (v3 : Int32) (v4 : Int32) (v5 : Int32) (v6 : Int32) (v7 : Int32) (v8 : Int32) (v9 : Int32) (σ : xSt), mX9_standOf_L38 F c23 n v1 v2 v3 v4 v5 v6 v7 v8 v9 σ = some (r, σ') → xG p l e ({ frames := 6, cells := 0, slots := 0, locals := 141 }) s m args below meth c (MQ below (xQi D A (wM ad cI cX) r σ') args s 0 0 A) 12 D A (wM ad cI cX) σ 38 [(0, .ref (ad 0)), (1, .int v1), (2, .int v2), (3, .int v3), (4, .int v4), (5, .int v5), (6, .int v6), (7, .int v7), (8, .int v8), (9, .int v9)] [] := by
  intro n
  induction n with
  | zero => intro v1 v2 v3 v4 v5 v6 v7 v8 v9 σ h; cases h
  | succ n ih => intro v1 v2 v3 v4 v5 v6 v7 v8 v9 σ h; exact wX9_standOf_S38 X hr hl F hc23 ih v1 v2 v3 v4 v5 v6 v7 v8 v9 σ h
set_option maxRecDepth 100000 in
set_option maxHeartbeats 4000000 in
theorem wX9_standOf_S23 {p : Program} {l : Launch} {e : Env} {s : State} {m : MethodId} {args : Array Value} {below : List Frame} {meth : Method} {c : Code} {D : va_G} {A : Nat → Prop} {ad : Nat → Nat} {cI cX : ClassId} {r : Int32} {σ' : xSt} {c23 : Int32 → Int32 → Int32 → Int32 → Int32 → Int32 → Int32 → xSt → Option (Int32 × xSt)} (X : xX p s m args c cX9_standOf 12 RX9 D (tyM cI cX) A (wM ad cI cX)) (hr : meth.sig.returnType = (some .int)) (hl : meth.locks = false) (F : Nat) (hc23 : ∀ (v1 : Int32) (v2 : Int32) (v3 : Int32) (v4 : Int32) (v5 : Int32) (v6 : Int32) (v7 : Int32) (σ : xSt), c23 v1 v2 v3 v4 v5 v6 v7 σ = some (r, σ') → xG p l e ({ frames := 6, cells := 0, slots := 0, locals := 141 }) s m args below meth c (MQ below (xQi D A (wM ad cI cX) r σ') args s 0 0 A) 12 D A (wM ad cI cX) σ 23 [(0, .ref (ad 0)), (1, .int v1), (2, .int v2), (3, .int v3), (4, .int v4), (5, .int v5), (6, .int v6), (7, .int v7)] []) (v1 : Int32) (v2 : Int32) (v3 : Int32) (v4 : Int32) (v5 : Int32) (v6 : Int32) (v7 : Int32) (σ : xSt) (h : mX9_standOf_S23 F c23 v1 v2 v3 v4 v5 v6 v7 σ = some (r, σ')) : xG p l e ({ frames := 6, cells := 0, slots := 0, locals := 141 }) s m args below meth c (MQ below (xQi D A (wM ad cI cX) r σ') args s 0 0 A) 12 D A (wM ad cI cX) σ 23 [(0, .ref (ad 0)), (1, .int v1), (2, .int v2), (3, .int v3), (4, .int v4), (5, .int v5), (6, .int v6), (7, .int v7)] [] := by
  unfold mX9_standOf_S23 at h
  refine x_iload (pc := 23) X dX9_standOf_23 7 rfl ?_
  refine x_aload_n (pc := 25) X dX9_standOf_25 rfl 0 rfl ?_
  refine gX9_109 (pc := 26) X dX9_standOf_26 ?_
  refine x_icmp_ge (pc := 29) X 233 dX9_standOf_29 (by decide) (fun hc => ?_) (fun hc => ?_)
  · have h := xit hc h
    refine x_sub [0, 1, 4, 5] rfl ?_
    exact wX9_standOf_L233 X hr hl F _ _ _ _ h
  · have h := xif hc h
    refine x_iconst (pc := 32) (v := 0) X dX9_standOf_32 (by decide) ?_
    refine x_istore (pc := 33) (lv' := [(8, .int 0), (0, .ref (ad 0)), (1, .int v1), (2, .int v2), (3, .int v3), (4, .int v4), (5, .int v5), (6, .int v6), (7, .int v7)]) X dX9_standOf_33 (by decide) rfl ?_
    refine x_iconst (pc := 35) (v := 0) X dX9_standOf_35 (by decide) ?_
    refine x_istore (pc := 36) (lv' := [(9, .int 0), (8, .int 0), (0, .ref (ad 0)), (1, .int v1), (2, .int v2), (3, .int v3), (4, .int v4), (5, .int v5), (6, .int v6), (7, .int v7)]) X dX9_standOf_36 (by decide) rfl ?_
    refine x_sub [2, 3, 4, 5, 6, 7, 8, 9, 1, 0] rfl ?_
    exact wX9_standOf_L38 X hr hl F hc23 F _ _ _ _ _ _ _ _ _ _ h
theorem wX9_standOf_L23 {p : Program} {l : Launch} {e : Env} {s : State} {m : MethodId} {args : Array Value} {below : List Frame} {meth : Method} {c : Code} {D : va_G} {A : Nat → Prop} {ad : Nat → Nat} {cI cX : ClassId} {r : Int32} {σ' : xSt} (X : xX p s m args c cX9_standOf 12 RX9 D (tyM cI cX) A (wM ad cI cX)) (hr : meth.sig.returnType = (some .int)) (hl : meth.locks = false) (F : Nat) : ∀ (n : Nat) (v1 : Int32) (v2 : Int32) (v3 : Int32) (v4 : Int32) (v5 : Int32) (v6 : Int32) (v7 : Int32) (σ : xSt), mX9_standOf_L23 F n v1 v2 v3 v4 v5 v6 v7 σ = some (r, σ') → xG p l e ({ frames := 6, cells := 0, slots := 0, locals := 141 }) s m args below meth c (MQ below (xQi D A (wM ad cI cX) r σ') args s 0 0 A) 12 D A (wM ad cI cX) σ 23 [(0, .ref (ad 0)), (1, .int v1), (2, .int v2), (3, .int v3), (4, .int v4), (5, .int v5), (6, .int v6), (7, .int v7)] [] := by
  intro n
  induction n with
  | zero => intro v1 v2 v3 v4 v5 v6 v7 σ h; cases h
  | succ n ih => intro v1 v2 v3 v4 v5 v6 v7 σ h; exact wX9_standOf_S23 X hr hl F ih v1 v2 v3 v4 v5 v6 v7 σ h
set_option maxRecDepth 100000 in
set_option maxHeartbeats 4000000 in
theorem kX9_standOf (l : Launch) {D : va_G} {A : Nat → Prop} {ad : Nat → Nat} {cI cX : ClassId} (hD : ∀ σ, va_D A ((wM ad cI cX) σ)) (F : Nat) (v1 : Int32) (v2 : Int32) (σ : xSt) (r : Int32) (σ' : xSt) (h : mX9_standOf F v1 v2 σ = some (r, σ')) : xM l yX9_standOf cX9_standOf 12 (some .int) ({ frames := 6, cells := 0, slots := 0, locals := 141 }) D (tyM cI cX) A (wM ad cI cX) [.ref (ad 0), .int v1, .int v2] σ (xQi D A (wM ad cI cX) r σ') := by
  refine xM_of (lv := [(0, .ref (ad 0)), (1, .int v1), (2, .int v2)]) [.ref (ad 0), .int v1, .int v2] (by decide) hD rfl (Nat.le_of_ble_eq_true rfl) ?_
  intro p e s m args below meth c X hr hl
  unfold mX9_standOf at h
  refine x_aload_n (pc := 0) X dX9_standOf_0 rfl 0 rfl ?_
  refine x_iload_n (pc := 1) X dX9_standOf_1 rfl 1 rfl ?_
  obtain ⟨r2, σ2, hq2, h⟩ := xb2_some h
  refine x_calliV (pc := 2) (As := [.int v1]) (rest := []) X (kX9_whoOf l X.2.2.2.2.2.2.2 F _ _ _ _ hq2) kvX9_295 rfl (qX9) ⟨rfl, rfl, Nat.le_of_ble_eq_true rfl, Nat.le_of_ble_eq_true rfl⟩ rfl rfl (Nat.le_of_ble_eq_true rfl) dX9_standOf_2 ?_
  refine x_istore_n (pc := 5) (lv' := [(3, .int r2), (0, .ref (ad 0)), (1, .int v1), (2, .int v2)]) X dX9_standOf_5 rfl (by decide) rfl ?_
  refine x_aload_n (pc := 6) X dX9_standOf_6 rfl 1 rfl ?_
  refine gX9_37 (pc := 7) X dX9_standOf_7 ?_
  refine x_iload_n (pc := 10) X dX9_standOf_10 rfl 2 rfl ?_
  obtain ⟨hb11, h⟩ := xck_some h
  refine x_iald (pc := 11) X 10 0 (qaX9_sitPerson) rfl hb11 dX9_standOf_11 ?_
  refine x_istore (pc := 12) (lv' := [(4, .int (xA σ2 12 (Int32.toNatClampNeg v1))), (3, .int r2), (0, .ref (ad 0)), (1, .int v1), (2, .int v2)]) X dX9_standOf_12 (by decide) rfl ?_
  refine x_iconst (pc := 14) (v := (-1)) X dX9_standOf_14 (by decide) ?_
  refine x_istore (pc := 15) (lv' := [(5, .int (-1)), (4, .int (xA σ2 12 (Int32.toNatClampNeg v1))), (3, .int r2), (0, .ref (ad 0)), (1, .int v1), (2, .int v2)]) X dX9_standOf_15 (by decide) rfl ?_
  refine x_iconst (pc := 17) (v := 0) X dX9_standOf_17 (by decide) ?_
  refine x_istore (pc := 18) (lv' := [(6, .int 0), (5, .int (-1)), (4, .int (xA σ2 12 (Int32.toNatClampNeg v1))), (3, .int r2), (0, .ref (ad 0)), (1, .int v1), (2, .int v2)]) X dX9_standOf_18 (by decide) rfl ?_
  refine x_iconst (pc := 20) (v := 0) X dX9_standOf_20 (by decide) ?_
  refine x_istore (pc := 21) (lv' := [(7, .int 0), (6, .int 0), (5, .int (-1)), (4, .int (xA σ2 12 (Int32.toNatClampNeg v1))), (3, .int r2), (0, .ref (ad 0)), (1, .int v1), (2, .int v2)]) X dX9_standOf_21 (by decide) rfl ?_
  refine x_sub [5, 6, 7, 4, 3, 2, 1, 0] rfl ?_
  exact wX9_standOf_L23 X hr hl F F _ _ _ _ _ _ _ _ h
set_option maxRecDepth 100000 in
set_option maxHeartbeats 4000000 in
theorem wX9_stand_L26 {p : Program} {l : Launch} {e : Env} {s : State} {m : MethodId} {args : Array Value} {below : List Frame} {meth : Method} {c : Code} {D : va_G} {A : Nat → Prop} {ad : Nat → Nat} {cI cX : ClassId} {r : Int32} {σ' : xSt} (X : xX p s m args c cX9_stand 3 RX9 D (tyM cI cX) A (wM ad cI cX)) (hr : meth.sig.returnType = (some .int)) (hl : meth.locks = false) (F : Nat) (t0 : Int32) (σ : xSt) (h : mX9_stand_L26 F t0 σ = some (r, σ')) : xG p l e ({ frames := 7, cells := 0, slots := 0, locals := 172 }) s m args below meth c (MQ below (xQi D A (wM ad cI cX) r σ') args s 0 0 A) 3 D A (wM ad cI cX) σ 26 [] [.int t0] := by
  unfold mX9_stand_L26 at h
  exact x_iret (pc := 26) X hr hl h dX9_stand_26
set_option maxRecDepth 100000 in
set_option maxHeartbeats 4000000 in
theorem wX9_stand_L24 {p : Program} {l : Launch} {e : Env} {s : State} {m : MethodId} {args : Array Value} {below : List Frame} {meth : Method} {c : Code} {D : va_G} {A : Nat → Prop} {ad : Nat → Nat} {cI cX : ClassId} {r : Int32} {σ' : xSt} (X : xX p s m args c cX9_stand 3 RX9 D (tyM cI cX) A (wM ad cI cX)) (hr : meth.sig.returnType = (some .int)) (hl : meth.locks = false) (F : Nat) (σ : xSt) (h : mX9_stand_L24 F σ = some (r, σ')) : xG p l e ({ frames := 7, cells := 0, slots := 0, locals := 172 }) s m args below meth c (MQ below (xQi D A (wM ad cI cX) r σ') args s 0 0 A) 3 D A (wM ad cI cX) σ 24 [] [] := by
  unfold mX9_stand_L24 at h
  refine x_bipush (pc := 24) (v := (-2)) X dX9_stand_24 (by decide) ?_
  refine x_sub [] rfl ?_
  exact wX9_stand_L26 X hr hl F _ _ h
set_option maxRecDepth 100000 in
set_option maxHeartbeats 4000000 in
theorem kX9_stand (l : Launch) {D : va_G} {A : Nat → Prop} {ad : Nat → Nat} {cI cX : ClassId} (hD : ∀ σ, va_D A ((wM ad cI cX) σ)) (F : Nat) (v1 : Int32) (v2 : Int32) (σ : xSt) (r : Int32) (σ' : xSt) (h : mX9_stand F v1 v2 σ = some (r, σ')) : xM l yX9_stand cX9_stand 3 (some .int) ({ frames := 7, cells := 0, slots := 0, locals := 172 }) D (tyM cI cX) A (wM ad cI cX) [.ref (ad 0), .int v1, .int v2] σ (xQi D A (wM ad cI cX) r σ') := by
  refine xM_of (lv := [(0, .ref (ad 0)), (1, .int v1), (2, .int v2)]) [.ref (ad 0), .int v1, .int v2] (by decide) hD rfl (Nat.le_of_ble_eq_true rfl) ?_
  intro p e s m args below meth c X hr hl
  unfold mX9_stand at h
  refine x_aload_n (pc := 0) X dX9_stand_0 rfl 0 rfl ?_
  refine x_iload_n (pc := 1) X dX9_stand_1 rfl 1 rfl ?_
  obtain ⟨r2, σ2, hq2, h⟩ := xb2_some h
  refine x_calliV (pc := 2) (As := [.int v1]) (rest := []) X (kX9_isSitting l X.2.2.2.2.2.2.2 F _ _ _ _ hq2) kvX9_292 rfl (qX9) ⟨rfl, rfl, Nat.le_of_ble_eq_true rfl, Nat.le_of_ble_eq_true rfl⟩ rfl rfl (Nat.le_of_ble_eq_true rfl) dX9_stand_2 ?_
  refine x_if_eq (pc := 5) X 24 dX9_stand_5 (by decide) (fun hc => ?_) (fun hc => ?_)
  · have h := xit hc h
    refine x_sub [] rfl ?_
    exact wX9_stand_L24 X hr hl F _ h
  · have h := xif hc h
    refine x_iload_n (pc := 8) X dX9_stand_8 rfl 2 rfl ?_
    obtain ⟨r9, σ9, hq9, h⟩ := xb2_some h
    refine x_calliS (pc := 9) (As := [.int v2]) (rest := []) X (kX9_isHour l X.2.2.2.2.2.2.2 F _ _ _ _ hq9) kvX9_142 ⟨rfl, rfl, Nat.le_of_ble_eq_true rfl, Nat.le_of_ble_eq_true rfl⟩ rfl rfl (Nat.le_of_ble_eq_true rfl) dX9_stand_9 ?_
    refine x_if_eq (pc := 12) X 24 dX9_stand_12 (by decide) (fun hc => ?_) (fun hc => ?_)
    · have h := xit hc h
      refine x_sub [] rfl ?_
      exact wX9_stand_L24 X hr hl F _ h
    · have h := xif hc h
      refine x_aload_n (pc := 15) X dX9_stand_15 rfl 0 rfl ?_
      refine x_iload_n (pc := 16) X dX9_stand_16 rfl 1 rfl ?_
      refine x_iload_n (pc := 17) X dX9_stand_17 rfl 2 rfl ?_
      obtain ⟨r18, σ18, hq18, h⟩ := xb2_some h
      refine x_calliV (pc := 18) (As := [.int v1, .int v2]) (rest := []) X (kX9_standOf l X.2.2.2.2.2.2.2 F _ _ _ _ _ hq18) kvX9_298 rfl (qX9) ⟨rfl, rfl, Nat.le_of_ble_eq_true rfl, Nat.le_of_ble_eq_true rfl⟩ rfl rfl (Nat.le_of_ble_eq_true rfl) dX9_stand_18 ?_
      refine x_goto (pc := 21) X 26 dX9_stand_21 (by decide) ?_
      refine x_sub [] rfl ?_
      exact wX9_stand_L26 X hr hl F _ _ h
set_option maxRecDepth 100000 in
set_option maxHeartbeats 4000000 in
theorem wX9_draughtsOf_L120 {p : Program} {l : Launch} {e : Env} {s : State} {m : MethodId} {args : Array Value} {below : List Frame} {meth : Method} {c : Code} {D : va_G} {A : Nat → Prop} {ad : Nat → Nat} {cI cX : ClassId} {r : Int64} {σ' : xSt} (X : xX p s m args c cX9_draughtsOf 12 RX9 D (tyM cI cX) A (wM ad cI cX)) (hr : meth.sig.returnType = (some .long)) (hl : meth.locks = false) (F : Nat) (v4 : Int32) (v5 : Int32) (v6 : Int64) (σ : xSt) (h : mX9_draughtsOf_L120 F v4 v5 v6 σ = some (r, σ')) : xG p l e ({ frames := 5, cells := 0, slots := 0, locals := 117 }) s m args below meth c (MQ below (xQl D A (wM ad cI cX) r σ') args s 0 0 A) 12 D A (wM ad cI cX) σ 120 [(4, .int v4), (5, .int v5), (6, .long v6)] [] := by
  unfold mX9_draughtsOf_L120 at h
  refine x_lload (pc := 120) X dX9_draughtsOf_120 2 rfl ?_
  refine x_lconst (pc := 122) (v := 1) X dX9_draughtsOf_122 rfl ?_
  refine x_iconst (pc := 123) (v := 4) X dX9_draughtsOf_123 (by decide) ?_
  refine x_iload (pc := 124) X dX9_draughtsOf_124 0 rfl ?_
  refine x_iconst (pc := 126) (v := 1) X dX9_draughtsOf_126 (by decide) ?_
  refine x_iadd (pc := 127) X dX9_draughtsOf_127 ?_
  refine x_imul (pc := 128) X dX9_draughtsOf_128 ?_
  refine x_lshl (pc := 129) X dX9_draughtsOf_129 ?_
  refine x_iload (pc := 130) X dX9_draughtsOf_130 1 rfl ?_
  obtain ⟨r132, σ132, hq132, h⟩ := xb2_some h
  refine x_calllS (pc := 132) (As := [.long v6, .long (1 <<< (Int32.toInt64 (4 * (v4 + 1)) &&& 63)), .int v5]) (rest := []) X (kX9_lowest l X.2.2.2.2.2.2.2 F _ _ _ _ _ _ hq132) kvX9_301 ⟨rfl, rfl, Nat.le_of_ble_eq_true rfl, Nat.le_of_ble_eq_true rfl⟩ rfl rfl (Nat.le_of_ble_eq_true rfl) dX9_draughtsOf_132 ?_
  exact x_lret (pc := 135) X hr hl h dX9_draughtsOf_135
set_option maxRecDepth 100000 in
set_option maxHeartbeats 4000000 in
theorem wX9_draughtsOf_L114 {p : Program} {l : Launch} {e : Env} {s : State} {m : MethodId} {args : Array Value} {below : List Frame} {meth : Method} {c : Code} {D : va_G} {A : Nat → Prop} {ad : Nat → Nat} {cI cX : ClassId} {r : Int64} {σ' : xSt} {c19 : Int32 → Int32 → Int32 → Int32 → Int32 → Int64 → Int32 → xSt → Option (Int64 × xSt)} (X : xX p s m args c cX9_draughtsOf 12 RX9 D (tyM cI cX) A (wM ad cI cX)) (hr : meth.sig.returnType = (some .long)) (hl : meth.locks = false) (F : Nat) (hc19 : ∀ (v1 : Int32) (v2 : Int32) (v3 : Int32) (v4 : Int32) (v5 : Int32) (v6 : Int64) (v8 : Int32) (σ : xSt), c19 v1 v2 v3 v4 v5 v6 v8 σ = some (r, σ') → xG p l e ({ frames := 5, cells := 0, slots := 0, locals := 117 }) s m args below meth c (MQ below (xQl D A (wM ad cI cX) r σ') args s 0 0 A) 12 D A (wM ad cI cX) σ 19 [(0, .ref (ad 0)), (1, .int v1), (2, .int v2), (3, .int v3), (4, .int v4), (5, .int v5), (6, .long v6), (8, .int v8)] []) (v1 : Int32) (v2 : Int32) (v3 : Int32) (v4 : Int32) (v5 : Int32) (v6 : Int64) (v8 : Int32) (σ : xSt) (h : mX9_draughtsOf_L114 F c19 v1 v2 v3 v4 v5 v6 v8 σ = some (r, σ')) : xG p l e ({ frames := 5, cells := 0, slots := 0, locals := 117 }) s m args below meth c (MQ below (xQl D A (wM ad cI cX) r σ') args s 0 0 A) 12 D A (wM ad cI cX) σ 114 [(0, .ref (ad 0)), (1, .int v1), (2, .int v2), (3, .int v3), (4, .int v4), (5, .int v5), (6, .long v6), (8, .int v8)] [] := by
  unfold mX9_draughtsOf_L114 at h
  refine x_iinc (pc := 114) (v := (v8 + 1)) (lv' := [(8, .int (v8 + 1)), (0, .ref (ad 0)), (1, .int v1), (2, .int v2), (3, .int v3), (4, .int v4), (5, .int v5), (6, .long v6)]) X dX9_draughtsOf_114 7 rfl rfl (by decide) rfl ?_
  refine x_goto (pc := 117) X 19 dX9_draughtsOf_117 (by decide) ?_
  refine x_sub [1, 2, 3, 4, 5, 6, 7, 0] rfl ?_
  exact hc19 _ _ _ _ _ _ _ _ h
set_option maxRecDepth 100000 in
set_option maxHeartbeats 4000000 in
theorem wX9_draughtsOf_L111 {p : Program} {l : Launch} {e : Env} {s : State} {m : MethodId} {args : Array Value} {below : List Frame} {meth : Method} {c : Code} {D : va_G} {A : Nat → Prop} {ad : Nat → Nat} {cI cX : ClassId} {r : Int64} {σ' : xSt} {c19 : Int32 → Int32 → Int32 → Int32 → Int32 → Int64 → Int32 → xSt → Option (Int64 × xSt)} (X : xX p s m args c cX9_draughtsOf 12 RX9 D (tyM cI cX) A (wM ad cI cX)) (hr : meth.sig.returnType = (some .long)) (hl : meth.locks = false) (F : Nat) (hc19 : ∀ (v1 : Int32) (v2 : Int32) (v3 : Int32) (v4 : Int32) (v5 : Int32) (v6 : Int64) (v8 : Int32) (σ : xSt), c19 v1 v2 v3 v4 v5 v6 v8 σ = some (r, σ') → xG p l e ({ frames := 5, cells := 0, slots := 0, locals := 117 }) s m args below meth c (MQ below (xQl D A (wM ad cI cX) r σ') args s 0 0 A) 12 D A (wM ad cI cX) σ 19 [(0, .ref (ad 0)), (1, .int v1), (2, .int v2), (3, .int v3), (4, .int v4), (5, .int v5), (6, .long v6), (8, .int v8)] []) (v1 : Int32) (v2 : Int32) (v3 : Int32) (v4 : Int32) (v5 : Int32) (v8 : Int32) (t0 : Int64) (t1 : Int64) (σ : xSt) (h : mX9_draughtsOf_L111 F c19 v1 v2 v3 v4 v5 v8 t0 t1 σ = some (r, σ')) : xG p l e ({ frames := 5, cells := 0, slots := 0, locals := 117 }) s m args below meth c (MQ below (xQl D A (wM ad cI cX) r σ') args s 0 0 A) 12 D A (wM ad cI cX) σ 111 [(0, .ref (ad 0)), (1, .int v1), (2, .int v2), (3, .int v3), (4, .int v4), (5, .int v5), (8, .int v8)] [.long t1, .long t0] := by
  unfold mX9_draughtsOf_L111 at h
  refine x_ladd (pc := 111) X dX9_draughtsOf_111 ?_
  refine x_lstore (pc := 112) (lv' := [(6, .long (t0 + t1)), (0, .ref (ad 0)), (1, .int v1), (2, .int v2), (3, .int v3), (4, .int v4), (5, .int v5), (8, .int v8)]) X dX9_draughtsOf_112 (by decide) rfl ?_
  refine x_sub [1, 2, 3, 4, 5, 6, 0, 7] rfl ?_
  exact wX9_draughtsOf_L114 X hr hl F hc19 _ _ _ _ _ _ _ _ h
set_option maxRecDepth 100000 in
set_option maxHeartbeats 4000000 in
theorem wX9_draughtsOf_L72 {p : Program} {l : Launch} {e : Env} {s : State} {m : MethodId} {args : Array Value} {below : List Frame} {meth : Method} {c : Code} {D : va_G} {A : Nat → Prop} {ad : Nat → Nat} {cI cX : ClassId} {r : Int64} {σ' : xSt} {c19 : Int32 → Int32 → Int32 → Int32 → Int32 → Int64 → Int32 → xSt → Option (Int64 × xSt)} (X : xX p s m args c cX9_draughtsOf 12 RX9 D (tyM cI cX) A (wM ad cI cX)) (hr : meth.sig.returnType = (some .long)) (hl : meth.locks = false) (F : Nat) (hc19 : ∀ (v1 : Int32) (v2 : Int32) (v3 : Int32) (v4 : Int32) (v5 : Int32) (v6 : Int64) (v8 : Int32) (σ : xSt), c19 v1 v2 v3 v4 v5 v6 v8 σ = some (r, σ') → xG p l e ({ frames := 5, cells := 0, slots := 0, locals := 117 }) s m args below meth c (MQ below (xQl D A (wM ad cI cX) r σ') args s 0 0 A) 12 D A (wM ad cI cX) σ 19 [(0, .ref (ad 0)), (1, .int v1), (2, .int v2), (3, .int v3), (4, .int v4), (5, .int v5), (6, .long v6), (8, .int v8)] []) (v1 : Int32) (v2 : Int32) (v3 : Int32) (v4 : Int32) (v5 : Int32) (v6 : Int64) (v8 : Int32) (v9 : Int64) (σ : xSt) (h : mX9_draughtsOf_L72 F c19 v1 v2 v3 v4 v5 v6 v8 v9 σ = some (r, σ')) : xG p l e ({ frames := 5, cells := 0, slots := 0, locals := 117 }) s m args below meth c (MQ below (xQl D A (wM ad cI cX) r σ') args s 0 0 A) 12 D A (wM ad cI cX) σ 72 [(0, .ref (ad 0)), (1, .int v1), (2, .int v2), (3, .int v3), (4, .int v4), (5, .int v5), (6, .long v6), (8, .int v8), (9, .long v9)] [] := by
  unfold mX9_draughtsOf_L72 at h
  refine x_lload (pc := 72) X dX9_draughtsOf_72 8 rfl ?_
  refine x_lconst (pc := 74) (v := 0) X dX9_draughtsOf_74 rfl ?_
  refine x_lcmp (pc := 75) X dX9_draughtsOf_75 ?_
  refine x_if_le (pc := 76) X 114 dX9_draughtsOf_76 (by decide) (fun hc => ?_) (fun hc => ?_)
  · have h := xit hc h
    refine x_sub [0, 1, 2, 3, 4, 5, 6, 7] rfl ?_
    exact wX9_draughtsOf_L114 X hr hl F hc19 _ _ _ _ _ _ _ _ h
  · have h := xif hc h
    refine x_aload_n (pc := 79) X dX9_draughtsOf_79 rfl 0 rfl ?_
    refine x_iload (pc := 80) X dX9_draughtsOf_80 7 rfl ?_
    refine uX9_176 (pc := 82) X dX9_draughtsOf_82 ?_
    refine x_aload_n (pc := 85) X dX9_draughtsOf_85 rfl 0 rfl ?_
    refine x_iload (pc := 86) X dX9_draughtsOf_86 4 rfl ?_
    obtain ⟨σ88, hq88, h⟩ := xb1_some h
    refine x_callvV (pc := 88) (As := [.int v4]) (rest := []) X (kX9_runs l X.2.2.2.2.2.2.2 F _ _ _ hq88) kvX9_212 rfl (qX9) ⟨rfl, rfl, Nat.le_of_ble_eq_true rfl, Nat.le_of_ble_eq_true rfl⟩ rfl rfl (Nat.le_of_ble_eq_true rfl) dX9_draughtsOf_88 ?_
    refine x_lload (pc := 91) X dX9_draughtsOf_91 6 rfl ?_
    refine x_aload_n (pc := 93) X dX9_draughtsOf_93 rfl 0 rfl ?_
    refine x_iload_n (pc := 94) X dX9_draughtsOf_94 rfl 2 rfl ?_
    obtain ⟨r95, σ95, hq95, h⟩ := xb2_some h
    refine x_calliV (pc := 95) (As := [.int v2]) (rest := [.long v6]) X (kX9_tellsNow l X.2.2.2.2.2.2.2 F _ _ _ _ hq95) kvX9_215 rfl (qX9) ⟨rfl, rfl, Nat.le_of_ble_eq_true rfl, Nat.le_of_ble_eq_true rfl⟩ rfl rfl (Nat.le_of_ble_eq_true rfl) dX9_draughtsOf_95 ?_
    refine x_iload_n (pc := 98) X dX9_draughtsOf_98 rfl 3 rfl ?_
    obtain ⟨r99, σ99, hq99, h⟩ := xb2_some h
    refine x_calliS (pc := 99) (As := [.int r95, .int v3]) (rest := [.long v6]) X (kX9_isIn l X.2.2.2.2.2.2.2 F _ _ _ _ _ hq99) kvX9_199 ⟨rfl, rfl, Nat.le_of_ble_eq_true rfl, Nat.le_of_ble_eq_true rfl⟩ rfl rfl (Nat.le_of_ble_eq_true rfl) dX9_draughtsOf_99 ?_
    refine x_if_eq (pc := 102) X 110 dX9_draughtsOf_102 (by decide) (fun hc => ?_) (fun hc => ?_)
    · have h := xit hc h
      refine x_lconst (pc := 110) (v := 0) X dX9_draughtsOf_110 rfl ?_
      refine x_sub [0, 1, 2, 3, 4, 5, 7] rfl ?_
      exact wX9_draughtsOf_L111 X hr hl F hc19 _ _ _ _ _ _ _ _ _ h
    · have h := xif hc h
      refine x_lload (pc := 105) X dX9_draughtsOf_105 8 rfl ?_
      refine x_goto (pc := 107) X 111 dX9_draughtsOf_107 (by decide) ?_
      refine x_sub [0, 1, 2, 3, 4, 5, 7] rfl ?_
      exact wX9_draughtsOf_L111 X hr hl F hc19 _ _ _ _ _ _ _ _ _ h
set_option maxRecDepth 100000 in
set_option maxHeartbeats 4000000 in
theorem wX9_draughtsOf_L63 {p : Program} {l : Launch} {e : Env} {s : State} {m : MethodId} {args : Array Value} {below : List Frame} {meth : Method} {c : Code} {D : va_G} {A : Nat → Prop} {ad : Nat → Nat} {cI cX : ClassId} {r : Int64} {σ' : xSt} {c19 : Int32 → Int32 → Int32 → Int32 → Int32 → Int64 → Int32 → xSt → Option (Int64 × xSt)} {c34 : Int32 → Int32 → Int32 → Int32 → Int32 → Int64 → Int32 → Int64 → Int32 → xSt → Option (Int64 × xSt)} (X : xX p s m args c cX9_draughtsOf 12 RX9 D (tyM cI cX) A (wM ad cI cX)) (hr : meth.sig.returnType = (some .long)) (hl : meth.locks = false) (F : Nat) (hc19 : ∀ (v1 : Int32) (v2 : Int32) (v3 : Int32) (v4 : Int32) (v5 : Int32) (v6 : Int64) (v8 : Int32) (σ : xSt), c19 v1 v2 v3 v4 v5 v6 v8 σ = some (r, σ') → xG p l e ({ frames := 5, cells := 0, slots := 0, locals := 117 }) s m args below meth c (MQ below (xQl D A (wM ad cI cX) r σ') args s 0 0 A) 12 D A (wM ad cI cX) σ 19 [(0, .ref (ad 0)), (1, .int v1), (2, .int v2), (3, .int v3), (4, .int v4), (5, .int v5), (6, .long v6), (8, .int v8)] []) (hc34 : ∀ (v1 : Int32) (v2 : Int32) (v3 : Int32) (v4 : Int32) (v5 : Int32) (v6 : Int64) (v8 : Int32) (v9 : Int64) (v11 : Int32) (σ : xSt), c34 v1 v2 v3 v4 v5 v6 v8 v9 v11 σ = some (r, σ') → xG p l e ({ frames := 5, cells := 0, slots := 0, locals := 117 }) s m args below meth c (MQ below (xQl D A (wM ad cI cX) r σ') args s 0 0 A) 12 D A (wM ad cI cX) σ 34 [(0, .ref (ad 0)), (1, .int v1), (2, .int v2), (3, .int v3), (4, .int v4), (5, .int v5), (6, .long v6), (8, .int v8), (9, .long v9), (11, .int v11)] []) (v1 : Int32) (v2 : Int32) (v3 : Int32) (v4 : Int32) (v5 : Int32) (v6 : Int64) (v8 : Int32) (v11 : Int32) (t0 : Int64) (t1 : Int64) (σ : xSt) (h : mX9_draughtsOf_L63 F c19 c34 v1 v2 v3 v4 v5 v6 v8 v11 t0 t1 σ = some (r, σ')) : xG p l e ({ frames := 5, cells := 0, slots := 0, locals := 117 }) s m args below meth c (MQ below (xQl D A (wM ad cI cX) r σ') args s 0 0 A) 12 D A (wM ad cI cX) σ 63 [(0, .ref (ad 0)), (1, .int v1), (2, .int v2), (3, .int v3), (4, .int v4), (5, .int v5), (6, .long v6), (8, .int v8), (11, .int v11)] [.long t1, .long t0] := by
  unfold mX9_draughtsOf_L63 at h
  refine x_lmul (pc := 63) X dX9_draughtsOf_63 ?_
  refine x_lstore (pc := 64) (lv' := [(9, .long (t0 * t1)), (0, .ref (ad 0)), (1, .int v1), (2, .int v2), (3, .int v3), (4, .int v4), (5, .int v5), (6, .long v6), (8, .int v8), (11, .int v11)]) X dX9_draughtsOf_64 (by decide) rfl ?_
  refine x_iinc (pc := 66) (v := (v11 + 1)) (lv' := [(11, .int (v11 + 1)), (9, .long (t0 * t1)), (0, .ref (ad 0)), (1, .int v1), (2, .int v2), (3, .int v3), (4, .int v4), (5, .int v5), (6, .long v6), (8, .int v8)]) X dX9_draughtsOf_66 9 rfl rfl (by decide) rfl ?_
  refine x_goto (pc := 69) X 34 dX9_draughtsOf_69 (by decide) ?_
  refine x_sub [2, 3, 4, 5, 6, 7, 8, 9, 1, 0] rfl ?_
  exact hc34 _ _ _ _ _ _ _ _ _ _ h
set_option maxRecDepth 100000 in
set_option maxHeartbeats 4000000 in
theorem wX9_draughtsOf_S34 {p : Program} {l : Launch} {e : Env} {s : State} {m : MethodId} {args : Array Value} {below : List Frame} {meth : Method} {c : Code} {D : va_G} {A : Nat → Prop} {ad : Nat → Nat} {cI cX : ClassId} {r : Int64} {σ' : xSt} {c19 : Int32 → Int32 → Int32 → Int32 → Int32 → Int64 → Int32 → xSt → Option (Int64 × xSt)} {c34 : Int32 → Int32 → Int32 → Int32 → Int32 → Int64 → Int32 → Int64 → Int32 → xSt → Option (Int64 × xSt)} (X : xX p s m args c cX9_draughtsOf 12 RX9 D (tyM cI cX) A (wM ad cI cX)) (hr : meth.sig.returnType = (some .long)) (hl : meth.locks = false) (F : Nat) (hc19 : ∀ (v1 : Int32) (v2 : Int32) (v3 : Int32) (v4 : Int32) (v5 : Int32) (v6 : Int64) (v8 : Int32) (σ : xSt), c19 v1 v2 v3 v4 v5 v6 v8 σ = some (r, σ') → xG p l e ({ frames := 5, cells := 0, slots := 0, locals := 117 }) s m args below meth c (MQ below (xQl D A (wM ad cI cX) r σ') args s 0 0 A) 12 D A (wM ad cI cX) σ 19 [(0, .ref (ad 0)), (1, .int v1), (2, .int v2), (3, .int v3), (4, .int v4), (5, .int v5), (6, .long v6), (8, .int v8)] []) (hc34 : ∀ (v1 : Int32) (v2 : Int32) (v3 : Int32) (v4 : Int32) (v5 : Int32) (v6 : Int64) (v8 : Int32) (v9 : Int64) (v11 : Int32) (σ : xSt), c34 v1 v2 v3 v4 v5 v6 v8 v9 v11 σ = some (r, σ') → xG p l e ({ frames := 5, cells := 0, slots := 0, locals := 117 }) s m args below meth c (MQ below (xQl D A (wM ad cI cX) r σ') args s 0 0 A) 12 D A (wM ad cI cX) σ 34 [(0, .ref (ad 0)), (1, .int v1), (2, .int v2), (3, .int v3), (4, .int v4), (5, .int v5), (6, .long v6), (8, .int v8), (9, .long v9), (11, .int v11)] []) (v1 : Int32) (v2 : Int32) (v3 : Int32) (v4 : Int32) (v5 : Int32) (v6 : Int64) (v8 : Int32) (v9 : Int64) (v11 : Int32) (σ : xSt) (h : mX9_draughtsOf_S34 F c19 c34 v1 v2 v3 v4 v5 v6 v8 v9 v11 σ = some (r, σ')) : xG p l e ({ frames := 5, cells := 0, slots := 0, locals := 117 }) s m args below meth c (MQ below (xQl D A (wM ad cI cX) r σ') args s 0 0 A) 12 D A (wM ad cI cX) σ 34 [(0, .ref (ad 0)), (1, .int v1), (2, .int v2), (3, .int v3), (4, .int v4), (5, .int v5), (6, .long v6), (8, .int v8), (9, .long v9), (11, .int v11)] [] := by
  unfold mX9_draughtsOf_S34 at h
  refine x_iload (pc := 34) X dX9_draughtsOf_34 9 rfl ?_
  refine x_iload (pc := 36) X dX9_draughtsOf_36 4 rfl ?_
  refine x_icmp_gt (pc := 38) X 72 dX9_draughtsOf_38 (by decide) (fun hc => ?_) (fun hc => ?_)
  · have h := xit hc h
    refine x_sub [0, 1, 2, 3, 4, 5, 6, 7, 8] rfl ?_
    exact wX9_draughtsOf_L72 X hr hl F hc19 _ _ _ _ _ _ _ _ _ h
  · have h := xif hc h
    refine x_lload (pc := 41) X dX9_draughtsOf_41 8 rfl ?_
    refine x_iload (pc := 43) X dX9_draughtsOf_43 7 rfl ?_
    refine x_iload (pc := 45) X dX9_draughtsOf_45 9 rfl ?_
    obtain ⟨r47, σ47, hq47, h⟩ := xb2_some h
    refine x_calliS (pc := 47) (As := [.int v8, .int v11]) (rest := [.long v9]) X (kX9_isIn l X.2.2.2.2.2.2.2 F _ _ _ _ _ hq47) kvX9_199 ⟨rfl, rfl, Nat.le_of_ble_eq_true rfl, Nat.le_of_ble_eq_true rfl⟩ rfl rfl (Nat.le_of_ble_eq_true rfl) dX9_draughtsOf_47 ?_
    refine x_if_eq (pc := 50) X 58 dX9_draughtsOf_50 (by decide) (fun hc => ?_) (fun hc => ?_)
    · have h := xit hc h
      refine x_bipush (pc := 58) (v := 16) X dX9_draughtsOf_58 (by decide) ?_
      refine x_iload_n (pc := 60) X dX9_draughtsOf_60 rfl 1 rfl ?_
      refine x_isub (pc := 61) X dX9_draughtsOf_61 ?_
      refine x_i2l (pc := 62) X dX9_draughtsOf_62 ?_
      refine x_sub [0, 1, 2, 3, 4, 5, 6, 7, 9] rfl ?_
      exact wX9_draughtsOf_L63 X hr hl F hc19 hc34 _ _ _ _ _ _ _ _ _ _ _ h
    · have h := xif hc h
      refine x_iload_n (pc := 53) X dX9_draughtsOf_53 rfl 1 rfl ?_
      refine x_i2l (pc := 54) X dX9_draughtsOf_54 ?_
      refine x_goto (pc := 55) X 63 dX9_draughtsOf_55 (by decide) ?_
      refine x_sub [0, 1, 2, 3, 4, 5, 6, 7, 9] rfl ?_
      exact wX9_draughtsOf_L63 X hr hl F hc19 hc34 _ _ _ _ _ _ _ _ _ _ _ h
theorem wX9_draughtsOf_L34 {p : Program} {l : Launch} {e : Env} {s : State} {m : MethodId} {args : Array Value} {below : List Frame} {meth : Method} {c : Code} {D : va_G} {A : Nat → Prop} {ad : Nat → Nat} {cI cX : ClassId} {r : Int64} {σ' : xSt} {c19 : Int32 → Int32 → Int32 → Int32 → Int32 → Int64 → Int32 → xSt → Option (Int64 × xSt)} (X : xX p s m args c cX9_draughtsOf 12 RX9 D (tyM cI cX) A (wM ad cI cX)) (hr : meth.sig.returnType = (some .long)) (hl : meth.locks = false) (F : Nat) (hc19 : ∀ (v1 : Int32) (v2 : Int32) (v3 : Int32) (v4 : Int32) (v5 : Int32) (v6 : Int64) (v8 : Int32) (σ : xSt), c19 v1 v2 v3 v4 v5 v6 v8 σ = some (r, σ') → xG p l e ({ frames := 5, cells := 0, slots := 0, locals := 117 }) s m args below meth c (MQ below (xQl D A (wM ad cI cX) r σ') args s 0 0 A) 12 D A (wM ad cI cX) σ 19 [(0, .ref (ad 0)), (1, .int v1), (2, .int v2), (3, .int v3), (4, .int v4), (5, .int v5), (6, .long v6), (8, .int v8)] []) : ∀ (n : Nat) (v1 : Int32) (v2 : Int32) (v3 : Int32) (v4 : Int32) (v5 : Int32) (v6 : Int64) (v8 : Int32) (v9 : Int64) (v11 : Int32) (σ : xSt), mX9_draughtsOf_L34 F c19 n v1 v2 v3 v4 v5 v6 v8 v9 v11 σ = some (r, σ') → xG p l e ({ frames := 5, cells := 0, slots := 0, locals := 117 }) s m args below meth c (MQ below (xQl D A (wM ad cI cX) r σ') args s 0 0 A) 12 D A (wM ad cI cX) σ 34 [(0, .ref (ad 0)), (1, .int v1), (2, .int v2), (3, .int v3), (4, .int v4), (5, .int v5), (6, .long v6), (8, .int v8), (9, .long v9), (11, .int v11)] [] := by
  intro n
  induction n with
  | zero => intro v1 v2 v3 v4 v5 v6 v8 v9 v11 σ h; cases h
  | succ n ih => intro v1 v2 v3 v4 v5 v6 v8 v9 v11 σ h; exact wX9_draughtsOf_S34 X hr hl F hc19 ih v1 v2 v3 v4 v5 v6 v8 v9 v11 σ h
set_option maxRecDepth 100000 in
set_option maxHeartbeats 4000000 in
theorem wX9_draughtsOf_S19 {p : Program} {l : Launch} {e : Env} {s : State} {m : MethodId} {args : Array Value} {below : List Frame} {meth : Method} {c : Code} {D : va_G} {A : Nat → Prop} {ad : Nat → Nat} {cI cX : ClassId} {r : Int64} {σ' : xSt} {c19 : Int32 → Int32 → Int32 → Int32 → Int32 → Int64 → Int32 → xSt → Option (Int64 × xSt)} (X : xX p s m args c cX9_draughtsOf 12 RX9 D (tyM cI cX) A (wM ad cI cX)) (hr : meth.sig.returnType = (some .long)) (hl : meth.locks = false) (F : Nat) (hc19 : ∀ (v1 : Int32) (v2 : Int32) (v3 : Int32) (v4 : Int32) (v5 : Int32) (v6 : Int64) (v8 : Int32) (σ : xSt), c19 v1 v2 v3 v4 v5 v6 v8 σ = some (r, σ') → xG p l e ({ frames := 5, cells := 0, slots := 0, locals := 117 }) s m args below meth c (MQ below (xQl D A (wM ad cI cX) r σ') args s 0 0 A) 12 D A (wM ad cI cX) σ 19 [(0, .ref (ad 0)), (1, .int v1), (2, .int v2), (3, .int v3), (4, .int v4), (5, .int v5), (6, .long v6), (8, .int v8)] []) (v1 : Int32) (v2 : Int32) (v3 : Int32) (v4 : Int32) (v5 : Int32) (v6 : Int64) (v8 : Int32) (σ : xSt) (h : mX9_draughtsOf_S19 F c19 v1 v2 v3 v4 v5 v6 v8 σ = some (r, σ')) : xG p l e ({ frames := 5, cells := 0, slots := 0, locals := 117 }) s m args below meth c (MQ below (xQl D A (wM ad cI cX) r σ') args s 0 0 A) 12 D A (wM ad cI cX) σ 19 [(0, .ref (ad 0)), (1, .int v1), (2, .int v2), (3, .int v3), (4, .int v4), (5, .int v5), (6, .long v6), (8, .int v8)] [] := by
  unfold mX9_draughtsOf_S19 at h
  refine x_iload (pc := 19) X dX9_draughtsOf_19 7 rfl ?_
  refine x_iconst (pc := 21) (v := 2) X dX9_draughtsOf_21 (by decide) ?_
  refine x_iload (pc := 22) X dX9_draughtsOf_22 4 rfl ?_
  refine x_ishl (pc := 24) X dX9_draughtsOf_24 ?_
  refine x_icmp_ge (pc := 25) X 120 dX9_draughtsOf_25 (by decide) (fun hc => ?_) (fun hc => ?_)
  · have h := xit hc h
    refine x_sub [4, 5, 6] rfl ?_
    exact wX9_draughtsOf_L120 X hr hl F _ _ _ _ h
  · have h := xif hc h
    refine x_lconst (pc := 28) (v := 1) X dX9_draughtsOf_28 rfl ?_
    refine x_lstore (pc := 29) (lv' := [(9, .long 1), (0, .ref (ad 0)), (1, .int v1), (2, .int v2), (3, .int v3), (4, .int v4), (5, .int v5), (6, .long v6), (8, .int v8)]) X dX9_draughtsOf_29 (by decide) rfl ?_
    refine x_iconst (pc := 31) (v := 0) X dX9_draughtsOf_31 (by decide) ?_
    refine x_istore (pc := 32) (lv' := [(11, .int 0), (9, .long 1), (0, .ref (ad 0)), (1, .int v1), (2, .int v2), (3, .int v3), (4, .int v4), (5, .int v5), (6, .long v6), (8, .int v8)]) X dX9_draughtsOf_32 (by decide) rfl ?_
    refine x_sub [2, 3, 4, 5, 6, 7, 8, 9, 1, 0] rfl ?_
    exact wX9_draughtsOf_L34 X hr hl F hc19 F _ _ _ _ _ _ _ _ _ _ h
theorem wX9_draughtsOf_L19 {p : Program} {l : Launch} {e : Env} {s : State} {m : MethodId} {args : Array Value} {below : List Frame} {meth : Method} {c : Code} {D : va_G} {A : Nat → Prop} {ad : Nat → Nat} {cI cX : ClassId} {r : Int64} {σ' : xSt} (X : xX p s m args c cX9_draughtsOf 12 RX9 D (tyM cI cX) A (wM ad cI cX)) (hr : meth.sig.returnType = (some .long)) (hl : meth.locks = false) (F : Nat) : ∀ (n : Nat) (v1 : Int32) (v2 : Int32) (v3 : Int32) (v4 : Int32) (v5 : Int32) (v6 : Int64) (v8 : Int32) (σ : xSt), mX9_draughtsOf_L19 F n v1 v2 v3 v4 v5 v6 v8 σ = some (r, σ') → xG p l e ({ frames := 5, cells := 0, slots := 0, locals := 117 }) s m args below meth c (MQ below (xQl D A (wM ad cI cX) r σ') args s 0 0 A) 12 D A (wM ad cI cX) σ 19 [(0, .ref (ad 0)), (1, .int v1), (2, .int v2), (3, .int v3), (4, .int v4), (5, .int v5), (6, .long v6), (8, .int v8)] [] := by
  intro n
  induction n with
  | zero => intro v1 v2 v3 v4 v5 v6 v8 σ h; cases h
  | succ n ih => intro v1 v2 v3 v4 v5 v6 v8 σ h; exact wX9_draughtsOf_S19 X hr hl F ih v1 v2 v3 v4 v5 v6 v8 σ h
set_option maxRecDepth 100000 in
set_option maxHeartbeats 4000000 in
theorem kX9_draughtsOf (l : Launch) {D : va_G} {A : Nat → Prop} {ad : Nat → Nat} {cI cX : ClassId} (hD : ∀ σ, va_D A ((wM ad cI cX) σ)) (F : Nat) (v1 : Int32) (v2 : Int32) (v3 : Int32) (v4 : Int32) (v5 : Int32) (σ : xSt) (r : Int64) (σ' : xSt) (h : mX9_draughtsOf F v1 v2 v3 v4 v5 σ = some (r, σ')) : xM l yX9_draughtsOf cX9_draughtsOf 12 (some .long) ({ frames := 5, cells := 0, slots := 0, locals := 117 }) D (tyM cI cX) A (wM ad cI cX) [.ref (ad 0), .int v1, .int v2, .int v3, .int v4, .int v5] σ (xQl D A (wM ad cI cX) r σ') := by
  refine xM_of (lv := [(0, .ref (ad 0)), (1, .int v1), (2, .int v2), (3, .int v3), (4, .int v4), (5, .int v5)]) [.ref (ad 0), .int v1, .int v2, .int v3, .int v4, .int v5] (by decide) hD rfl (Nat.le_of_ble_eq_true rfl) ?_
  intro p e s m args below meth c X hr hl
  unfold mX9_draughtsOf at h
  refine x_aload_n (pc := 0) X dX9_draughtsOf_0 rfl 0 rfl ?_
  obtain ⟨σ1, hq1, h⟩ := xb1_some h
  refine x_callvV (pc := 1) (As := []) (rest := []) X (kX9_reads l X.2.2.2.2.2.2.2 F _ _ hq1) kvX9_127 rfl (qX9) ⟨rfl, rfl, Nat.le_of_ble_eq_true rfl, Nat.le_of_ble_eq_true rfl⟩ rfl rfl (Nat.le_of_ble_eq_true rfl) dX9_draughtsOf_1 ?_
  refine x_aload_n (pc := 4) X dX9_draughtsOf_4 rfl 0 rfl ?_
  obtain ⟨σ5, hq5, h⟩ := xb1_some h
  refine x_callvV (pc := 5) (As := []) (rest := []) X (kX9_asTold l X.2.2.2.2.2.2.2 F _ _ hq5) kvX9_209 rfl (qX9) ⟨rfl, rfl, Nat.le_of_ble_eq_true rfl, Nat.le_of_ble_eq_true rfl⟩ rfl rfl (Nat.le_of_ble_eq_true rfl) dX9_draughtsOf_5 ?_
  refine x_aload_n (pc := 8) X dX9_draughtsOf_8 rfl 0 rfl ?_
  refine x_iload_n (pc := 9) X dX9_draughtsOf_9 rfl 2 rfl ?_
  refine uX9_179 (pc := 10) X dX9_draughtsOf_10 ?_
  refine x_lconst (pc := 13) (v := 0) X dX9_draughtsOf_13 rfl ?_
  refine x_lstore (pc := 14) (lv' := [(6, .long 0), (0, .ref (ad 0)), (1, .int v1), (2, .int v2), (3, .int v3), (4, .int v4), (5, .int v5)]) X dX9_draughtsOf_14 (by decide) rfl ?_
  refine x_iconst (pc := 16) (v := 0) X dX9_draughtsOf_16 (by decide) ?_
  refine x_istore (pc := 17) (lv' := [(8, .int 0), (6, .long 0), (0, .ref (ad 0)), (1, .int v1), (2, .int v2), (3, .int v3), (4, .int v4), (5, .int v5)]) X dX9_draughtsOf_17 (by decide) rfl ?_
  refine x_sub [2, 3, 4, 5, 6, 7, 1, 0] rfl ?_
  exact wX9_draughtsOf_L19 X hr hl F F _ _ _ _ _ _ _ _ h
set_option maxRecDepth 100000 in
set_option maxHeartbeats 4000000 in
theorem wX9_draughts_L78 {p : Program} {l : Launch} {e : Env} {s : State} {m : MethodId} {args : Array Value} {below : List Frame} {meth : Method} {c : Code} {D : va_G} {A : Nat → Prop} {ad : Nat → Nat} {cI cX : ClassId} {r : Int64} {σ' : xSt} (X : xX p s m args c cX9_draughts 7 RX9 D (tyM cI cX) A (wM ad cI cX)) (hr : meth.sig.returnType = (some .long)) (hl : meth.locks = false) (F : Nat) (t0 : Int64) (σ : xSt) (h : mX9_draughts_L78 F t0 σ = some (r, σ')) : xG p l e ({ frames := 6, cells := 0, slots := 0, locals := 148 }) s m args below meth c (MQ below (xQl D A (wM ad cI cX) r σ') args s 0 0 A) 7 D A (wM ad cI cX) σ 78 [] [.long t0] := by
  unfold mX9_draughts_L78 at h
  exact x_lret (pc := 78) X hr hl h dX9_draughts_78
set_option maxRecDepth 100000 in
set_option maxHeartbeats 4000000 in
theorem wX9_draughts_L73 {p : Program} {l : Launch} {e : Env} {s : State} {m : MethodId} {args : Array Value} {below : List Frame} {meth : Method} {c : Code} {D : va_G} {A : Nat → Prop} {ad : Nat → Nat} {cI cX : ClassId} {r : Int64} {σ' : xSt} (X : xX p s m args c cX9_draughts 7 RX9 D (tyM cI cX) A (wM ad cI cX)) (hr : meth.sig.returnType = (some .long)) (hl : meth.locks = false) (F : Nat) (σ : xSt) (h : mX9_draughts_L73 F σ = some (r, σ')) : xG p l e ({ frames := 6, cells := 0, slots := 0, locals := 148 }) s m args below meth c (MQ below (xQl D A (wM ad cI cX) r σ') args s 0 0 A) 7 D A (wM ad cI cX) σ 73 [] [] := by
  unfold mX9_draughts_L73 at h
  refine x_bipush (pc := 73) (v := (-2)) X dX9_draughts_73 (by decide) ?_
  obtain ⟨r75, σ75, hq75, h⟩ := xb2_some h
  refine x_calllS (pc := 75) (As := [.int (-2)]) (rest := []) X (kX9_no l X.2.2.2.2.2.2.2 F _ _ _ _ hq75) kvX9_309 ⟨rfl, rfl, Nat.le_of_ble_eq_true rfl, Nat.le_of_ble_eq_true rfl⟩ rfl rfl (Nat.le_of_ble_eq_true rfl) dX9_draughts_75 ?_
  refine x_sub [] rfl ?_
  exact wX9_draughts_L78 X hr hl F _ _ h
set_option maxRecDepth 100000 in
set_option maxHeartbeats 4000000 in
theorem wX9_draughts_L42 {p : Program} {l : Launch} {e : Env} {s : State} {m : MethodId} {args : Array Value} {below : List Frame} {meth : Method} {c : Code} {D : va_G} {A : Nat → Prop} {ad : Nat → Nat} {cI cX : ClassId} {r : Int64} {σ' : xSt} (X : xX p s m args c cX9_draughts 7 RX9 D (tyM cI cX) A (wM ad cI cX)) (hr : meth.sig.returnType = (some .long)) (hl : meth.locks = false) (F : Nat) (v1 : Int32) (v2 : Int32) (v3 : Int32) (v4 : Int32) (v5 : Int32) (t0 : Int32) (σ : xSt) (h : mX9_draughts_L42 F v1 v2 v3 v4 v5 t0 σ = some (r, σ')) : xG p l e ({ frames := 6, cells := 0, slots := 0, locals := 148 }) s m args below meth c (MQ below (xQl D A (wM ad cI cX) r σ') args s 0 0 A) 7 D A (wM ad cI cX) σ 42 [(0, .ref (ad 0)), (1, .int v1), (2, .int v2), (3, .int v3), (4, .int v4), (5, .int v5)] [.int t0] := by
  unfold mX9_draughts_L42 at h
  refine x_istore (pc := 42) (lv' := [(6, .int t0), (0, .ref (ad 0)), (1, .int v1), (2, .int v2), (3, .int v3), (4, .int v4), (5, .int v5)]) X dX9_draughts_42 (by decide) rfl ?_
  refine x_iload (pc := 44) X dX9_draughts_44 0 rfl ?_
  refine x_if_eq (pc := 46) X 73 dX9_draughts_46 (by decide) (fun hc => ?_) (fun hc => ?_)
  · have h := xit hc h
    refine x_sub [] rfl ?_
    exact wX9_draughts_L73 X hr hl F _ h
  · have h := xif hc h
    refine x_iload (pc := 49) X dX9_draughts_49 6 rfl ?_
    refine x_iconst (pc := 51) (v := 0) X dX9_draughts_51 (by decide) ?_
    refine x_iconst (pc := 52) (v := 1) X dX9_draughts_52 (by decide) ?_
    obtain ⟨r53, σ53, hq53, h⟩ := xb2_some h
    refine x_calliS (pc := 53) (As := [.int v5, .int 0, .int 1]) (rest := []) X (kX9_in l X.2.2.2.2.2.2.2 F _ _ _ _ _ _ hq53) kvX9_97 ⟨rfl, rfl, Nat.le_of_ble_eq_true rfl, Nat.le_of_ble_eq_true rfl⟩ rfl rfl (Nat.le_of_ble_eq_true rfl) dX9_draughts_53 ?_
    refine x_if_eq (pc := 56) X 73 dX9_draughts_56 (by decide) (fun hc => ?_) (fun hc => ?_)
    · have h := xit hc h
      refine x_sub [] rfl ?_
      exact wX9_draughts_L73 X hr hl F _ h
    · have h := xif hc h
      refine x_aload_n (pc := 59) X dX9_draughts_59 rfl 1 rfl ?_
      refine x_iload_n (pc := 60) X dX9_draughts_60 rfl 2 rfl ?_
      refine x_iload_n (pc := 61) X dX9_draughts_61 rfl 3 rfl ?_
      refine x_iload_n (pc := 62) X dX9_draughts_62 rfl 4 rfl ?_
      refine x_iload (pc := 63) X dX9_draughts_63 5 rfl ?_
      refine x_iload (pc := 65) X dX9_draughts_65 6 rfl ?_
      obtain ⟨r67, σ67, hq67, h⟩ := xb2_some h
      refine x_calllV (pc := 67) (As := [.int v1, .int v2, .int v3, .int v4, .int v5]) (rest := []) X (kX9_draughtsOf l X.2.2.2.2.2.2.2 F _ _ _ _ _ _ _ _ hq67) kvX9_305 rfl (qX9) ⟨rfl, rfl, Nat.le_of_ble_eq_true rfl, Nat.le_of_ble_eq_true rfl⟩ rfl rfl (Nat.le_of_ble_eq_true rfl) dX9_draughts_67 ?_
      refine x_goto (pc := 70) X 78 dX9_draughts_70 (by decide) ?_
      refine x_sub [] rfl ?_
      exact wX9_draughts_L78 X hr hl F _ _ h
set_option maxRecDepth 100000 in
set_option maxHeartbeats 4000000 in
theorem wX9_draughts_L41 {p : Program} {l : Launch} {e : Env} {s : State} {m : MethodId} {args : Array Value} {below : List Frame} {meth : Method} {c : Code} {D : va_G} {A : Nat → Prop} {ad : Nat → Nat} {cI cX : ClassId} {r : Int64} {σ' : xSt} (X : xX p s m args c cX9_draughts 7 RX9 D (tyM cI cX) A (wM ad cI cX)) (hr : meth.sig.returnType = (some .long)) (hl : meth.locks = false) (F : Nat) (v1 : Int32) (v2 : Int32) (v3 : Int32) (v4 : Int32) (v5 : Int32) (σ : xSt) (h : mX9_draughts_L41 F v1 v2 v3 v4 v5 σ = some (r, σ')) : xG p l e ({ frames := 6, cells := 0, slots := 0, locals := 148 }) s m args below meth c (MQ below (xQl D A (wM ad cI cX) r σ') args s 0 0 A) 7 D A (wM ad cI cX) σ 41 [(0, .ref (ad 0)), (1, .int v1), (2, .int v2), (3, .int v3), (4, .int v4), (5, .int v5)] [] := by
  unfold mX9_draughts_L41 at h
  refine x_iconst (pc := 41) (v := 0) X dX9_draughts_41 (by decide) ?_
  refine x_sub [0, 1, 2, 3, 4, 5] rfl ?_
  exact wX9_draughts_L42 X hr hl F _ _ _ _ _ _ _ h
set_option maxRecDepth 100000 in
set_option maxHeartbeats 4000000 in
theorem kX9_draughts (l : Launch) {D : va_G} {A : Nat → Prop} {ad : Nat → Nat} {cI cX : ClassId} (hD : ∀ σ, va_D A ((wM ad cI cX) σ)) (F : Nat) (v1 : Int32) (v2 : Int32) (v3 : Int32) (v4 : Int32) (v5 : Int32) (σ : xSt) (r : Int64) (σ' : xSt) (h : mX9_draughts F v1 v2 v3 v4 v5 σ = some (r, σ')) : xM l yX9_draughts cX9_draughts 7 (some .long) ({ frames := 6, cells := 0, slots := 0, locals := 148 }) D (tyM cI cX) A (wM ad cI cX) [.ref (ad 0), .int v1, .int v2, .int v3, .int v4, .int v5] σ (xQl D A (wM ad cI cX) r σ') := by
  refine xM_of (lv := [(0, .ref (ad 0)), (1, .int v1), (2, .int v2), (3, .int v3), (4, .int v4), (5, .int v5)]) [.ref (ad 0), .int v1, .int v2, .int v3, .int v4, .int v5] (by decide) hD rfl (Nat.le_of_ble_eq_true rfl) ?_
  intro p e s m args below meth c X hr hl
  unfold mX9_draughts at h
  refine x_iload_n (pc := 0) X dX9_draughts_0 rfl 1 rfl ?_
  refine x_iconst (pc := 1) (v := 0) X dX9_draughts_1 (by decide) ?_
  refine x_bipush (pc := 2) (v := 16) X dX9_draughts_2 (by decide) ?_
  obtain ⟨r4, σ4, hq4, h⟩ := xb2_some h
  refine x_calliS (pc := 4) (As := [.int v1, .int 0, .int 16]) (rest := []) X (kX9_in l X.2.2.2.2.2.2.2 F _ _ _ _ _ _ hq4) kvX9_97 ⟨rfl, rfl, Nat.le_of_ble_eq_true rfl, Nat.le_of_ble_eq_true rfl⟩ rfl rfl (Nat.le_of_ble_eq_true rfl) dX9_draughts_4 ?_
  refine x_if_eq (pc := 7) X 41 dX9_draughts_7 (by decide) (fun hc => ?_) (fun hc => ?_)
  · have h := xit hc h
    refine x_sub [0, 1, 2, 3, 4, 5] rfl ?_
    exact wX9_draughts_L41 X hr hl F _ _ _ _ _ _ h
  · have h := xif hc h
    refine x_aload_n (pc := 10) X dX9_draughts_10 rfl 0 rfl ?_
    refine x_iload_n (pc := 11) X dX9_draughts_11 rfl 2 rfl ?_
    obtain ⟨r12, σ12, hq12, h⟩ := xb2_some h
    refine x_calliV (pc := 12) (As := [.int v2]) (rest := []) X (kX9_isThing l X.2.2.2.2.2.2.2 F _ _ _ _ hq12) kvX9_130 rfl (qX9) ⟨rfl, rfl, Nat.le_of_ble_eq_true rfl, Nat.le_of_ble_eq_true rfl⟩ rfl rfl (Nat.le_of_ble_eq_true rfl) dX9_draughts_12 ?_
    refine x_if_eq (pc := 15) X 41 dX9_draughts_15 (by decide) (fun hc => ?_) (fun hc => ?_)
    · have h := xit hc h
      refine x_sub [0, 1, 2, 3, 4, 5] rfl ?_
      exact wX9_draughts_L41 X hr hl F _ _ _ _ _ _ h
    · have h := xif hc h
      refine x_aload_n (pc := 18) X dX9_draughts_18 rfl 0 rfl ?_
      refine x_iload_n (pc := 19) X dX9_draughts_19 rfl 3 rfl ?_
      obtain ⟨r20, σ20, hq20, h⟩ := xb2_some h
      refine x_calliV (pc := 20) (As := [.int v3]) (rest := []) X (kX9_isPerson l X.2.2.2.2.2.2.2 F _ _ _ _ hq20) kvX9_136 rfl (qX9) ⟨rfl, rfl, Nat.le_of_ble_eq_true rfl, Nat.le_of_ble_eq_true rfl⟩ rfl rfl (Nat.le_of_ble_eq_true rfl) dX9_draughts_20 ?_
      refine x_if_eq (pc := 23) X 41 dX9_draughts_23 (by decide) (fun hc => ?_) (fun hc => ?_)
      · have h := xit hc h
        refine x_sub [0, 1, 2, 3, 4, 5] rfl ?_
        exact wX9_draughts_L41 X hr hl F _ _ _ _ _ _ h
      · have h := xif hc h
        refine x_iload (pc := 26) X dX9_draughts_26 4 rfl ?_
        refine x_iconst (pc := 28) (v := 0) X dX9_draughts_28 (by decide) ?_
        refine x_bipush (pc := 29) (v := 9) X dX9_draughts_29 (by decide) ?_
        obtain ⟨r31, σ31, hq31, h⟩ := xb2_some h
        refine x_calliS (pc := 31) (As := [.int v4, .int 0, .int 9]) (rest := []) X (kX9_in l X.2.2.2.2.2.2.2 F _ _ _ _ _ _ hq31) kvX9_97 ⟨rfl, rfl, Nat.le_of_ble_eq_true rfl, Nat.le_of_ble_eq_true rfl⟩ rfl rfl (Nat.le_of_ble_eq_true rfl) dX9_draughts_31 ?_
        refine x_if_eq (pc := 34) X 41 dX9_draughts_34 (by decide) (fun hc => ?_) (fun hc => ?_)
        · have h := xit hc h
          refine x_sub [0, 1, 2, 3, 4, 5] rfl ?_
          exact wX9_draughts_L41 X hr hl F _ _ _ _ _ _ h
        · have h := xif hc h
          refine x_iconst (pc := 37) (v := 1) X dX9_draughts_37 (by decide) ?_
          refine x_goto (pc := 38) X 42 dX9_draughts_38 (by decide) ?_
          refine x_sub [0, 1, 2, 3, 4, 5] rfl ?_
          exact wX9_draughts_L42 X hr hl F _ _ _ _ _ _ _ h
set_option maxRecDepth 100000 in
set_option maxHeartbeats 4000000 in
theorem wX9_foundOf_L84 {p : Program} {l : Launch} {e : Env} {s : State} {m : MethodId} {args : Array Value} {below : List Frame} {meth : Method} {c : Code} {D : va_G} {A : Nat → Prop} {ad : Nat → Nat} {cI cX : ClassId} {r : Int64} {σ' : xSt} (X : xX p s m args c cX9_foundOf 7 RX9 D (tyM cI cX) A (wM ad cI cX)) (hr : meth.sig.returnType = (some .long)) (hl : meth.locks = false) (F : Nat) (v4 : Int32) (t0 : Int64) (t1 : Int64) (σ : xSt) (h : mX9_foundOf_L84 F v4 t0 t1 σ = some (r, σ')) : xG p l e ({ frames := 5, cells := 0, slots := 0, locals := 117 }) s m args below meth c (MQ below (xQl D A (wM ad cI cX) r σ') args s 0 0 A) 7 D A (wM ad cI cX) σ 84 [(4, .int v4)] [.long t1, .long t0] := by
  unfold mX9_foundOf_L84 at h
  refine x_iload (pc := 84) X dX9_foundOf_84 0 rfl ?_
  obtain ⟨r86, σ86, hq86, h⟩ := xb2_some h
  refine x_calllS (pc := 86) (As := [.long t0, .long t1, .int v4]) (rest := []) X (kX9_lowest l X.2.2.2.2.2.2.2 F _ _ _ _ _ _ hq86) kvX9_301 ⟨rfl, rfl, Nat.le_of_ble_eq_true rfl, Nat.le_of_ble_eq_true rfl⟩ rfl rfl (Nat.le_of_ble_eq_true rfl) dX9_foundOf_86 ?_
  exact x_lret (pc := 89) X hr hl h dX9_foundOf_89
set_option maxRecDepth 100000 in
set_option maxHeartbeats 4000000 in
theorem wX9_foundOf_L68 {p : Program} {l : Launch} {e : Env} {s : State} {m : MethodId} {args : Array Value} {below : List Frame} {meth : Method} {c : Code} {D : va_G} {A : Nat → Prop} {ad : Nat → Nat} {cI cX : ClassId} {r : Int64} {σ' : xSt} (X : xX p s m args c cX9_foundOf 7 RX9 D (tyM cI cX) A (wM ad cI cX)) (hr : meth.sig.returnType = (some .long)) (hl : meth.locks = false) (F : Nat) (v1 : Int32) (v4 : Int32) (v5 : Int32) (σ : xSt) (h : mX9_foundOf_L68 F v1 v4 v5 σ = some (r, σ')) : xG p l e ({ frames := 5, cells := 0, slots := 0, locals := 117 }) s m args below meth c (MQ below (xQl D A (wM ad cI cX) r σ') args s 0 0 A) 7 D A (wM ad cI cX) σ 68 [(1, .int v1), (4, .int v4), (5, .int v5)] [] := by
  unfold mX9_foundOf_L68 at h
  refine x_iload (pc := 68) X dX9_foundOf_68 2 rfl ?_
  refine x_i2l (pc := 70) X dX9_foundOf_70 ?_
  refine x_iload_n (pc := 71) X dX9_foundOf_71 rfl 0 rfl ?_
  refine x_if_ne (pc := 72) X 79 dX9_foundOf_72 (by decide) (fun hc => ?_) (fun hc => ?_)
  · have h := xif hc h
    refine x_iload_n (pc := 79) X dX9_foundOf_79 rfl 0 rfl ?_
    obtain ⟨r80, σ80, hq80, h⟩ := xb2_some h
    refine x_calliS (pc := 80) (As := [.int v1]) (rest := [.long (Int32.toInt64 v5)]) X (kX9_ones l X.2.2.2.2.2.2.2 F _ _ _ _ hq80) kvX9_276 ⟨rfl, rfl, Nat.le_of_ble_eq_true rfl, Nat.le_of_ble_eq_true rfl⟩ rfl rfl (Nat.le_of_ble_eq_true rfl) dX9_foundOf_80 ?_
    refine x_i2l (pc := 83) X dX9_foundOf_83 ?_
    refine x_sub [1] rfl ?_
    exact wX9_foundOf_L84 X hr hl F _ _ _ _ h
  · have h := xit hc h
    refine x_lconst (pc := 75) (v := 1) X dX9_foundOf_75 rfl ?_
    refine x_goto (pc := 76) X 84 dX9_foundOf_76 (by decide) ?_
    refine x_sub [1] rfl ?_
    exact wX9_foundOf_L84 X hr hl F _ _ _ _ h
set_option maxRecDepth 100000 in
set_option maxHeartbeats 4000000 in
theorem wX9_foundOf_L59 {p : Program} {l : Launch} {e : Env} {s : State} {m : MethodId} {args : Array Value} {below : List Frame} {meth : Method} {c : Code} {D : va_G} {A : Nat → Prop} {ad : Nat → Nat} {cI cX : ClassId} {r : Int64} {σ' : xSt} {c18 : Int32 → Int32 → Int32 → Int32 → Int32 → Int32 → xSt → Option (Int64 × xSt)} (X : xX p s m args c cX9_foundOf 7 RX9 D (tyM cI cX) A (wM ad cI cX)) (hr : meth.sig.returnType = (some .long)) (hl : meth.locks = false) (F : Nat) (hc18 : ∀ (v1 : Int32) (v2 : Int32) (v3 : Int32) (v4 : Int32) (v5 : Int32) (v6 : Int32) (σ : xSt), c18 v1 v2 v3 v4 v5 v6 σ = some (r, σ') → xG p l e ({ frames := 5, cells := 0, slots := 0, locals := 117 }) s m args below meth c (MQ below (xQl D A (wM ad cI cX) r σ') args s 0 0 A) 7 D A (wM ad cI cX) σ 18 [(0, .ref (ad 0)), (1, .int v1), (2, .int v2), (3, .int v3), (4, .int v4), (5, .int v5), (6, .int v6)] []) (v1 : Int32) (v2 : Int32) (v3 : Int32) (v4 : Int32) (v6 : Int32) (t0 : Int32) (t1 : Int32) (σ : xSt) (h : mX9_foundOf_L59 F c18 v1 v2 v3 v4 v6 t0 t1 σ = some (r, σ')) : xG p l e ({ frames := 5, cells := 0, slots := 0, locals := 117 }) s m args below meth c (MQ below (xQl D A (wM ad cI cX) r σ') args s 0 0 A) 7 D A (wM ad cI cX) σ 59 [(0, .ref (ad 0)), (1, .int v1), (2, .int v2), (3, .int v3), (4, .int v4), (6, .int v6)] [.int t1, .int t0] := by
  unfold mX9_foundOf_L59 at h
  refine x_iadd (pc := 59) X dX9_foundOf_59 ?_
  refine x_istore (pc := 60) (lv' := [(5, .int (t0 + t1)), (0, .ref (ad 0)), (1, .int v1), (2, .int v2), (3, .int v3), (4, .int v4), (6, .int v6)]) X dX9_foundOf_60 (by decide) rfl ?_
  refine x_iinc (pc := 62) (v := (v6 + 1)) (lv' := [(6, .int (v6 + 1)), (5, .int (t0 + t1)), (0, .ref (ad 0)), (1, .int v1), (2, .int v2), (3, .int v3), (4, .int v4)]) X dX9_foundOf_62 6 rfl rfl (by decide) rfl ?_
  refine x_goto (pc := 65) X 18 dX9_foundOf_65 (by decide) ?_
  refine x_sub [2, 3, 4, 5, 6, 1, 0] rfl ?_
  exact hc18 _ _ _ _ _ _ _ h
set_option maxRecDepth 100000 in
set_option maxHeartbeats 4000000 in
theorem wX9_foundOf_L58 {p : Program} {l : Launch} {e : Env} {s : State} {m : MethodId} {args : Array Value} {below : List Frame} {meth : Method} {c : Code} {D : va_G} {A : Nat → Prop} {ad : Nat → Nat} {cI cX : ClassId} {r : Int64} {σ' : xSt} {c18 : Int32 → Int32 → Int32 → Int32 → Int32 → Int32 → xSt → Option (Int64 × xSt)} (X : xX p s m args c cX9_foundOf 7 RX9 D (tyM cI cX) A (wM ad cI cX)) (hr : meth.sig.returnType = (some .long)) (hl : meth.locks = false) (F : Nat) (hc18 : ∀ (v1 : Int32) (v2 : Int32) (v3 : Int32) (v4 : Int32) (v5 : Int32) (v6 : Int32) (σ : xSt), c18 v1 v2 v3 v4 v5 v6 σ = some (r, σ') → xG p l e ({ frames := 5, cells := 0, slots := 0, locals := 117 }) s m args below meth c (MQ below (xQl D A (wM ad cI cX) r σ') args s 0 0 A) 7 D A (wM ad cI cX) σ 18 [(0, .ref (ad 0)), (1, .int v1), (2, .int v2), (3, .int v3), (4, .int v4), (5, .int v5), (6, .int v6)] []) (v1 : Int32) (v2 : Int32) (v3 : Int32) (v4 : Int32) (v6 : Int32) (t0 : Int32) (σ : xSt) (h : mX9_foundOf_L58 F c18 v1 v2 v3 v4 v6 t0 σ = some (r, σ')) : xG p l e ({ frames := 5, cells := 0, slots := 0, locals := 117 }) s m args below meth c (MQ below (xQl D A (wM ad cI cX) r σ') args s 0 0 A) 7 D A (wM ad cI cX) σ 58 [(0, .ref (ad 0)), (1, .int v1), (2, .int v2), (3, .int v3), (4, .int v4), (6, .int v6)] [.int t0] := by
  unfold mX9_foundOf_L58 at h
  refine x_iconst (pc := 58) (v := 0) X dX9_foundOf_58 (by decide) ?_
  refine x_sub [0, 1, 2, 3, 4, 5] rfl ?_
  exact wX9_foundOf_L59 X hr hl F hc18 _ _ _ _ _ _ _ _ h
set_option maxRecDepth 100000 in
set_option maxHeartbeats 4000000 in
theorem wX9_foundOf_S18 {p : Program} {l : Launch} {e : Env} {s : State} {m : MethodId} {args : Array Value} {below : List Frame} {meth : Method} {c : Code} {D : va_G} {A : Nat → Prop} {ad : Nat → Nat} {cI cX : ClassId} {r : Int64} {σ' : xSt} {c18 : Int32 → Int32 → Int32 → Int32 → Int32 → Int32 → xSt → Option (Int64 × xSt)} (X : xX p s m args c cX9_foundOf 7 RX9 D (tyM cI cX) A (wM ad cI cX)) (hr : meth.sig.returnType = (some .long)) (hl : meth.locks = false) (F : Nat) (hc18 : ∀ (v1 : Int32) (v2 : Int32) (v3 : Int32) (v4 : Int32) (v5 : Int32) (v6 : Int32) (σ : xSt), c18 v1 v2 v3 v4 v5 v6 σ = some (r, σ') → xG p l e ({ frames := 5, cells := 0, slots := 0, locals := 117 }) s m args below meth c (MQ below (xQl D A (wM ad cI cX) r σ') args s 0 0 A) 7 D A (wM ad cI cX) σ 18 [(0, .ref (ad 0)), (1, .int v1), (2, .int v2), (3, .int v3), (4, .int v4), (5, .int v5), (6, .int v6)] []) (v1 : Int32) (v2 : Int32) (v3 : Int32) (v4 : Int32) (v5 : Int32) (v6 : Int32) (σ : xSt) (h : mX9_foundOf_S18 F c18 v1 v2 v3 v4 v5 v6 σ = some (r, σ')) : xG p l e ({ frames := 5, cells := 0, slots := 0, locals := 117 }) s m args below meth c (MQ below (xQl D A (wM ad cI cX) r σ') args s 0 0 A) 7 D A (wM ad cI cX) σ 18 [(0, .ref (ad 0)), (1, .int v1), (2, .int v2), (3, .int v3), (4, .int v4), (5, .int v5), (6, .int v6)] [] := by
  unfold mX9_foundOf_S18 at h
  refine x_iload (pc := 18) X dX9_foundOf_18 6 rfl ?_
  refine x_bipush (pc := 20) (v := 24) X dX9_foundOf_20 (by decide) ?_
  refine x_icmp_ge (pc := 22) X 68 dX9_foundOf_22 (by decide) (fun hc => ?_) (fun hc => ?_)
  · have h := xit hc h
    refine x_sub [1, 4, 5] rfl ?_
    exact wX9_foundOf_L68 X hr hl F _ _ _ _ h
  · have h := xif hc h
    refine x_aload_n (pc := 25) X dX9_foundOf_25 rfl 0 rfl ?_
    refine x_iload (pc := 26) X dX9_foundOf_26 6 rfl ?_
    obtain ⟨σ28, hq28, h⟩ := xb1_some h
    refine x_callvV (pc := 28) (As := [.int v6]) (rest := []) X (kX9_goesBy l X.2.2.2.2.2.2.2 F _ _ _ hq28) kvX9_206 rfl (qX9) ⟨rfl, rfl, Nat.le_of_ble_eq_true rfl, Nat.le_of_ble_eq_true rfl⟩ rfl rfl (Nat.le_of_ble_eq_true rfl) dX9_foundOf_28 ?_
    refine x_iload (pc := 31) X dX9_foundOf_31 5 rfl ?_
    refine x_iload_n (pc := 33) X dX9_foundOf_33 rfl 1 rfl ?_
    refine x_iload (pc := 34) X dX9_foundOf_34 6 rfl ?_
    obtain ⟨r36, σ36, hq36, h⟩ := xb2_some h
    refine x_calliS (pc := 36) (As := [.int v1, .int v6]) (rest := [.int v5]) X (kX9_isIn l X.2.2.2.2.2.2.2 F _ _ _ _ _ hq36) kvX9_199 ⟨rfl, rfl, Nat.le_of_ble_eq_true rfl, Nat.le_of_ble_eq_true rfl⟩ rfl rfl (Nat.le_of_ble_eq_true rfl) dX9_foundOf_36 ?_
    refine x_if_eq (pc := 39) X 58 dX9_foundOf_39 (by decide) (fun hc => ?_) (fun hc => ?_)
    · have h := xit hc h
      refine x_sub [0, 1, 2, 3, 4, 6] rfl ?_
      exact wX9_foundOf_L58 X hr hl F hc18 _ _ _ _ _ _ _ h
    · have h := xif hc h
      refine x_aload_n (pc := 42) X dX9_foundOf_42 rfl 0 rfl ?_
      refine x_iload_n (pc := 43) X dX9_foundOf_43 rfl 2 rfl ?_
      obtain ⟨r44, σ44, hq44, h⟩ := xb2_some h
      refine x_calliV (pc := 44) (As := [.int v2]) (rest := [.int v5]) X (kX9_tellsNow l X.2.2.2.2.2.2.2 F _ _ _ _ hq44) kvX9_215 rfl (qX9) ⟨rfl, rfl, Nat.le_of_ble_eq_true rfl, Nat.le_of_ble_eq_true rfl⟩ rfl rfl (Nat.le_of_ble_eq_true rfl) dX9_foundOf_44 ?_
      refine x_iload_n (pc := 47) X dX9_foundOf_47 rfl 3 rfl ?_
      obtain ⟨r48, σ48, hq48, h⟩ := xb2_some h
      refine x_calliS (pc := 48) (As := [.int r44, .int v3]) (rest := [.int v5]) X (kX9_isIn l X.2.2.2.2.2.2.2 F _ _ _ _ _ hq48) kvX9_199 ⟨rfl, rfl, Nat.le_of_ble_eq_true rfl, Nat.le_of_ble_eq_true rfl⟩ rfl rfl (Nat.le_of_ble_eq_true rfl) dX9_foundOf_48 ?_
      refine x_if_eq (pc := 51) X 58 dX9_foundOf_51 (by decide) (fun hc => ?_) (fun hc => ?_)
      · have h := xit hc h
        refine x_sub [0, 1, 2, 3, 4, 6] rfl ?_
        exact wX9_foundOf_L58 X hr hl F hc18 _ _ _ _ _ _ _ h
      · have h := xif hc h
        refine x_iconst (pc := 54) (v := 1) X dX9_foundOf_54 (by decide) ?_
        refine x_goto (pc := 55) X 59 dX9_foundOf_55 (by decide) ?_
        refine x_sub [0, 1, 2, 3, 4, 6] rfl ?_
        exact wX9_foundOf_L59 X hr hl F hc18 _ _ _ _ _ _ _ _ h
theorem wX9_foundOf_L18 {p : Program} {l : Launch} {e : Env} {s : State} {m : MethodId} {args : Array Value} {below : List Frame} {meth : Method} {c : Code} {D : va_G} {A : Nat → Prop} {ad : Nat → Nat} {cI cX : ClassId} {r : Int64} {σ' : xSt} (X : xX p s m args c cX9_foundOf 7 RX9 D (tyM cI cX) A (wM ad cI cX)) (hr : meth.sig.returnType = (some .long)) (hl : meth.locks = false) (F : Nat) : ∀ (n : Nat) (v1 : Int32) (v2 : Int32) (v3 : Int32) (v4 : Int32) (v5 : Int32) (v6 : Int32) (σ : xSt), mX9_foundOf_L18 F n v1 v2 v3 v4 v5 v6 σ = some (r, σ') → xG p l e ({ frames := 5, cells := 0, slots := 0, locals := 117 }) s m args below meth c (MQ below (xQl D A (wM ad cI cX) r σ') args s 0 0 A) 7 D A (wM ad cI cX) σ 18 [(0, .ref (ad 0)), (1, .int v1), (2, .int v2), (3, .int v3), (4, .int v4), (5, .int v5), (6, .int v6)] [] := by
  intro n
  induction n with
  | zero => intro v1 v2 v3 v4 v5 v6 σ h; cases h
  | succ n ih => intro v1 v2 v3 v4 v5 v6 σ h; exact wX9_foundOf_S18 X hr hl F ih v1 v2 v3 v4 v5 v6 σ h
set_option maxRecDepth 100000 in
set_option maxHeartbeats 4000000 in
theorem kX9_foundOf (l : Launch) {D : va_G} {A : Nat → Prop} {ad : Nat → Nat} {cI cX : ClassId} (hD : ∀ σ, va_D A ((wM ad cI cX) σ)) (F : Nat) (v1 : Int32) (v2 : Int32) (v3 : Int32) (v4 : Int32) (σ : xSt) (r : Int64) (σ' : xSt) (h : mX9_foundOf F v1 v2 v3 v4 σ = some (r, σ')) : xM l yX9_foundOf cX9_foundOf 7 (some .long) ({ frames := 5, cells := 0, slots := 0, locals := 117 }) D (tyM cI cX) A (wM ad cI cX) [.ref (ad 0), .int v1, .int v2, .int v3, .int v4] σ (xQl D A (wM ad cI cX) r σ') := by
  refine xM_of (lv := [(0, .ref (ad 0)), (1, .int v1), (2, .int v2), (3, .int v3), (4, .int v4)]) [.ref (ad 0), .int v1, .int v2, .int v3, .int v4] (by decide) hD rfl (Nat.le_of_ble_eq_true rfl) ?_
  intro p e s m args below meth c X hr hl
  unfold mX9_foundOf at h
  refine x_aload_n (pc := 0) X dX9_foundOf_0 rfl 0 rfl ?_
  obtain ⟨σ1, hq1, h⟩ := xb1_some h
  refine x_callvV (pc := 1) (As := []) (rest := []) X (kX9_reads l X.2.2.2.2.2.2.2 F _ _ hq1) kvX9_127 rfl (qX9) ⟨rfl, rfl, Nat.le_of_ble_eq_true rfl, Nat.le_of_ble_eq_true rfl⟩ rfl rfl (Nat.le_of_ble_eq_true rfl) dX9_foundOf_1 ?_
  refine x_aload_n (pc := 4) X dX9_foundOf_4 rfl 0 rfl ?_
  obtain ⟨σ5, hq5, h⟩ := xb1_some h
  refine x_callvV (pc := 5) (As := []) (rest := []) X (kX9_asTold l X.2.2.2.2.2.2.2 F _ _ hq5) kvX9_209 rfl (qX9) ⟨rfl, rfl, Nat.le_of_ble_eq_true rfl, Nat.le_of_ble_eq_true rfl⟩ rfl rfl (Nat.le_of_ble_eq_true rfl) dX9_foundOf_5 ?_
  refine x_aload_n (pc := 8) X dX9_foundOf_8 rfl 0 rfl ?_
  obtain ⟨σ9, hq9, h⟩ := xb1_some h
  refine x_callvV (pc := 9) (As := []) (rest := []) X (kX9_begins l X.2.2.2.2.2.2.2 F _ _ hq9) kvX9_203 rfl (qX9) ⟨rfl, rfl, Nat.le_of_ble_eq_true rfl, Nat.le_of_ble_eq_true rfl⟩ rfl rfl (Nat.le_of_ble_eq_true rfl) dX9_foundOf_9 ?_
  refine x_iconst (pc := 12) (v := 0) X dX9_foundOf_12 (by decide) ?_
  refine x_istore (pc := 13) (lv' := [(5, .int 0), (0, .ref (ad 0)), (1, .int v1), (2, .int v2), (3, .int v3), (4, .int v4)]) X dX9_foundOf_13 (by decide) rfl ?_
  refine x_iconst (pc := 15) (v := 0) X dX9_foundOf_15 (by decide) ?_
  refine x_istore (pc := 16) (lv' := [(6, .int 0), (5, .int 0), (0, .ref (ad 0)), (1, .int v1), (2, .int v2), (3, .int v3), (4, .int v4)]) X dX9_foundOf_16 (by decide) rfl ?_
  refine x_sub [2, 3, 4, 5, 6, 1, 0] rfl ?_
  exact wX9_foundOf_L18 X hr hl F F _ _ _ _ _ _ _ h
set_option maxRecDepth 100000 in
set_option maxHeartbeats 4000000 in
theorem wX9_found_L66 {p : Program} {l : Launch} {e : Env} {s : State} {m : MethodId} {args : Array Value} {below : List Frame} {meth : Method} {c : Code} {D : va_G} {A : Nat → Prop} {ad : Nat → Nat} {cI cX : ClassId} {r : Int64} {σ' : xSt} (X : xX p s m args c cX9_found 6 RX9 D (tyM cI cX) A (wM ad cI cX)) (hr : meth.sig.returnType = (some .long)) (hl : meth.locks = false) (F : Nat) (t0 : Int64) (σ : xSt) (h : mX9_found_L66 F t0 σ = some (r, σ')) : xG p l e ({ frames := 6, cells := 0, slots := 0, locals := 143 }) s m args below meth c (MQ below (xQl D A (wM ad cI cX) r σ') args s 0 0 A) 6 D A (wM ad cI cX) σ 66 [] [.long t0] := by
  unfold mX9_found_L66 at h
  exact x_lret (pc := 66) X hr hl h dX9_found_66
set_option maxRecDepth 100000 in
set_option maxHeartbeats 4000000 in
theorem wX9_found_L61 {p : Program} {l : Launch} {e : Env} {s : State} {m : MethodId} {args : Array Value} {below : List Frame} {meth : Method} {c : Code} {D : va_G} {A : Nat → Prop} {ad : Nat → Nat} {cI cX : ClassId} {r : Int64} {σ' : xSt} (X : xX p s m args c cX9_found 6 RX9 D (tyM cI cX) A (wM ad cI cX)) (hr : meth.sig.returnType = (some .long)) (hl : meth.locks = false) (F : Nat) (σ : xSt) (h : mX9_found_L61 F σ = some (r, σ')) : xG p l e ({ frames := 6, cells := 0, slots := 0, locals := 143 }) s m args below meth c (MQ below (xQl D A (wM ad cI cX) r σ') args s 0 0 A) 6 D A (wM ad cI cX) σ 61 [] [] := by
  unfold mX9_found_L61 at h
  refine x_bipush (pc := 61) (v := (-2)) X dX9_found_61 (by decide) ?_
  obtain ⟨r63, σ63, hq63, h⟩ := xb2_some h
  refine x_calllS (pc := 63) (As := [.int (-2)]) (rest := []) X (kX9_no l X.2.2.2.2.2.2.2 F _ _ _ _ hq63) kvX9_309 ⟨rfl, rfl, Nat.le_of_ble_eq_true rfl, Nat.le_of_ble_eq_true rfl⟩ rfl rfl (Nat.le_of_ble_eq_true rfl) dX9_found_63 ?_
  refine x_sub [] rfl ?_
  exact wX9_found_L66 X hr hl F _ _ h
set_option maxRecDepth 100000 in
set_option maxHeartbeats 4000000 in
theorem wX9_found_L32 {p : Program} {l : Launch} {e : Env} {s : State} {m : MethodId} {args : Array Value} {below : List Frame} {meth : Method} {c : Code} {D : va_G} {A : Nat → Prop} {ad : Nat → Nat} {cI cX : ClassId} {r : Int64} {σ' : xSt} (X : xX p s m args c cX9_found 6 RX9 D (tyM cI cX) A (wM ad cI cX)) (hr : meth.sig.returnType = (some .long)) (hl : meth.locks = false) (F : Nat) (v1 : Int32) (v2 : Int32) (v3 : Int32) (v4 : Int32) (t0 : Int32) (σ : xSt) (h : mX9_found_L32 F v1 v2 v3 v4 t0 σ = some (r, σ')) : xG p l e ({ frames := 6, cells := 0, slots := 0, locals := 143 }) s m args below meth c (MQ below (xQl D A (wM ad cI cX) r σ') args s 0 0 A) 6 D A (wM ad cI cX) σ 32 [(0, .ref (ad 0)), (1, .int v1), (2, .int v2), (3, .int v3), (4, .int v4)] [.int t0] := by
  unfold mX9_found_L32 at h
  refine x_istore (pc := 32) (lv' := [(5, .int t0), (0, .ref (ad 0)), (1, .int v1), (2, .int v2), (3, .int v3), (4, .int v4)]) X dX9_found_32 (by decide) rfl ?_
  refine x_iload (pc := 34) X dX9_found_34 0 rfl ?_
  refine x_if_eq (pc := 36) X 61 dX9_found_36 (by decide) (fun hc => ?_) (fun hc => ?_)
  · have h := xit hc h
    refine x_sub [] rfl ?_
    exact wX9_found_L61 X hr hl F _ h
  · have h := xif hc h
    refine x_iload (pc := 39) X dX9_found_39 5 rfl ?_
    refine x_iconst (pc := 41) (v := 0) X dX9_found_41 (by decide) ?_
    refine x_iconst (pc := 42) (v := 1) X dX9_found_42 (by decide) ?_
    obtain ⟨r43, σ43, hq43, h⟩ := xb2_some h
    refine x_calliS (pc := 43) (As := [.int v4, .int 0, .int 1]) (rest := []) X (kX9_in l X.2.2.2.2.2.2.2 F _ _ _ _ _ _ hq43) kvX9_97 ⟨rfl, rfl, Nat.le_of_ble_eq_true rfl, Nat.le_of_ble_eq_true rfl⟩ rfl rfl (Nat.le_of_ble_eq_true rfl) dX9_found_43 ?_
    refine x_if_eq (pc := 46) X 61 dX9_found_46 (by decide) (fun hc => ?_) (fun hc => ?_)
    · have h := xit hc h
      refine x_sub [] rfl ?_
      exact wX9_found_L61 X hr hl F _ h
    · have h := xif hc h
      refine x_aload_n (pc := 49) X dX9_found_49 rfl 1 rfl ?_
      refine x_iload_n (pc := 50) X dX9_found_50 rfl 2 rfl ?_
      refine x_iload_n (pc := 51) X dX9_found_51 rfl 3 rfl ?_
      refine x_iload_n (pc := 52) X dX9_found_52 rfl 4 rfl ?_
      refine x_iload (pc := 53) X dX9_found_53 5 rfl ?_
      obtain ⟨r55, σ55, hq55, h⟩ := xb2_some h
      refine x_calllV (pc := 55) (As := [.int v1, .int v2, .int v3, .int v4]) (rest := []) X (kX9_foundOf l X.2.2.2.2.2.2.2 F _ _ _ _ _ _ _ hq55) kvX9_314 rfl (qX9) ⟨rfl, rfl, Nat.le_of_ble_eq_true rfl, Nat.le_of_ble_eq_true rfl⟩ rfl rfl (Nat.le_of_ble_eq_true rfl) dX9_found_55 ?_
      refine x_goto (pc := 58) X 66 dX9_found_58 (by decide) ?_
      refine x_sub [] rfl ?_
      exact wX9_found_L66 X hr hl F _ _ h
set_option maxRecDepth 100000 in
set_option maxHeartbeats 4000000 in
theorem wX9_found_L31 {p : Program} {l : Launch} {e : Env} {s : State} {m : MethodId} {args : Array Value} {below : List Frame} {meth : Method} {c : Code} {D : va_G} {A : Nat → Prop} {ad : Nat → Nat} {cI cX : ClassId} {r : Int64} {σ' : xSt} (X : xX p s m args c cX9_found 6 RX9 D (tyM cI cX) A (wM ad cI cX)) (hr : meth.sig.returnType = (some .long)) (hl : meth.locks = false) (F : Nat) (v1 : Int32) (v2 : Int32) (v3 : Int32) (v4 : Int32) (σ : xSt) (h : mX9_found_L31 F v1 v2 v3 v4 σ = some (r, σ')) : xG p l e ({ frames := 6, cells := 0, slots := 0, locals := 143 }) s m args below meth c (MQ below (xQl D A (wM ad cI cX) r σ') args s 0 0 A) 6 D A (wM ad cI cX) σ 31 [(0, .ref (ad 0)), (1, .int v1), (2, .int v2), (3, .int v3), (4, .int v4)] [] := by
  unfold mX9_found_L31 at h
  refine x_iconst (pc := 31) (v := 0) X dX9_found_31 (by decide) ?_
  refine x_sub [0, 1, 2, 3, 4] rfl ?_
  exact wX9_found_L32 X hr hl F _ _ _ _ _ _ h
set_option maxRecDepth 100000 in
set_option maxHeartbeats 4000000 in
theorem kX9_found (l : Launch) {D : va_G} {A : Nat → Prop} {ad : Nat → Nat} {cI cX : ClassId} (hD : ∀ σ, va_D A ((wM ad cI cX) σ)) (F : Nat) (v1 : Int32) (v2 : Int32) (v3 : Int32) (v4 : Int32) (σ : xSt) (r : Int64) (σ' : xSt) (h : mX9_found F v1 v2 v3 v4 σ = some (r, σ')) : xM l yX9_found cX9_found 6 (some .long) ({ frames := 6, cells := 0, slots := 0, locals := 143 }) D (tyM cI cX) A (wM ad cI cX) [.ref (ad 0), .int v1, .int v2, .int v3, .int v4] σ (xQl D A (wM ad cI cX) r σ') := by
  refine xM_of (lv := [(0, .ref (ad 0)), (1, .int v1), (2, .int v2), (3, .int v3), (4, .int v4)]) [.ref (ad 0), .int v1, .int v2, .int v3, .int v4] (by decide) hD rfl (Nat.le_of_ble_eq_true rfl) ?_
  intro p e s m args below meth c X hr hl
  unfold mX9_found at h
  refine x_iload_n (pc := 0) X dX9_found_0 rfl 1 rfl ?_
  refine x_iconst (pc := 1) (v := 0) X dX9_found_1 (by decide) ?_
  refine x_ldcw (pc := 2) X kcX9_313 dX9_found_2 ?_
  obtain ⟨r5, σ5, hq5, h⟩ := xb2_some h
  refine x_calliS (pc := 5) (As := [.int v1, .int 0, .int 16777215]) (rest := []) X (kX9_in l X.2.2.2.2.2.2.2 F _ _ _ _ _ _ hq5) kvX9_97 ⟨rfl, rfl, Nat.le_of_ble_eq_true rfl, Nat.le_of_ble_eq_true rfl⟩ rfl rfl (Nat.le_of_ble_eq_true rfl) dX9_found_5 ?_
  refine x_if_eq (pc := 8) X 31 dX9_found_8 (by decide) (fun hc => ?_) (fun hc => ?_)
  · have h := xit hc h
    refine x_sub [0, 1, 2, 3, 4] rfl ?_
    exact wX9_found_L31 X hr hl F _ _ _ _ _ h
  · have h := xif hc h
    refine x_aload_n (pc := 11) X dX9_found_11 rfl 0 rfl ?_
    refine x_iload_n (pc := 12) X dX9_found_12 rfl 2 rfl ?_
    obtain ⟨r13, σ13, hq13, h⟩ := xb2_some h
    refine x_calliV (pc := 13) (As := [.int v2]) (rest := []) X (kX9_isThing l X.2.2.2.2.2.2.2 F _ _ _ _ hq13) kvX9_130 rfl (qX9) ⟨rfl, rfl, Nat.le_of_ble_eq_true rfl, Nat.le_of_ble_eq_true rfl⟩ rfl rfl (Nat.le_of_ble_eq_true rfl) dX9_found_13 ?_
    refine x_if_eq (pc := 16) X 31 dX9_found_16 (by decide) (fun hc => ?_) (fun hc => ?_)
    · have h := xit hc h
      refine x_sub [0, 1, 2, 3, 4] rfl ?_
      exact wX9_found_L31 X hr hl F _ _ _ _ _ h
    · have h := xif hc h
      refine x_aload_n (pc := 19) X dX9_found_19 rfl 0 rfl ?_
      refine x_iload_n (pc := 20) X dX9_found_20 rfl 3 rfl ?_
      obtain ⟨r21, σ21, hq21, h⟩ := xb2_some h
      refine x_calliV (pc := 21) (As := [.int v3]) (rest := []) X (kX9_isPerson l X.2.2.2.2.2.2.2 F _ _ _ _ hq21) kvX9_136 rfl (qX9) ⟨rfl, rfl, Nat.le_of_ble_eq_true rfl, Nat.le_of_ble_eq_true rfl⟩ rfl rfl (Nat.le_of_ble_eq_true rfl) dX9_found_21 ?_
      refine x_if_eq (pc := 24) X 31 dX9_found_24 (by decide) (fun hc => ?_) (fun hc => ?_)
      · have h := xit hc h
        refine x_sub [0, 1, 2, 3, 4] rfl ?_
        exact wX9_found_L31 X hr hl F _ _ _ _ _ h
      · have h := xif hc h
        refine x_iconst (pc := 27) (v := 1) X dX9_found_27 (by decide) ?_
        refine x_goto (pc := 28) X 32 dX9_found_28 (by decide) ?_
        refine x_sub [0, 1, 2, 3, 4] rfl ?_
        exact wX9_found_L32 X hr hl F _ _ _ _ _ _ h
set_option maxRecDepth 100000 in
set_option maxHeartbeats 4000000 in
theorem wX9_dayOf_L101 {p : Program} {l : Launch} {e : Env} {s : State} {m : MethodId} {args : Array Value} {below : List Frame} {meth : Method} {c : Code} {D : va_G} {A : Nat → Prop} {ad : Nat → Nat} {cI cX : ClassId} {r : Int32} {σ' : xSt} (X : xX p s m args c cX9_dayOf 7 RX9 D (tyM cI cX) A (wM ad cI cX)) (hr : meth.sig.returnType = (some .int)) (hl : meth.locks = false) (F : Nat) (v2 : Int32) (v3 : Int32) (σ : xSt) (h : mX9_dayOf_L101 F v2 v3 σ = some (r, σ')) : xG p l e ({ frames := 5, cells := 0, slots := 0, locals := 117 }) s m args below meth c (MQ below (xQi D A (wM ad cI cX) r σ') args s 0 0 A) 7 D A (wM ad cI cX) σ 101 [(0, .ref (ad 0)), (2, .int v2), (3, .int v3)] [] := by
  unfold mX9_dayOf_L101 at h
  refine x_aload_n (pc := 101) X dX9_dayOf_101 rfl 0 rfl ?_
  refine x_iload_n (pc := 102) X dX9_dayOf_102 rfl 1 rfl ?_
  obtain ⟨σ103, hq103, h⟩ := xb1_some h
  refine x_callvV (pc := 103) (As := [.int v2]) (rest := []) X (kX9_runs l X.2.2.2.2.2.2.2 F _ _ _ hq103) kvX9_212 rfl (qX9) ⟨rfl, rfl, Nat.le_of_ble_eq_true rfl, Nat.le_of_ble_eq_true rfl⟩ rfl rfl (Nat.le_of_ble_eq_true rfl) dX9_dayOf_103 ?_
  refine x_aload_n (pc := 106) X dX9_dayOf_106 rfl 0 rfl ?_
  refine x_iload_n (pc := 107) X dX9_dayOf_107 rfl 2 rfl ?_
  obtain ⟨r108, σ108, hq108, h⟩ := xb2_some h
  refine x_calliV (pc := 108) (As := [.int v3]) (rest := []) X (kX9_tellsNow l X.2.2.2.2.2.2.2 F _ _ _ _ hq108) kvX9_215 rfl (qX9) ⟨rfl, rfl, Nat.le_of_ble_eq_true rfl, Nat.le_of_ble_eq_true rfl⟩ rfl rfl (Nat.le_of_ble_eq_true rfl) dX9_dayOf_108 ?_
  exact x_iret (pc := 111) X hr hl h dX9_dayOf_111
set_option maxRecDepth 100000 in
set_option maxHeartbeats 4000000 in
theorem wX9_dayOf_S14 {p : Program} {l : Launch} {e : Env} {s : State} {m : MethodId} {args : Array Value} {below : List Frame} {meth : Method} {c : Code} {D : va_G} {A : Nat → Prop} {ad : Nat → Nat} {cI cX : ClassId} {r : Int32} {σ' : xSt} {c14 : Int32 → Int32 → Int32 → Int32 → xSt → Option (Int32 × xSt)} (X : xX p s m args c cX9_dayOf 7 RX9 D (tyM cI cX) A (wM ad cI cX)) (hr : meth.sig.returnType = (some .int)) (hl : meth.locks = false) (F : Nat) (hc14 : ∀ (v2 : Int32) (v3 : Int32) (v4 : Int32) (v5 : Int32) (σ : xSt), c14 v2 v3 v4 v5 σ = some (r, σ') → xG p l e ({ frames := 5, cells := 0, slots := 0, locals := 117 }) s m args below meth c (MQ below (xQi D A (wM ad cI cX) r σ') args s 0 0 A) 7 D A (wM ad cI cX) σ 14 [(0, .ref (ad 0)), (2, .int v2), (3, .int v3), (4, .int v4), (5, .int v5)] []) (v2 : Int32) (v3 : Int32) (v4 : Int32) (v5 : Int32) (σ : xSt) (h : mX9_dayOf_S14 F c14 v2 v3 v4 v5 σ = some (r, σ')) : xG p l e ({ frames := 5, cells := 0, slots := 0, locals := 117 }) s m args below meth c (MQ below (xQi D A (wM ad cI cX) r σ') args s 0 0 A) 7 D A (wM ad cI cX) σ 14 [(0, .ref (ad 0)), (2, .int v2), (3, .int v3), (4, .int v4), (5, .int v5)] [] := by
  unfold mX9_dayOf_S14 at h
  refine x_iload (pc := 14) X dX9_dayOf_14 4 rfl ?_
  refine x_iload_n (pc := 16) X dX9_dayOf_16 rfl 1 rfl ?_
  refine x_icmp_gt (pc := 17) X 101 dX9_dayOf_17 (by decide) (fun hc => ?_) (fun hc => ?_)
  · have h := xit hc h
    refine x_sub [0, 1, 2] rfl ?_
    exact wX9_dayOf_L101 X hr hl F _ _ _ h
  · have h := xif hc h
    refine x_aload_n (pc := 20) X dX9_dayOf_20 rfl 0 rfl ?_
    refine gX9_113 (pc := 21) X dX9_dayOf_21 ?_
    refine x_if_le (pc := 24) X 101 dX9_dayOf_24 (by decide) (fun hc => ?_) (fun hc => ?_)
    · have h := xit hc h
      refine x_sub [0, 1, 2] rfl ?_
      exact wX9_dayOf_L101 X hr hl F _ _ _ h
    · have h := xif hc h
      refine x_ldcw (pc := 27) X kcX9_318 dX9_dayOf_27 ?_
      refine x_iload (pc := 30) X dX9_dayOf_30 3 rfl ?_
      refine x_imul (pc := 32) X dX9_dayOf_32 ?_
      refine x_sipush (pc := 33) (v := 12345) X dX9_dayOf_33 (by decide) ?_
      refine x_iadd (pc := 36) X dX9_dayOf_36 ?_
      refine x_istore (pc := 37) (lv' := [(4, .int ((1103515245 * v4) + 12345)), (0, .ref (ad 0)), (2, .int v2), (3, .int v3), (5, .int v5)]) X dX9_dayOf_37 (by decide) rfl ?_
      refine x_iload (pc := 39) X dX9_dayOf_39 0 rfl ?_
      refine x_bipush (pc := 41) (v := 16) X dX9_dayOf_41 (by decide) ?_
      refine x_iushr (pc := 43) X dX9_dayOf_43 ?_
      refine x_aload_n (pc := 44) X dX9_dayOf_44 rfl 1 rfl ?_
      refine gX9_113 (pc := 45) X dX9_dayOf_45 ?_
      obtain ⟨hb48, h⟩ := xck_some h
      refine x_irem (pc := 48) X dX9_dayOf_48 (xnzI_n hb48) ?_
      refine x_istore (pc := 49) (lv' := [(6, .int ((Int32.toUInt32 ((1103515245 * v4) + 12345) >>> (Int32.toUInt32 16 &&& Int32.toUInt32 31)).toInt32 - (Int32.toUInt32 ((1103515245 * v4) + 12345) >>> (Int32.toUInt32 16 &&& Int32.toUInt32 31)).toInt32 / (xI σ 6) * (xI σ 6))), (4, .int ((1103515245 * v4) + 12345)), (0, .ref (ad 0)), (2, .int v2), (3, .int v3), (5, .int v5)]) X dX9_dayOf_49 (by decide) rfl ?_
      refine x_ldcw (pc := 51) X kcX9_318 dX9_dayOf_51 ?_
      refine x_iload (pc := 54) X dX9_dayOf_54 1 rfl ?_
      refine x_imul (pc := 56) X dX9_dayOf_56 ?_
      refine x_sipush (pc := 57) (v := 12345) X dX9_dayOf_57 (by decide) ?_
      refine x_iadd (pc := 60) X dX9_dayOf_60 ?_
      refine x_istore (pc := 61) (lv' := [(4, .int ((1103515245 * ((1103515245 * v4) + 12345)) + 12345)), (6, .int ((Int32.toUInt32 ((1103515245 * v4) + 12345) >>> (Int32.toUInt32 16 &&& Int32.toUInt32 31)).toInt32 - (Int32.toUInt32 ((1103515245 * v4) + 12345) >>> (Int32.toUInt32 16 &&& Int32.toUInt32 31)).toInt32 / (xI σ 6) * (xI σ 6))), (0, .ref (ad 0)), (2, .int v2), (3, .int v3), (5, .int v5)]) X dX9_dayOf_61 (by decide) rfl ?_
      refine x_aload_n (pc := 63) X dX9_dayOf_63 rfl 2 rfl ?_
      refine x_aload_n (pc := 64) X dX9_dayOf_64 rfl 2 rfl ?_
      refine gX9_170 (pc := 65) X dX9_dayOf_65 ?_
      refine x_iload (pc := 68) X dX9_dayOf_68 5 rfl ?_
      refine x_iload (pc := 70) X dX9_dayOf_70 1 rfl ?_
      refine x_iload (pc := 72) X dX9_dayOf_72 0 rfl ?_
      refine x_bipush (pc := 74) (v := 16) X dX9_dayOf_74 (by decide) ?_
      refine x_iushr (pc := 76) X dX9_dayOf_76 ?_
      refine x_aload_n (pc := 77) X dX9_dayOf_77 rfl 2 rfl ?_
      refine gX9_109 (pc := 78) X dX9_dayOf_78 ?_
      obtain ⟨hb81, h⟩ := xck_some h
      refine x_irem (pc := 81) X dX9_dayOf_81 (xnzI_n hb81) ?_
      obtain ⟨σ82, hq82, h⟩ := xb1_some h
      refine x_callvV (pc := 82) (As := [.int (xI σ 20), .int v5, .int ((Int32.toUInt32 ((1103515245 * v4) + 12345) >>> (Int32.toUInt32 16 &&& Int32.toUInt32 31)).toInt32 - (Int32.toUInt32 ((1103515245 * v4) + 12345) >>> (Int32.toUInt32 16 &&& Int32.toUInt32 31)).toInt32 / (xI σ 6) * (xI σ 6)), .int ((Int32.toUInt32 ((1103515245 * ((1103515245 * v4) + 12345)) + 12345) >>> (Int32.toUInt32 16 &&& Int32.toUInt32 31)).toInt32 - (Int32.toUInt32 ((1103515245 * ((1103515245 * v4) + 12345)) + 12345) >>> (Int32.toUInt32 16 &&& Int32.toUInt32 31)).toInt32 / (xI σ 2) * (xI σ 2))]) (rest := []) X (kX9_laysSit l X.2.2.2.2.2.2.2 F _ _ _ _ _ _ hq82) kvX9_154 rfl (qX9) ⟨rfl, rfl, Nat.le_of_ble_eq_true rfl, Nat.le_of_ble_eq_true rfl⟩ rfl rfl (Nat.le_of_ble_eq_true rfl) dX9_dayOf_82 ?_
      refine x_aload_n (pc := 85) X dX9_dayOf_85 rfl 2 rfl ?_
      refine x_dup (pc := 86) X dX9_dayOf_86 rfl ?_
      refine gX9_170 (pc := 87) X dX9_dayOf_87 ?_
      refine x_iconst (pc := 90) (v := 1) X dX9_dayOf_90 (by decide) ?_
      refine x_iadd (pc := 91) X dX9_dayOf_91 ?_
      refine uX9_170 (pc := 92) X dX9_dayOf_92 ?_
      refine x_iinc (pc := 95) (v := (v5 + 1)) (lv' := [(5, .int (v5 + 1)), (4, .int ((1103515245 * ((1103515245 * v4) + 12345)) + 12345)), (6, .int ((Int32.toUInt32 ((1103515245 * v4) + 12345) >>> (Int32.toUInt32 16 &&& Int32.toUInt32 31)).toInt32 - (Int32.toUInt32 ((1103515245 * v4) + 12345) >>> (Int32.toUInt32 16 &&& Int32.toUInt32 31)).toInt32 / (xI σ 6) * (xI σ 6))), (0, .ref (ad 0)), (2, .int v2), (3, .int v3)]) X dX9_dayOf_95 5 rfl rfl (by decide) rfl ?_
      refine x_goto (pc := 98) X 14 dX9_dayOf_98 (by decide) ?_
      refine x_sub [3, 4, 5, 1, 0] rfl ?_
      exact hc14 _ _ _ _ _ h
theorem wX9_dayOf_L14 {p : Program} {l : Launch} {e : Env} {s : State} {m : MethodId} {args : Array Value} {below : List Frame} {meth : Method} {c : Code} {D : va_G} {A : Nat → Prop} {ad : Nat → Nat} {cI cX : ClassId} {r : Int32} {σ' : xSt} (X : xX p s m args c cX9_dayOf 7 RX9 D (tyM cI cX) A (wM ad cI cX)) (hr : meth.sig.returnType = (some .int)) (hl : meth.locks = false) (F : Nat) : ∀ (n : Nat) (v2 : Int32) (v3 : Int32) (v4 : Int32) (v5 : Int32) (σ : xSt), mX9_dayOf_L14 F n v2 v3 v4 v5 σ = some (r, σ') → xG p l e ({ frames := 5, cells := 0, slots := 0, locals := 117 }) s m args below meth c (MQ below (xQi D A (wM ad cI cX) r σ') args s 0 0 A) 7 D A (wM ad cI cX) σ 14 [(0, .ref (ad 0)), (2, .int v2), (3, .int v3), (4, .int v4), (5, .int v5)] [] := by
  intro n
  induction n with
  | zero => intro v2 v3 v4 v5 σ h; cases h
  | succ n ih => intro v2 v3 v4 v5 σ h; exact wX9_dayOf_S14 X hr hl F ih v2 v3 v4 v5 σ h
set_option maxRecDepth 100000 in
set_option maxHeartbeats 4000000 in
theorem kX9_dayOf (l : Launch) {D : va_G} {A : Nat → Prop} {ad : Nat → Nat} {cI cX : ClassId} (hD : ∀ σ, va_D A ((wM ad cI cX) σ)) (F : Nat) (v1 : Int32) (v2 : Int32) (v3 : Int32) (σ : xSt) (r : Int32) (σ' : xSt) (h : mX9_dayOf F v1 v2 v3 σ = some (r, σ')) : xM l yX9_dayOf cX9_dayOf 7 (some .int) ({ frames := 5, cells := 0, slots := 0, locals := 117 }) D (tyM cI cX) A (wM ad cI cX) [.ref (ad 0), .int v1, .int v2, .int v3] σ (xQi D A (wM ad cI cX) r σ') := by
  refine xM_of (lv := [(0, .ref (ad 0)), (1, .int v1), (2, .int v2), (3, .int v3)]) [.ref (ad 0), .int v1, .int v2, .int v3] (by decide) hD rfl (Nat.le_of_ble_eq_true rfl) ?_
  intro p e s m args below meth c X hr hl
  unfold mX9_dayOf at h
  refine x_aload_n (pc := 0) X dX9_dayOf_0 rfl 0 rfl ?_
  obtain ⟨σ1, hq1, h⟩ := xb1_some h
  refine x_callvV (pc := 1) (As := []) (rest := []) X (kX9_reads l X.2.2.2.2.2.2.2 F _ _ hq1) kvX9_127 rfl (qX9) ⟨rfl, rfl, Nat.le_of_ble_eq_true rfl, Nat.le_of_ble_eq_true rfl⟩ rfl rfl (Nat.le_of_ble_eq_true rfl) dX9_dayOf_1 ?_
  refine x_aload_n (pc := 4) X dX9_dayOf_4 rfl 0 rfl ?_
  obtain ⟨σ5, hq5, h⟩ := xb1_some h
  refine x_callvV (pc := 5) (As := []) (rest := []) X (kX9_asTold l X.2.2.2.2.2.2.2 F _ _ hq5) kvX9_209 rfl (qX9) ⟨rfl, rfl, Nat.le_of_ble_eq_true rfl, Nat.le_of_ble_eq_true rfl⟩ rfl rfl (Nat.le_of_ble_eq_true rfl) dX9_dayOf_5 ?_
  refine x_iload_n (pc := 8) X dX9_dayOf_8 rfl 1 rfl ?_
  refine x_istore (pc := 9) (lv' := [(4, .int v1), (0, .ref (ad 0)), (1, .int v1), (2, .int v2), (3, .int v3)]) X dX9_dayOf_9 (by decide) rfl ?_
  refine x_iconst (pc := 11) (v := 0) X dX9_dayOf_11 (by decide) ?_
  refine x_istore (pc := 12) (lv' := [(5, .int 0), (4, .int v1), (0, .ref (ad 0)), (1, .int v1), (2, .int v2), (3, .int v3)]) X dX9_dayOf_12 (by decide) rfl ?_
  refine x_sub [2, 4, 5, 1, 0] rfl ?_
  exact wX9_dayOf_L14 X hr hl F F _ _ _ _ _ h
set_option maxRecDepth 100000 in
set_option maxHeartbeats 4000000 in
theorem wX9_day_L27 {p : Program} {l : Launch} {e : Env} {s : State} {m : MethodId} {args : Array Value} {below : List Frame} {meth : Method} {c : Code} {D : va_G} {A : Nat → Prop} {ad : Nat → Nat} {cI cX : ClassId} {r : Int32} {σ' : xSt} (X : xX p s m args c cX9_day 4 RX9 D (tyM cI cX) A (wM ad cI cX)) (hr : meth.sig.returnType = (some .int)) (hl : meth.locks = false) (F : Nat) (t0 : Int32) (σ : xSt) (h : mX9_day_L27 F t0 σ = some (r, σ')) : xG p l e ({ frames := 6, cells := 0, slots := 0, locals := 143 }) s m args below meth c (MQ below (xQi D A (wM ad cI cX) r σ') args s 0 0 A) 4 D A (wM ad cI cX) σ 27 [] [.int t0] := by
  unfold mX9_day_L27 at h
  exact x_iret (pc := 27) X hr hl h dX9_day_27
set_option maxRecDepth 100000 in
set_option maxHeartbeats 4000000 in
theorem wX9_day_L25 {p : Program} {l : Launch} {e : Env} {s : State} {m : MethodId} {args : Array Value} {below : List Frame} {meth : Method} {c : Code} {D : va_G} {A : Nat → Prop} {ad : Nat → Nat} {cI cX : ClassId} {r : Int32} {σ' : xSt} (X : xX p s m args c cX9_day 4 RX9 D (tyM cI cX) A (wM ad cI cX)) (hr : meth.sig.returnType = (some .int)) (hl : meth.locks = false) (F : Nat) (σ : xSt) (h : mX9_day_L25 F σ = some (r, σ')) : xG p l e ({ frames := 6, cells := 0, slots := 0, locals := 143 }) s m args below meth c (MQ below (xQi D A (wM ad cI cX) r σ') args s 0 0 A) 4 D A (wM ad cI cX) σ 25 [] [] := by
  unfold mX9_day_L25 at h
  refine x_bipush (pc := 25) (v := (-2)) X dX9_day_25 (by decide) ?_
  refine x_sub [] rfl ?_
  exact wX9_day_L27 X hr hl F _ _ h
set_option maxRecDepth 100000 in
set_option maxHeartbeats 4000000 in
theorem kX9_day (l : Launch) {D : va_G} {A : Nat → Prop} {ad : Nat → Nat} {cI cX : ClassId} (hD : ∀ σ, va_D A ((wM ad cI cX) σ)) (F : Nat) (v1 : Int32) (v2 : Int32) (v3 : Int32) (σ : xSt) (r : Int32) (σ' : xSt) (h : mX9_day F v1 v2 v3 σ = some (r, σ')) : xM l yX9_day cX9_day 4 (some .int) ({ frames := 6, cells := 0, slots := 0, locals := 143 }) D (tyM cI cX) A (wM ad cI cX) [.ref (ad 0), .int v1, .int v2, .int v3] σ (xQi D A (wM ad cI cX) r σ') := by
  refine xM_of (lv := [(0, .ref (ad 0)), (1, .int v1), (2, .int v2), (3, .int v3)]) [.ref (ad 0), .int v1, .int v2, .int v3] (by decide) hD rfl (Nat.le_of_ble_eq_true rfl) ?_
  intro p e s m args below meth c X hr hl
  unfold mX9_day at h
  refine x_iload_n (pc := 0) X dX9_day_0 rfl 2 rfl ?_
  obtain ⟨r1, σ1, hq1, h⟩ := xb2_some h
  refine x_calliS (pc := 1) (As := [.int v2]) (rest := []) X (kX9_isHour l X.2.2.2.2.2.2.2 F _ _ _ _ hq1) kvX9_142 ⟨rfl, rfl, Nat.le_of_ble_eq_true rfl, Nat.le_of_ble_eq_true rfl⟩ rfl rfl (Nat.le_of_ble_eq_true rfl) dX9_day_1 ?_
  refine x_if_eq (pc := 4) X 25 dX9_day_4 (by decide) (fun hc => ?_) (fun hc => ?_)
  · have h := xit hc h
    refine x_sub [] rfl ?_
    exact wX9_day_L25 X hr hl F _ h
  · have h := xif hc h
    refine x_aload_n (pc := 7) X dX9_day_7 rfl 0 rfl ?_
    refine x_iload_n (pc := 8) X dX9_day_8 rfl 3 rfl ?_
    obtain ⟨r9, σ9, hq9, h⟩ := xb2_some h
    refine x_calliV (pc := 9) (As := [.int v3]) (rest := []) X (kX9_isThing l X.2.2.2.2.2.2.2 F _ _ _ _ hq9) kvX9_130 rfl (qX9) ⟨rfl, rfl, Nat.le_of_ble_eq_true rfl, Nat.le_of_ble_eq_true rfl⟩ rfl rfl (Nat.le_of_ble_eq_true rfl) dX9_day_9 ?_
    refine x_if_eq (pc := 12) X 25 dX9_day_12 (by decide) (fun hc => ?_) (fun hc => ?_)
    · have h := xit hc h
      refine x_sub [] rfl ?_
      exact wX9_day_L25 X hr hl F _ h
    · have h := xif hc h
      refine x_aload_n (pc := 15) X dX9_day_15 rfl 0 rfl ?_
      refine x_iload_n (pc := 16) X dX9_day_16 rfl 1 rfl ?_
      refine x_iload_n (pc := 17) X dX9_day_17 rfl 2 rfl ?_
      refine x_iload_n (pc := 18) X dX9_day_18 rfl 3 rfl ?_
      obtain ⟨r19, σ19, hq19, h⟩ := xb2_some h
      refine x_calliV (pc := 19) (As := [.int v1, .int v2, .int v3]) (rest := []) X (kX9_dayOf l X.2.2.2.2.2.2.2 F _ _ _ _ _ _ hq19) kvX9_319 rfl (qX9) ⟨rfl, rfl, Nat.le_of_ble_eq_true rfl, Nat.le_of_ble_eq_true rfl⟩ rfl rfl (Nat.le_of_ble_eq_true rfl) dX9_day_19 ?_
      refine x_goto (pc := 22) X 27 dX9_day_22 (by decide) ?_
      refine x_sub [] rfl ?_
      exact wX9_day_L27 X hr hl F _ _ h
