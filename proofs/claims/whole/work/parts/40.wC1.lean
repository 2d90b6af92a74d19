set_option maxRecDepth 100000 in
set_option maxHeartbeats 4000000 in
theorem wX1_sittersOf_L87 {p : Program} {l : Launch} {e : Env} {s : State} {m : MethodId} {args : Array Value} {below : List Frame} {meth : Method} {c : Code} {D : va_G} {A : Nat → Prop} {ad : Nat → Nat} {cI cX : ClassId} {r : Int32} {σ' : xSt} (X : xX p s m args c cX1_sittersOf 5 RX1 D (tyC cI cX) A (wC ad cI cX)) (hr : meth.sig.returnType = (some .int)) (hl : meth.locks = false) (F : Nat) (v1 : Int32) (v2 : Int32) (v3 : Int32) (σ : xSt) (h : mX1_sittersOf_L87 F v1 v2 v3 σ = some (r, σ')) : xG p l e ({ frames := 3, cells := 0, slots := 0, locals := 76 }) s m args below meth c (MQ below (xQi D A (wC ad cI cX) r σ') args s 0 0 A) 5 D A (wC ad cI cX) σ 87 [(0, .ref (ad 3)), (1, .int v1), (2, .int v2), (3, .int v3)] [] := by
  unfold mX1_sittersOf_L87 at h
  refine x_aload_n (pc := 87) X dX1_sittersOf_87 rfl 0 rfl ?_
  refine gX1_15 (pc := 88) X dX1_sittersOf_88 ?_
  refine gX1_44 (pc := 91) X dX1_sittersOf_91 ?_
  refine gX1_41 (pc := 94) X 0 (by decide) dX1_sittersOf_94 ?_
  refine x_iload_n (pc := 97) X dX1_sittersOf_97 rfl 1 rfl ?_
  refine x_iload_n (pc := 98) X dX1_sittersOf_98 rfl 2 rfl ?_
  obtain ⟨hb99, h⟩ := xck_some h
  refine x_iast (pc := 99) (σ' := (xsA σ (21 + 0) (Int32.toNatClampNeg v1) v2)) X (31 + 0) 0 (qaX7_others 0 (by decide)) rfl (saX7_others _ 0 (by decide)) hb99 dX1_sittersOf_99 ?_
  refine x_iload_n (pc := 100) X dX1_sittersOf_100 rfl 3 rfl ?_
  exact x_iret (pc := 101) X hr hl h dX1_sittersOf_101
set_option maxRecDepth 100000 in
set_option maxHeartbeats 4000000 in
theorem wX1_sittersOf_L81 {p : Program} {l : Launch} {e : Env} {s : State} {m : MethodId} {args : Array Value} {below : List Frame} {meth : Method} {c : Code} {D : va_G} {A : Nat → Prop} {ad : Nat → Nat} {cI cX : ClassId} {r : Int32} {σ' : xSt} {c38 : Int32 → Int32 → Int32 → Int32 → xSt → Option (Int32 × xSt)} (X : xX p s m args c cX1_sittersOf 5 RX1 D (tyC cI cX) A (wC ad cI cX)) (hr : meth.sig.returnType = (some .int)) (hl : meth.locks = false) (F : Nat) (hc38 : ∀ (v1 : Int32) (v2 : Int32) (v3 : Int32) (v4 : Int32) (σ : xSt), c38 v1 v2 v3 v4 σ = some (r, σ') → xG p l e ({ frames := 3, cells := 0, slots := 0, locals := 76 }) s m args below meth c (MQ below (xQi D A (wC ad cI cX) r σ') args s 0 0 A) 5 D A (wC ad cI cX) σ 38 [(0, .ref (ad 3)), (1, .int v1), (2, .int v2), (3, .int v3), (4, .int v4)] []) (v1 : Int32) (v2 : Int32) (v3 : Int32) (v4 : Int32) (σ : xSt) (h : mX1_sittersOf_L81 F c38 v1 v2 v3 v4 σ = some (r, σ')) : xG p l e ({ frames := 3, cells := 0, slots := 0, locals := 76 }) s m args below meth c (MQ below (xQi D A (wC ad cI cX) r σ') args s 0 0 A) 5 D A (wC ad cI cX) σ 81 [(0, .ref (ad 3)), (1, .int v1), (2, .int v2), (3, .int v3), (4, .int v4)] [] := by
  unfold mX1_sittersOf_L81 at h
  refine x_iinc (pc := 81) (v := (v4 + 1)) (lv' := [(4, .int (v4 + 1)), (0, .ref (ad 3)), (1, .int v1), (2, .int v2), (3, .int v3)]) X dX1_sittersOf_81 4 rfl rfl (by decide) rfl ?_
  refine x_goto (pc := 84) X 38 dX1_sittersOf_84 (by decide) ?_
  refine x_sub [1, 2, 3, 4, 0] rfl ?_
  exact hc38 _ _ _ _ _ h
set_option maxRecDepth 100000 in
set_option maxHeartbeats 4000000 in
theorem wX1_sittersOf_S38 {p : Program} {l : Launch} {e : Env} {s : State} {m : MethodId} {args : Array Value} {below : List Frame} {meth : Method} {c : Code} {D : va_G} {A : Nat → Prop} {ad : Nat → Nat} {cI cX : ClassId} {r : Int32} {σ' : xSt} {c38 : Int32 → Int32 → Int32 → Int32 → xSt → Option (Int32 × xSt)} (X : xX p s m args c cX1_sittersOf 5 RX1 D (tyC cI cX) A (wC ad cI cX)) (hr : meth.sig.returnType = (some .int)) (hl : meth.locks = false) (F : Nat) (hc38 : ∀ (v1 : Int32) (v2 : Int32) (v3 : Int32) (v4 : Int32) (σ : xSt), c38 v1 v2 v3 v4 σ = some (r, σ') → xG p l e ({ frames := 3, cells := 0, slots := 0, locals := 76 }) s m args below meth c (MQ below (xQi D A (wC ad cI cX) r σ') args s 0 0 A) 5 D A (wC ad cI cX) σ 38 [(0, .ref (ad 3)), (1, .int v1), (2, .int v2), (3, .int v3), (4, .int v4)] []) (v1 : Int32) (v2 : Int32) (v3 : Int32) (v4 : Int32) (σ : xSt) (h : mX1_sittersOf_S38 F c38 v1 v2 v3 v4 σ = some (r, σ')) : xG p l e ({ frames := 3, cells := 0, slots := 0, locals := 76 }) s m args below meth c (MQ below (xQi D A (wC ad cI cX) r σ') args s 0 0 A) 5 D A (wC ad cI cX) σ 38 [(0, .ref (ad 3)), (1, .int v1), (2, .int v2), (3, .int v3), (4, .int v4)] [] := by
  unfold mX1_sittersOf_S38 at h
  refine x_iload (pc := 38) X dX1_sittersOf_38 4 rfl ?_
  refine x_aload_n (pc := 40) X dX1_sittersOf_40 rfl 0 rfl ?_
  refine gX1_15 (pc := 41) X dX1_sittersOf_41 ?_
  refine gX1_58 (pc := 44) X dX1_sittersOf_44 ?_
  refine gX1_62 (pc := 47) X 1 (by decide) dX1_sittersOf_47 ?_
  refine x_icmp_ge (pc := 50) X 87 dX1_sittersOf_50 (by decide) (fun hc => ?_) (fun hc => ?_)
  · have h := xit hc h
    refine x_sub [0, 1, 2, 3] rfl ?_
    exact wX1_sittersOf_L87 X hr hl F _ _ _ _ h
  · have h := xif hc h
    refine x_aload_n (pc := 53) X dX1_sittersOf_53 rfl 0 rfl ?_
    refine gX1_15 (pc := 54) X dX1_sittersOf_54 ?_
    refine gX1_44 (pc := 57) X dX1_sittersOf_57 ?_
    refine gX1_41 (pc := 60) X 0 (by decide) dX1_sittersOf_60 ?_
    refine x_iload_n (pc := 63) X dX1_sittersOf_63 rfl 1 rfl ?_
    refine x_iload (pc := 64) X dX1_sittersOf_64 4 rfl ?_
    obtain ⟨hb66, h⟩ := xck_some h
    refine x_iast (pc := 66) (σ' := (xsA σ (21 + 0) (Int32.toNatClampNeg v1) v4)) X (31 + 0) 0 (qaX7_others 0 (by decide)) rfl (saX7_others _ 0 (by decide)) hb66 dX1_sittersOf_66 ?_
    refine x_aload_n (pc := 67) X dX1_sittersOf_67 rfl 0 rfl ?_
    obtain ⟨r68, σ68, hq68, h⟩ := xb2_some h
    refine x_calliV (pc := 68) (As := []) (rest := []) X (kX1_comesOut l X.2.2.2.2.2.2.2 F _ _ _ hq68) kvX1_51 rfl (qX1) ⟨rfl, rfl, Nat.le_of_ble_eq_true rfl, Nat.le_of_ble_eq_true rfl⟩ rfl rfl (Nat.le_of_ble_eq_true rfl) dX1_sittersOf_68 ?_
    refine x_if_eq (pc := 71) X 81 dX1_sittersOf_71 (by decide) (fun hc => ?_) (fun hc => ?_)
    · have h := xit hc h
      refine x_sub [0, 1, 2, 3, 4] rfl ?_
      exact wX1_sittersOf_L81 X hr hl F hc38 _ _ _ _ _ h
    · have h := xif hc h
      refine x_iload_n (pc := 74) X dX1_sittersOf_74 rfl 3 rfl ?_
      refine x_iconst (pc := 75) (v := 1) X dX1_sittersOf_75 (by decide) ?_
      refine x_iload (pc := 76) X dX1_sittersOf_76 4 rfl ?_
      refine x_ishl (pc := 78) X dX1_sittersOf_78 ?_
      refine x_ior (pc := 79) X dX1_sittersOf_79 ?_
      refine x_istore_n (pc := 80) (lv' := [(3, .int (v3 ||| (1 <<< (v4 &&& 31)))), (0, .ref (ad 3)), (1, .int v1), (2, .int v2), (4, .int v4)]) X dX1_sittersOf_80 rfl (by decide) rfl ?_
      refine x_sub [1, 2, 3, 0, 4] rfl ?_
      exact wX1_sittersOf_L81 X hr hl F hc38 _ _ _ _ _ h
theorem wX1_sittersOf_L38 {p : Program} {l : Launch} {e : Env} {s : State} {m : MethodId} {args : Array Value} {below : List Frame} {meth : Method} {c : Code} {D : va_G} {A : Nat → Prop} {ad : Nat → Nat} {cI cX : ClassId} {r : Int32} {σ' : xSt} (X : xX p s m args c cX1_sittersOf 5 RX1 D (tyC cI cX) A (wC ad cI cX)) (hr : meth.sig.returnType = (some .int)) (hl : meth.locks = false) (F : Nat) : ∀ (n : Nat) (v1 : Int32) (v2 : Int32) (v3 : Int32) (v4 : Int32) (σ : xSt), mX1_sittersOf_L38 F n v1 v2 v3 v4 σ = some (r, σ') → xG p l e ({ frames := 3, cells := 0, slots := 0, locals := 76 }) s m args below meth c (MQ below (xQi D A (wC ad cI cX) r σ') args s 0 0 A) 5 D A (wC ad cI cX) σ 38 [(0, .ref (ad 3)), (1, .int v1), (2, .int v2), (3, .int v3), (4, .int v4)] [] := by
  intro n
  induction n with
  | zero => intro v1 v2 v3 v4 σ h; cases h
  | succ n ih => intro v1 v2 v3 v4 σ h; exact wX1_sittersOf_S38 X hr hl F ih v1 v2 v3 v4 σ h
set_option maxRecDepth 100000 in
set_option maxHeartbeats 4000000 in
theorem wX1_sittersOf_L18 {p : Program} {l : Launch} {e : Env} {s : State} {m : MethodId} {args : Array Value} {below : List Frame} {meth : Method} {c : Code} {D : va_G} {A : Nat → Prop} {ad : Nat → Nat} {cI cX : ClassId} {r : Int32} {σ' : xSt} (X : xX p s m args c cX1_sittersOf 5 RX1 D (tyC cI cX) A (wC ad cI cX)) (hr : meth.sig.returnType = (some .int)) (hl : meth.locks = false) (F : Nat) (σ : xSt) (h : mX1_sittersOf_L18 F σ = some (r, σ')) : xG p l e ({ frames := 3, cells := 0, slots := 0, locals := 76 }) s m args below meth c (MQ below (xQi D A (wC ad cI cX) r σ') args s 0 0 A) 5 D A (wC ad cI cX) σ 18 [] [] := by
  unfold mX1_sittersOf_L18 at h
  refine x_iconst (pc := 18) (v := 0) X dX1_sittersOf_18 (by decide) ?_
  exact x_iret (pc := 19) X hr hl h dX1_sittersOf_19
set_option maxRecDepth 100000 in
set_option maxHeartbeats 4000000 in
theorem kX1_sittersOf (l : Launch) {D : va_G} {A : Nat → Prop} {ad : Nat → Nat} {cI cX : ClassId} (hD : ∀ σ, va_D A ((wC ad cI cX) σ)) (F : Nat) (v1 : Int32) (σ : xSt) (r : Int32) (σ' : xSt) (h : mX1_sittersOf F v1 σ = some (r, σ')) : xM l yX1_sittersOf cX1_sittersOf 5 (some .int) ({ frames := 3, cells := 0, slots := 0, locals := 76 }) D (tyC cI cX) A (wC ad cI cX) [.ref (ad 3), .int v1] σ (xQi D A (wC ad cI cX) r σ') := by
  refine xM_of (lv := [(0, .ref (ad 3)), (1, .int v1)]) [.ref (ad 3), .int v1] (by decide) hD rfl (Nat.le_of_ble_eq_true rfl) ?_
  intro p e s m args below meth c X hr hl
  unfold mX1_sittersOf at h
  refine x_iload_n (pc := 0) X dX1_sittersOf_0 rfl 1 rfl ?_
  refine x_if_lt (pc := 1) X 18 dX1_sittersOf_1 (by decide) (fun hc => ?_) (fun hc => ?_)
  · have h := xit hc h
    refine x_sub [] rfl ?_
    exact wX1_sittersOf_L18 X hr hl F _ h
  · have h := xif hc h
    refine x_iload_n (pc := 4) X dX1_sittersOf_4 rfl 1 rfl ?_
    refine x_aload_n (pc := 5) X dX1_sittersOf_5 rfl 0 rfl ?_
    refine gX1_15 (pc := 6) X dX1_sittersOf_6 ?_
    refine gX1_44 (pc := 9) X dX1_sittersOf_9 ?_
    refine gX1_23 (pc := 12) X 0 (by decide) dX1_sittersOf_12 ?_
    refine x_icmp_lt (pc := 15) X 20 dX1_sittersOf_15 (by decide) (fun hc => ?_) (fun hc => ?_)
    · have h := xit hc h
      refine x_aload_n (pc := 20) X dX1_sittersOf_20 rfl 0 rfl ?_
      refine gX1_15 (pc := 21) X dX1_sittersOf_21 ?_
      refine gX1_44 (pc := 24) X dX1_sittersOf_24 ?_
      refine gX1_41 (pc := 27) X 0 (by decide) dX1_sittersOf_27 ?_
      refine x_iload_n (pc := 30) X dX1_sittersOf_30 rfl 1 rfl ?_
      obtain ⟨hb31, h⟩ := xck_some h
      refine x_iald (pc := 31) X (31 + 0) 0 (qaX7_others 0 (by decide)) rfl hb31 dX1_sittersOf_31 ?_
      refine x_istore_n (pc := 32) (lv' := [(2, .int (xA σ (21 + 0) (Int32.toNatClampNeg v1))), (0, .ref (ad 3)), (1, .int v1)]) X dX1_sittersOf_32 rfl (by decide) rfl ?_
      refine x_iconst (pc := 33) (v := 0) X dX1_sittersOf_33 (by decide) ?_
      refine x_istore_n (pc := 34) (lv' := [(3, .int 0), (2, .int (xA σ (21 + 0) (Int32.toNatClampNeg v1))), (0, .ref (ad 3)), (1, .int v1)]) X dX1_sittersOf_34 rfl (by decide) rfl ?_
      refine x_iconst (pc := 35) (v := 0) X dX1_sittersOf_35 (by decide) ?_
      refine x_istore (pc := 36) (lv' := [(4, .int 0), (3, .int 0), (2, .int (xA σ (21 + 0) (Int32.toNatClampNeg v1))), (0, .ref (ad 3)), (1, .int v1)]) X dX1_sittersOf_36 (by decide) rfl ?_
      refine x_sub [3, 4, 2, 1, 0] rfl ?_
      exact wX1_sittersOf_L38 X hr hl F F _ _ _ _ _ h
    · have h := xif hc h
      refine x_sub [] rfl ?_
      exact wX1_sittersOf_L18 X hr hl F _ h
set_option maxRecDepth 100000 in
set_option maxHeartbeats 4000000 in
theorem wX1_mostAlike_L158 {p : Program} {l : Launch} {e : Env} {s : State} {m : MethodId} {args : Array Value} {below : List Frame} {meth : Method} {c : Code} {D : va_G} {A : Nat → Prop} {ad : Nat → Nat} {cI cX : ClassId} {r : Int32} {σ' : xSt} (X : xX p s m args c cX1_mostAlike 10 RX1 D (tyC cI cX) A (wC ad cI cX)) (hr : meth.sig.returnType = (some .int)) (hl : meth.locks = false) (F : Nat) (v2 : Int32) (v5 : Int32) (v6 : Int32) (σ : xSt) (h : mX1_mostAlike_L158 F v2 v5 v6 σ = some (r, σ')) : xG p l e ({ frames := 2, cells := 0, slots := 0, locals := 55 }) s m args below meth c (MQ below (xQi D A (wC ad cI cX) r σ') args s 0 0 A) 10 D A (wC ad cI cX) σ 158 [(0, .ref (ad 3)), (2, .int v2), (5, .int v5), (6, .int v6)] [] := by
  unfold mX1_mostAlike_L158 at h
  refine x_aload_n (pc := 158) X dX1_mostAlike_158 rfl 0 rfl ?_
  refine gX1_15 (pc := 159) X dX1_mostAlike_159 ?_
  refine gX1_44 (pc := 162) X dX1_mostAlike_162 ?_
  refine gX1_41 (pc := 165) X 0 (by decide) dX1_mostAlike_165 ?_
  refine x_iload_n (pc := 168) X dX1_mostAlike_168 rfl 1 rfl ?_
  refine x_iload (pc := 169) X dX1_mostAlike_169 2 rfl ?_
  obtain ⟨hb171, h⟩ := xck_some h
  refine x_iast (pc := 171) (σ' := (xsA σ (21 + 0) (Int32.toNatClampNeg v2) v5)) X (31 + 0) 0 (qaX7_others 0 (by decide)) rfl (saX7_others _ 0 (by decide)) hb171 dX1_mostAlike_171 ?_
  refine x_iload (pc := 172) X dX1_mostAlike_172 3 rfl ?_
  exact x_iret (pc := 174) X hr hl h dX1_mostAlike_174
set_option maxRecDepth 100000 in
set_option maxHeartbeats 4000000 in
theorem wX1_mostAlike_L152 {p : Program} {l : Launch} {e : Env} {s : State} {m : MethodId} {args : Array Value} {below : List Frame} {meth : Method} {c : Code} {D : va_G} {A : Nat → Prop} {ad : Nat → Nat} {cI cX : ClassId} {r : Int32} {σ' : xSt} {c40 : Int32 → Int32 → Int32 → Int32 → Int32 → Int32 → Int32 → xSt → Option (Int32 × xSt)} (X : xX p s m args c cX1_mostAlike 10 RX1 D (tyC cI cX) A (wC ad cI cX)) (hr : meth.sig.returnType = (some .int)) (hl : meth.locks = false) (F : Nat) (hc40 : ∀ (v1 : Int32) (v2 : Int32) (v3 : Int32) (v4 : Int32) (v5 : Int32) (v6 : Int32) (v7 : Int32) (σ : xSt), c40 v1 v2 v3 v4 v5 v6 v7 σ = some (r, σ') → xG p l e ({ frames := 2, cells := 0, slots := 0, locals := 55 }) s m args below meth c (MQ below (xQi D A (wC ad cI cX) r σ') args s 0 0 A) 10 D A (wC ad cI cX) σ 40 [(0, .ref (ad 3)), (1, .int v1), (2, .int v2), (3, .int v3), (4, .int v4), (5, .int v5), (6, .int v6), (7, .int v7)] []) (v1 : Int32) (v2 : Int32) (v3 : Int32) (v4 : Int32) (v5 : Int32) (v6 : Int32) (v7 : Int32) (σ : xSt) (h : mX1_mostAlike_L152 F c40 v1 v2 v3 v4 v5 v6 v7 σ = some (r, σ')) : xG p l e ({ frames := 2, cells := 0, slots := 0, locals := 55 }) s m args below meth c (MQ below (xQi D A (wC ad cI cX) r σ') args s 0 0 A) 10 D A (wC ad cI cX) σ 152 [(0, .ref (ad 3)), (1, .int v1), (2, .int v2), (3, .int v3), (4, .int v4), (5, .int v5), (6, .int v6), (7, .int v7)] [] := by
  unfold mX1_mostAlike_L152 at h
  refine x_iinc (pc := 152) (v := (v7 + 1)) (lv' := [(7, .int (v7 + 1)), (0, .ref (ad 3)), (1, .int v1), (2, .int v2), (3, .int v3), (4, .int v4), (5, .int v5), (6, .int v6)]) X dX1_mostAlike_152 7 rfl rfl (by decide) rfl ?_
  refine x_goto (pc := 155) X 40 dX1_mostAlike_155 (by decide) ?_
  refine x_sub [1, 2, 3, 4, 5, 6, 7, 0] rfl ?_
  exact hc40 _ _ _ _ _ _ _ _ h
set_option maxRecDepth 100000 in
set_option maxHeartbeats 4000000 in
theorem wX1_mostAlike_L143 {p : Program} {l : Launch} {e : Env} {s : State} {m : MethodId} {args : Array Value} {below : List Frame} {meth : Method} {c : Code} {D : va_G} {A : Nat → Prop} {ad : Nat → Nat} {cI cX : ClassId} {r : Int32} {σ' : xSt} {c40 : Int32 → Int32 → Int32 → Int32 → Int32 → Int32 → Int32 → xSt → Option (Int32 × xSt)} (X : xX p s m args c cX1_mostAlike 10 RX1 D (tyC cI cX) A (wC ad cI cX)) (hr : meth.sig.returnType = (some .int)) (hl : meth.locks = false) (F : Nat) (hc40 : ∀ (v1 : Int32) (v2 : Int32) (v3 : Int32) (v4 : Int32) (v5 : Int32) (v6 : Int32) (v7 : Int32) (σ : xSt), c40 v1 v2 v3 v4 v5 v6 v7 σ = some (r, σ') → xG p l e ({ frames := 2, cells := 0, slots := 0, locals := 55 }) s m args below meth c (MQ below (xQi D A (wC ad cI cX) r σ') args s 0 0 A) 10 D A (wC ad cI cX) σ 40 [(0, .ref (ad 3)), (1, .int v1), (2, .int v2), (3, .int v3), (4, .int v4), (5, .int v5), (6, .int v6), (7, .int v7)] []) (v1 : Int32) (v2 : Int32) (v3 : Int32) (v4 : Int32) (v5 : Int32) (v6 : Int32) (v7 : Int32) (v8 : Int32) (σ : xSt) (h : mX1_mostAlike_L143 F c40 v1 v2 v3 v4 v5 v6 v7 v8 σ = some (r, σ')) : xG p l e ({ frames := 2, cells := 0, slots := 0, locals := 55 }) s m args below meth c (MQ below (xQi D A (wC ad cI cX) r σ') args s 0 0 A) 10 D A (wC ad cI cX) σ 143 [(0, .ref (ad 3)), (1, .int v1), (2, .int v2), (3, .int v3), (4, .int v4), (5, .int v5), (6, .int v6), (7, .int v7), (8, .int v8)] [] := by
  unfold mX1_mostAlike_L143 at h
  refine x_iload (pc := 143) X dX1_mostAlike_143 6 rfl ?_
  refine x_iload (pc := 145) X dX1_mostAlike_145 8 rfl ?_
  refine x_mmax (pc := 147) X kvX1_81 ⟨Nat.le_of_ble_eq_true rfl, Nat.le_of_ble_eq_true rfl⟩ dX1_mostAlike_147 ?_
  refine x_istore (pc := 150) (lv' := [(6, .int (if v6 < v8 then v8 else v6)), (0, .ref (ad 3)), (1, .int v1), (2, .int v2), (3, .int v3), (4, .int v4), (5, .int v5), (7, .int v7), (8, .int v8)]) X dX1_mostAlike_150 (by decide) rfl ?_
  refine x_sub [1, 2, 3, 4, 5, 6, 0, 7] rfl ?_
  exact wX1_mostAlike_L152 X hr hl F hc40 _ _ _ _ _ _ _ _ h
set_option maxRecDepth 100000 in
set_option maxHeartbeats 4000000 in
theorem wX1_mostAlike_L137 {p : Program} {l : Launch} {e : Env} {s : State} {m : MethodId} {args : Array Value} {below : List Frame} {meth : Method} {c : Code} {D : va_G} {A : Nat → Prop} {ad : Nat → Nat} {cI cX : ClassId} {r : Int32} {σ' : xSt} {c40 : Int32 → Int32 → Int32 → Int32 → Int32 → Int32 → Int32 → xSt → Option (Int32 × xSt)} {c100 : Int32 → Int32 → Int32 → Int32 → Int32 → Int32 → Int32 → Int32 → Int32 → xSt → Option (Int32 × xSt)} (X : xX p s m args c cX1_mostAlike 10 RX1 D (tyC cI cX) A (wC ad cI cX)) (hr : meth.sig.returnType = (some .int)) (hl : meth.locks = false) (F : Nat) (hc40 : ∀ (v1 : Int32) (v2 : Int32) (v3 : Int32) (v4 : Int32) (v5 : Int32) (v6 : Int32) (v7 : Int32) (σ : xSt), c40 v1 v2 v3 v4 v5 v6 v7 σ = some (r, σ') → xG p l e ({ frames := 2, cells := 0, slots := 0, locals := 55 }) s m args below meth c (MQ below (xQi D A (wC ad cI cX) r σ') args s 0 0 A) 10 D A (wC ad cI cX) σ 40 [(0, .ref (ad 3)), (1, .int v1), (2, .int v2), (3, .int v3), (4, .int v4), (5, .int v5), (6, .int v6), (7, .int v7)] []) (hc100 : ∀ (v1 : Int32) (v2 : Int32) (v3 : Int32) (v4 : Int32) (v5 : Int32) (v6 : Int32) (v7 : Int32) (v8 : Int32) (v9 : Int32) (σ : xSt), c100 v1 v2 v3 v4 v5 v6 v7 v8 v9 σ = some (r, σ') → xG p l e ({ frames := 2, cells := 0, slots := 0, locals := 55 }) s m args below meth c (MQ below (xQi D A (wC ad cI cX) r σ') args s 0 0 A) 10 D A (wC ad cI cX) σ 100 [(0, .ref (ad 3)), (1, .int v1), (2, .int v2), (3, .int v3), (4, .int v4), (5, .int v5), (6, .int v6), (7, .int v7), (8, .int v8), (9, .int v9)] []) (v1 : Int32) (v2 : Int32) (v3 : Int32) (v4 : Int32) (v5 : Int32) (v6 : Int32) (v7 : Int32) (v8 : Int32) (v9 : Int32) (σ : xSt) (h : mX1_mostAlike_L137 F c40 c100 v1 v2 v3 v4 v5 v6 v7 v8 v9 σ = some (r, σ')) : xG p l e ({ frames := 2, cells := 0, slots := 0, locals := 55 }) s m args below meth c (MQ below (xQi D A (wC ad cI cX) r σ') args s 0 0 A) 10 D A (wC ad cI cX) σ 137 [(0, .ref (ad 3)), (1, .int v1), (2, .int v2), (3, .int v3), (4, .int v4), (5, .int v5), (6, .int v6), (7, .int v7), (8, .int v8), (9, .int v9)] [] := by
  unfold mX1_mostAlike_L137 at h
  refine x_iinc (pc := 137) (v := (v9 + 1)) (lv' := [(9, .int (v9 + 1)), (0, .ref (ad 3)), (1, .int v1), (2, .int v2), (3, .int v3), (4, .int v4), (5, .int v5), (6, .int v6), (7, .int v7), (8, .int v8)]) X dX1_mostAlike_137 9 rfl rfl (by decide) rfl ?_
  refine x_goto (pc := 140) X 100 dX1_mostAlike_140 (by decide) ?_
  refine x_sub [1, 2, 3, 4, 5, 6, 7, 8, 9, 0] rfl ?_
  exact hc100 _ _ _ _ _ _ _ _ _ _ h
set_option maxRecDepth 100000 in
set_option maxHeartbeats 4000000 in
theorem wX1_mostAlike_S100 {p : Program} {l : Launch} {e : Env} {s : State} {m : MethodId} {args : Array Value} {below : List Frame} {meth : Method} {c : Code} {D : va_G} {A : Nat → Prop} {ad : Nat → Nat} {cI cX : ClassId} {r : Int32} {σ' : xSt} {c40 : Int32 → Int32 → Int32 → Int32 → Int32 → Int32 → Int32 → xSt → Option (Int32 × xSt)} {c100 : Int32 → Int32 → Int32 → Int32 → Int32 → Int32 → Int32 → Int32 → Int32 → xSt → Option (Int32 × xSt)} (X : xX p s m args c cX1_mostAlike 10 RX1 D (tyC cI cX) A (wC ad cI cX)) (hr : meth.sig.returnType = (some .int)) (hl : meth.locks = false) (F : Nat) (hc40 : ∀ (v1 : Int32) (v2 : Int32) (v3 : Int32) (v4 : Int32) (v5 : Int32) (v6 : Int32) (v7 : Int32) (σ : xSt), c40 v1 v2 v3 v4 v5 v6 v7 σ = some (r, σ') → xG p l e ({ frames := 2, cells := 0, slots := 0, locals := 55 }) s m args below meth c (MQ below (xQi D A (wC ad cI cX) r σ') args s 0 0 A) 10 D A (wC ad cI cX) σ 40 [(0, .ref (ad 3)), (1, .int v1), (2, .int v2), (3, .int v3), (4, .int v4), (5, .int v5), (6, .int v6), (7, .int v7)] []) (hc100 : ∀ (v1 : Int32) (v2 : Int32) (v3 : Int32) (v4 : Int32) (v5 : Int32) (v6 : Int32) (v7 : Int32) (v8 : Int32) (v9 : Int32) (σ : xSt), c100 v1 v2 v3 v4 v5 v6 v7 v8 v9 σ = some (r, σ') → xG p l e ({ frames := 2, cells := 0, slots := 0, locals := 55 }) s m args below meth c (MQ below (xQi D A (wC ad cI cX) r σ') args s 0 0 A) 10 D A (wC ad cI cX) σ 100 [(0, .ref (ad 3)), (1, .int v1), (2, .int v2), (3, .int v3), (4, .int v4), (5, .int v5), (6, .int v6), (7, .int v7), (8, .int v8), (9, .int v9)] []) (v1 : Int32) (v2 : Int32) (v3 : Int32) (v4 : Int32) (v5 : Int32) (v6 : Int32) (v7 : Int32) (v8 : Int32) (v9 : Int32) (σ : xSt) (h : mX1_mostAlike_S100 F c40 c100 v1 v2 v3 v4 v5 v6 v7 v8 v9 σ = some (r, σ')) : xG p l e ({ frames := 2, cells := 0, slots := 0, locals := 55 }) s m args below meth c (MQ below (xQi D A (wC ad cI cX) r σ') args s 0 0 A) 10 D A (wC ad cI cX) σ 100 [(0, .ref (ad 3)), (1, .int v1), (2, .int v2), (3, .int v3), (4, .int v4), (5, .int v5), (6, .int v6), (7, .int v7), (8, .int v8), (9, .int v9)] [] := by
  unfold mX1_mostAlike_S100 at h
  refine x_iload (pc := 100) X dX1_mostAlike_100 9 rfl ?_
  refine x_iload (pc := 102) X dX1_mostAlike_102 7 rfl ?_
  refine x_icmp_gt (pc := 104) X 143 dX1_mostAlike_104 (by decide) (fun hc => ?_) (fun hc => ?_)
  · have h := xit hc h
    refine x_sub [0, 1, 2, 3, 4, 5, 6, 7, 8] rfl ?_
    exact wX1_mostAlike_L143 X hr hl F hc40 _ _ _ _ _ _ _ _ _ h
  · have h := xif hc h
    refine x_iload (pc := 107) X dX1_mostAlike_107 4 rfl ?_
    refine x_iload (pc := 109) X dX1_mostAlike_109 9 rfl ?_
    obtain ⟨r111, σ111, hq111, h⟩ := xb2_some h
    refine x_calliN (pc := 111) (As := [.int v4, .int v9]) (rest := []) X (kX8_holds l X.2.2.2.2.2.2.2 F _ _ _ _ _ hq111) kvX1_77 ⟨rfl, rfl, Nat.le_of_ble_eq_true rfl, Nat.le_of_ble_eq_true rfl⟩ rfl rfl (Nat.le_of_ble_eq_true rfl) dX1_mostAlike_111 ?_
    refine x_if_eq (pc := 114) X 137 dX1_mostAlike_114 (by decide) (fun hc => ?_) (fun hc => ?_)
    · have h := xit hc h
      refine x_sub [0, 1, 2, 3, 4, 5, 6, 7, 8, 9] rfl ?_
      exact wX1_mostAlike_L137 X hr hl F hc40 hc100 _ _ _ _ _ _ _ _ _ _ h
    · have h := xif hc h
      refine x_aload_n (pc := 117) X dX1_mostAlike_117 rfl 0 rfl ?_
      refine gX1_9 (pc := 118) X dX1_mostAlike_118 ?_
      refine x_iload (pc := 121) X dX1_mostAlike_121 9 rfl ?_
      obtain ⟨hb123, h⟩ := xck_some h
      refine x_iald (pc := 123) X 8 0 (qaX1_toldBy) rfl hb123 dX1_mostAlike_123 ?_
      refine x_aload_n (pc := 124) X dX1_mostAlike_124 rfl 0 rfl ?_
      refine gX1_9 (pc := 125) X dX1_mostAlike_125 ?_
      refine x_iload (pc := 128) X dX1_mostAlike_128 7 rfl ?_
      obtain ⟨hb130, h⟩ := xck_some h
      refine x_iald (pc := 130) X 8 0 (qaX1_toldBy) rfl hb130 dX1_mostAlike_130 ?_
      refine x_icmp_ne (pc := 131) X 137 dX1_mostAlike_131 (by decide) (fun hc => ?_) (fun hc => ?_)
      · have h := xif hc h
        refine x_sub [0, 1, 2, 3, 4, 5, 6, 7, 8, 9] rfl ?_
        exact wX1_mostAlike_L137 X hr hl F hc40 hc100 _ _ _ _ _ _ _ _ _ _ h
      · have h := xit hc h
        refine x_iinc (pc := 134) (v := (v8 + 1)) (lv' := [(8, .int (v8 + 1)), (0, .ref (ad 3)), (1, .int v1), (2, .int v2), (3, .int v3), (4, .int v4), (5, .int v5), (6, .int v6), (7, .int v7), (9, .int v9)]) X dX1_mostAlike_134 8 rfl rfl (by decide) rfl ?_
        refine x_sub [1, 2, 3, 4, 5, 6, 7, 8, 0, 9] rfl ?_
        exact wX1_mostAlike_L137 X hr hl F hc40 hc100 _ _ _ _ _ _ _ _ _ _ h
theorem wX1_mostAlike_L100 {p : Program} {l : Launch} {e : Env} {s : State} {m : MethodId} {args : Array Value} {below : List Frame} {meth : Method} {c : Code} {D : va_G} {A : Nat → Prop} {ad : Nat → Nat} {cI cX : ClassId} {r : Int32} {σ' : xSt} {c40 : Int32 → Int32 → Int32 → Int32 → Int32 → Int32 → Int32 → xSt → Option (Int32 × xSt)} (X : xX p s m args c cX1_mostAlike 10 RX1 D (tyC cI cX) A (wC ad cI cX)) (hr : meth.sig.returnType = (some .int)) (hl : meth.locks = false) (F : Nat) (hc40 : ∀ (v1 : Int32) (v2 : Int32) (v3 : Int32) (v4 : Int32) (v5 : Int32) (v6 : Int32) (v7 : Int32) (σ : xSt), c40 v1 v2 v3 v4 v5 v6 v7 σ = some (r, σ') → xG p l e ({ frames := 2, cells := 0, slots := 0, locals := 55 }) s m args below meth c (MQ below (xQi D A (wC ad cI cX) r σ') args s 0 0 A) 10 D A (wC ad cI cX) σ 40 [(0, .ref (ad 3)), (1, .int v1), (2, .int v2), (3, .int v3), (4, .int v4), (5, .int v5), (6, .int v6), (7, .int v7)] []) : ∀ (n : Nat) (v1 : Int32) (v2 : Int32) (v3 : Int32) (v4 : Int32) (v5 : Int32) (v6 : Int32) (v7 : Int32) (v8 : Int32) (v9 : Int32) (σ : xSt), mX1_mostAlike_L100 F c40 n v1 v2 v3 v4 v5 v6 v7 v8 v9 σ = some (r, σ') → xG p l e ({ frames := 2, cells := 0, slots := 0, locals := 55 }) s m args below meth c (MQ below (xQi D A (wC ad cI cX) r σ') args s 0 0 A) 10 D A (wC ad cI cX) σ 100 [(0, .ref (ad 3)), (1, .int v1), (2, .int v2), (3, .int v3), (4, .int v4), (5, .int v5), (6, .int v6), (7, .int v7), (8, .int v8), (9, .int v9)] [] := by
  intro n
  induction n with
  | zero => intro v1 v2 v3 v4 v5 v6 v7 v8 v9 σ h; cases h
  | succ n ih => intro v1 v2 v3 v4 v5 v6 v7 v8 v9 σ h; exact wX1_mostAlike_S100 X hr hl F hc40 ih v1 v2 v3 v4 v5 v6 v7 v8 v9 σ h
set_option maxRecDepth 100000 in
set_option maxHeartbeats 4000000 in
theorem wX1_mostAlike_S40 {p : Program} {l : Launch} {e : Env} {s : State} {m : MethodId} {args : Array Value} {below : List Frame} {meth : Method} {c : Code} {D : va_G} {A : Nat → Prop} {ad : Nat → Nat} {cI cX : ClassId} {r : Int32} {σ' : xSt} {c40 : Int32 → Int32 → Int32 → Int32 → Int32 → Int32 → Int32 → xSt → Option (Int32 × xSt)} (X : xX p s m args c cX1_mostAlike 10 RX1 D (tyC cI cX) A (wC ad cI cX)) (hr : meth.sig.returnType = (some .int)) (hl : meth.locks = false) (F : Nat) (hc40 : ∀ (v1 : Int32) (v2 : Int32) (v3 : Int32) (v4 : Int32) (v5 : Int32) (v6 : Int32) (v7 : Int32) (σ : xSt), c40 v1 v2 v3 v4 v5 v6 v7 σ = some (r, σ') → xG p l e ({ frames := 2, cells := 0, slots := 0, locals := 55 }) s m args below meth c (MQ below (xQi D A (wC ad cI cX) r σ') args s 0 0 A) 10 D A (wC ad cI cX) σ 40 [(0, .ref (ad 3)), (1, .int v1), (2, .int v2), (3, .int v3), (4, .int v4), (5, .int v5), (6, .int v6), (7, .int v7)] []) (v1 : Int32) (v2 : Int32) (v3 : Int32) (v4 : Int32) (v5 : Int32) (v6 : Int32) (v7 : Int32) (σ : xSt) (h : mX1_mostAlike_S40 F c40 v1 v2 v3 v4 v5 v6 v7 σ = some (r, σ')) : xG p l e ({ frames := 2, cells := 0, slots := 0, locals := 55 }) s m args below meth c (MQ below (xQi D A (wC ad cI cX) r σ') args s 0 0 A) 10 D A (wC ad cI cX) σ 40 [(0, .ref (ad 3)), (1, .int v1), (2, .int v2), (3, .int v3), (4, .int v4), (5, .int v5), (6, .int v6), (7, .int v7)] [] := by
  unfold mX1_mostAlike_S40 at h
  refine x_iload (pc := 40) X dX1_mostAlike_40 7 rfl ?_
  refine x_aload_n (pc := 42) X dX1_mostAlike_42 rfl 0 rfl ?_
  refine gX1_9 (pc := 43) X dX1_mostAlike_43 ?_
  refine x_alen (pc := 46) X 8 0 (qaX1_toldBy) rfl rfl dX1_mostAlike_46 ?_
  refine x_icmp_ge (pc := 47) X 158 dX1_mostAlike_47 (by decide) (fun hc => ?_) (fun hc => ?_)
  · have h := xit hc h
    refine x_sub [0, 2, 5, 6] rfl ?_
    exact wX1_mostAlike_L158 X hr hl F _ _ _ _ h
  · have h := xif hc h
    refine x_iload (pc := 50) X dX1_mostAlike_50 4 rfl ?_
    refine x_iload (pc := 52) X dX1_mostAlike_52 7 rfl ?_
    obtain ⟨r54, σ54, hq54, h⟩ := xb2_some h
    refine x_calliN (pc := 54) (As := [.int v4, .int v7]) (rest := []) X (kX8_holds l X.2.2.2.2.2.2.2 F _ _ _ _ _ hq54) kvX1_77 ⟨rfl, rfl, Nat.le_of_ble_eq_true rfl, Nat.le_of_ble_eq_true rfl⟩ rfl rfl (Nat.le_of_ble_eq_true rfl) dX1_mostAlike_54 ?_
    refine x_if_ne (pc := 57) X 63 dX1_mostAlike_57 (by decide) (fun hc => ?_) (fun hc => ?_)
    · have h := xif hc h
      refine x_aload_n (pc := 63) X dX1_mostAlike_63 rfl 0 rfl ?_
      refine gX1_15 (pc := 64) X dX1_mostAlike_64 ?_
      refine gX1_44 (pc := 67) X dX1_mostAlike_67 ?_
      refine gX1_41 (pc := 70) X 0 (by decide) dX1_mostAlike_70 ?_
      refine x_iload_n (pc := 73) X dX1_mostAlike_73 rfl 2 rfl ?_
      refine x_iload (pc := 74) X dX1_mostAlike_74 7 rfl ?_
      obtain ⟨hb76, h⟩ := xck_some h
      refine x_iast (pc := 76) (σ' := (xsA σ54 (21 + 0) (Int32.toNatClampNeg v2) v7)) X (31 + 0) 0 (qaX7_others 0 (by decide)) rfl (saX7_others _ 0 (by decide)) hb76 dX1_mostAlike_76 ?_
      refine x_aload_n (pc := 77) X dX1_mostAlike_77 rfl 0 rfl ?_
      refine gX1_9 (pc := 78) X dX1_mostAlike_78 ?_
      refine x_iload (pc := 81) X dX1_mostAlike_81 7 rfl ?_
      refine x_aload_n (pc := 83) X dX1_mostAlike_83 rfl 0 rfl ?_
      refine gX1_15 (pc := 84) X dX1_mostAlike_84 ?_
      refine x_iload_n (pc := 87) X dX1_mostAlike_87 rfl 1 rfl ?_
      refine x_iload_n (pc := 88) X dX1_mostAlike_88 rfl 3 rfl ?_
      refine x_iconst (pc := 89) (v := 0) X dX1_mostAlike_89 (by decide) ?_
      obtain ⟨r90, σ90, hq90, h⟩ := xb2_some h
      refine x_calliV (pc := 90) (As := [.int v1, .int v3, .int 0]) (rest := [.int v7, .ref (ad 8)]) X (kX2_tellsBehind l X.2.2.2.2.2.2.2 F _ _ _ _ _ _ hq90) kvX1_35 rfl (qX2) ⟨rfl, rfl, Nat.le_of_ble_eq_true rfl, Nat.le_of_ble_eq_true rfl⟩ rfl rfl (Nat.le_of_ble_eq_true rfl) dX1_mostAlike_90 ?_
      obtain ⟨hb93, h⟩ := xck_some h
      refine x_iast (pc := 93) (σ' := (xsA σ90 1 (Int32.toNatClampNeg v7) r90)) X 8 0 (qaX1_toldBy) rfl (saX1_toldBy _) hb93 dX1_mostAlike_93 ?_
      refine x_iconst (pc := 94) (v := 0) X dX1_mostAlike_94 (by decide) ?_
      refine x_istore (pc := 95) (lv' := [(8, .int 0), (0, .ref (ad 3)), (1, .int v1), (2, .int v2), (3, .int v3), (4, .int v4), (5, .int v5), (6, .int v6), (7, .int v7)]) X dX1_mostAlike_95 (by decide) rfl ?_
      refine x_iconst (pc := 97) (v := 0) X dX1_mostAlike_97 (by decide) ?_
      refine x_istore (pc := 98) (lv' := [(9, .int 0), (8, .int 0), (0, .ref (ad 3)), (1, .int v1), (2, .int v2), (3, .int v3), (4, .int v4), (5, .int v5), (6, .int v6), (7, .int v7)]) X dX1_mostAlike_98 (by decide) rfl ?_
      refine x_sub [2, 3, 4, 5, 6, 7, 8, 9, 1, 0] rfl ?_
      exact wX1_mostAlike_L100 X hr hl F hc40 F _ _ _ _ _ _ _ _ _ _ h
    · have h := xit hc h
      refine x_goto (pc := 60) X 152 dX1_mostAlike_60 (by decide) ?_
      refine x_sub [0, 1, 2, 3, 4, 5, 6, 7] rfl ?_
      exact wX1_mostAlike_L152 X hr hl F hc40 _ _ _ _ _ _ _ _ h
theorem wX1_mostAlike_L40 {p : Program} {l : Launch} {e : Env} {s : State} {m : MethodId} {args : Array Value} {below : List Frame} {meth : Method} {c : Code} {D : va_G} {A : Nat → Prop} {ad : Nat → Nat} {cI cX : ClassId} {r : Int32} {σ' : xSt} (X : xX p s m args c cX1_mostAlike 10 RX1 D (tyC cI cX) A (wC ad cI cX)) (hr : meth.sig.returnType = (some .int)) (hl : meth.locks = false) (F : Nat) : ∀ (n : Nat) (v1 : Int32) (v2 : Int32) (v3 : Int32) (v4 : Int32) (v5 : Int32) (v6 : Int32) (v7 : Int32) (σ : xSt), mX1_mostAlike_L40 F n v1 v2 v3 v4 v5 v6 v7 σ = some (r, σ') → xG p l e ({ frames := 2, cells := 0, slots := 0, locals := 55 }) s m args below meth c (MQ below (xQi D A (wC ad cI cX) r σ') args s 0 0 A) 10 D A (wC ad cI cX) σ 40 [(0, .ref (ad 3)), (1, .int v1), (2, .int v2), (3, .int v3), (4, .int v4), (5, .int v5), (6, .int v6), (7, .int v7)] [] := by
  intro n
  induction n with
  | zero => intro v1 v2 v3 v4 v5 v6 v7 σ h; cases h
  | succ n ih => intro v1 v2 v3 v4 v5 v6 v7 σ h; exact wX1_mostAlike_S40 X hr hl F ih v1 v2 v3 v4 v5 v6 v7 σ h
set_option maxRecDepth 100000 in
set_option maxHeartbeats 4000000 in
theorem wX1_mostAlike_L18 {p : Program} {l : Launch} {e : Env} {s : State} {m : MethodId} {args : Array Value} {below : List Frame} {meth : Method} {c : Code} {D : va_G} {A : Nat → Prop} {ad : Nat → Nat} {cI cX : ClassId} {r : Int32} {σ' : xSt} (X : xX p s m args c cX1_mostAlike 10 RX1 D (tyC cI cX) A (wC ad cI cX)) (hr : meth.sig.returnType = (some .int)) (hl : meth.locks = false) (F : Nat) (σ : xSt) (h : mX1_mostAlike_L18 F σ = some (r, σ')) : xG p l e ({ frames := 2, cells := 0, slots := 0, locals := 55 }) s m args below meth c (MQ below (xQi D A (wC ad cI cX) r σ') args s 0 0 A) 10 D A (wC ad cI cX) σ 18 [] [] := by
  unfold mX1_mostAlike_L18 at h
  refine x_iconst (pc := 18) (v := 0) X dX1_mostAlike_18 (by decide) ?_
  exact x_iret (pc := 19) X hr hl h dX1_mostAlike_19
set_option maxRecDepth 100000 in
set_option maxHeartbeats 4000000 in
theorem kX1_mostAlike (l : Launch) {D : va_G} {A : Nat → Prop} {ad : Nat → Nat} {cI cX : ClassId} (hD : ∀ σ, va_D A ((wC ad cI cX) σ)) (F : Nat) (v1 : Int32) (v2 : Int32) (v3 : Int32) (v4 : Int32) (σ : xSt) (r : Int32) (σ' : xSt) (h : mX1_mostAlike F v1 v2 v3 v4 σ = some (r, σ')) : xM l yX1_mostAlike cX1_mostAlike 10 (some .int) ({ frames := 2, cells := 0, slots := 0, locals := 55 }) D (tyC cI cX) A (wC ad cI cX) [.ref (ad 3), .int v1, .int v2, .int v3, .int v4] σ (xQi D A (wC ad cI cX) r σ') := by
  refine xM_of (lv := [(0, .ref (ad 3)), (1, .int v1), (2, .int v2), (3, .int v3), (4, .int v4)]) [.ref (ad 3), .int v1, .int v2, .int v3, .int v4] (by decide) hD rfl (Nat.le_of_ble_eq_true rfl) ?_
  intro p e s m args below meth c X hr hl
  unfold mX1_mostAlike at h
  refine x_iload_n (pc := 0) X dX1_mostAlike_0 rfl 2 rfl ?_
  refine x_if_lt (pc := 1) X 18 dX1_mostAlike_1 (by decide) (fun hc => ?_) (fun hc => ?_)
  · have h := xit hc h
    refine x_sub [] rfl ?_
    exact wX1_mostAlike_L18 X hr hl F _ h
  · have h := xif hc h
    refine x_iload_n (pc := 4) X dX1_mostAlike_4 rfl 2 rfl ?_
    refine x_aload_n (pc := 5) X dX1_mostAlike_5 rfl 0 rfl ?_
    refine gX1_15 (pc := 6) X dX1_mostAlike_6 ?_
    refine gX1_44 (pc := 9) X dX1_mostAlike_9 ?_
    refine gX1_23 (pc := 12) X 0 (by decide) dX1_mostAlike_12 ?_
    refine x_icmp_lt (pc := 15) X 20 dX1_mostAlike_15 (by decide) (fun hc => ?_) (fun hc => ?_)
    · have h := xit hc h
      refine x_aload_n (pc := 20) X dX1_mostAlike_20 rfl 0 rfl ?_
      refine gX1_15 (pc := 21) X dX1_mostAlike_21 ?_
      refine gX1_44 (pc := 24) X dX1_mostAlike_24 ?_
      refine gX1_41 (pc := 27) X 0 (by decide) dX1_mostAlike_27 ?_
      refine x_iload_n (pc := 30) X dX1_mostAlike_30 rfl 2 rfl ?_
      obtain ⟨hb31, h⟩ := xck_some h
      refine x_iald (pc := 31) X (31 + 0) 0 (qaX7_others 0 (by decide)) rfl hb31 dX1_mostAlike_31 ?_
      refine x_istore (pc := 32) (lv' := [(5, .int (xA σ (21 + 0) (Int32.toNatClampNeg v2))), (0, .ref (ad 3)), (1, .int v1), (2, .int v2), (3, .int v3), (4, .int v4)]) X dX1_mostAlike_32 (by decide) rfl ?_
      refine x_iconst (pc := 34) (v := 0) X dX1_mostAlike_34 (by decide) ?_
      refine x_istore (pc := 35) (lv' := [(6, .int 0), (5, .int (xA σ (21 + 0) (Int32.toNatClampNeg v2))), (0, .ref (ad 3)), (1, .int v1), (2, .int v2), (3, .int v3), (4, .int v4)]) X dX1_mostAlike_35 (by decide) rfl ?_
      refine x_iconst (pc := 37) (v := 0) X dX1_mostAlike_37 (by decide) ?_
      refine x_istore (pc := 38) (lv' := [(7, .int 0), (6, .int 0), (5, .int (xA σ (21 + 0) (Int32.toNatClampNeg v2))), (0, .ref (ad 3)), (1, .int v1), (2, .int v2), (3, .int v3), (4, .int v4)]) X dX1_mostAlike_38 (by decide) rfl ?_
      refine x_sub [3, 4, 5, 6, 7, 2, 1, 0] rfl ?_
      exact wX1_mostAlike_L40 X hr hl F F _ _ _ _ _ _ _ _ h
    · have h := xif hc h
      refine x_sub [] rfl ?_
      exact wX1_mostAlike_L18 X hr hl F _ h
set_option maxRecDepth 100000 in
set_option maxHeartbeats 4000000 in
theorem wX1_tellingThing_L63 {p : Program} {l : Launch} {e : Env} {s : State} {m : MethodId} {args : Array Value} {below : List Frame} {meth : Method} {c : Code} {D : va_G} {A : Nat → Prop} {ad : Nat → Nat} {cI cX : ClassId} {r : Int32} {σ' : xSt} (X : xX p s m args c cX1_tellingThing 8 RX1 D (tyC cI cX) A (wC ad cI cX)) (hr : meth.sig.returnType = (some .int)) (hl : meth.locks = false) (F : Nat) (v4 : Int32) (σ : xSt) (h : mX1_tellingThing_L63 F v4 σ = some (r, σ')) : xG p l e ({ frames := 4, cells := 0, slots := 0, locals := 100 }) s m args below meth c (MQ below (xQi D A (wC ad cI cX) r σ') args s 0 0 A) 8 D A (wC ad cI cX) σ 63 [(4, .int v4)] [] := by
  unfold mX1_tellingThing_L63 at h
  refine x_iload (pc := 63) X dX1_tellingThing_63 0 rfl ?_
  exact x_iret (pc := 65) X hr hl h dX1_tellingThing_65
set_option maxRecDepth 100000 in
set_option maxHeartbeats 4000000 in
theorem wX1_tellingThing_L57 {p : Program} {l : Launch} {e : Env} {s : State} {m : MethodId} {args : Array Value} {below : List Frame} {meth : Method} {c : Code} {D : va_G} {A : Nat → Prop} {ad : Nat → Nat} {cI cX : ClassId} {r : Int32} {σ' : xSt} {c16 : Int32 → Int32 → Int32 → Int32 → Int32 → Int32 → xSt → Option (Int32 × xSt)} (X : xX p s m args c cX1_tellingThing 8 RX1 D (tyC cI cX) A (wC ad cI cX)) (hr : meth.sig.returnType = (some .int)) (hl : meth.locks = false) (F : Nat) (hc16 : ∀ (v1 : Int32) (v2 : Int32) (v3 : Int32) (v4 : Int32) (v5 : Int32) (v6 : Int32) (σ : xSt), c16 v1 v2 v3 v4 v5 v6 σ = some (r, σ') → xG p l e ({ frames := 4, cells := 0, slots := 0, locals := 100 }) s m args below meth c (MQ below (xQi D A (wC ad cI cX) r σ') args s 0 0 A) 8 D A (wC ad cI cX) σ 16 [(0, .ref (ad 3)), (1, .int v1), (2, .int v2), (3, .int v3), (4, .int v4), (5, .int v5), (6, .int v6)] []) (v1 : Int32) (v2 : Int32) (v3 : Int32) (v4 : Int32) (v5 : Int32) (v6 : Int32) (σ : xSt) (h : mX1_tellingThing_L57 F c16 v1 v2 v3 v4 v5 v6 σ = some (r, σ')) : xG p l e ({ frames := 4, cells := 0, slots := 0, locals := 100 }) s m args below meth c (MQ below (xQi D A (wC ad cI cX) r σ') args s 0 0 A) 8 D A (wC ad cI cX) σ 57 [(0, .ref (ad 3)), (1, .int v1), (2, .int v2), (3, .int v3), (4, .int v4), (5, .int v5), (6, .int v6)] [] := by
  unfold mX1_tellingThing_L57 at h
  refine x_iinc (pc := 57) (v := (v6 + 1)) (lv' := [(6, .int (v6 + 1)), (0, .ref (ad 3)), (1, .int v1), (2, .int v2), (3, .int v3), (4, .int v4), (5, .int v5)]) X dX1_tellingThing_57 6 rfl rfl (by decide) rfl ?_
  refine x_goto (pc := 60) X 16 dX1_tellingThing_60 (by decide) ?_
  refine x_sub [1, 2, 3, 4, 5, 6, 0] rfl ?_
  exact hc16 _ _ _ _ _ _ _ h
set_option maxRecDepth 100000 in
set_option maxHeartbeats 4000000 in
theorem wX1_tellingThing_S16 {p : Program} {l : Launch} {e : Env} {s : State} {m : MethodId} {args : Array Value} {below : List Frame} {meth : Method} {c : Code} {D : va_G} {A : Nat → Prop} {ad : Nat → Nat} {cI cX : ClassId} {r : Int32} {σ' : xSt} {c16 : Int32 → Int32 → Int32 → Int32 → Int32 → Int32 → xSt → Option (Int32 × xSt)} (X : xX p s m args c cX1_tellingThing 8 RX1 D (tyC cI cX) A (wC ad cI cX)) (hr : meth.sig.returnType = (some .int)) (hl : meth.locks = false) (F : Nat) (hc16 : ∀ (v1 : Int32) (v2 : Int32) (v3 : Int32) (v4 : Int32) (v5 : Int32) (v6 : Int32) (σ : xSt), c16 v1 v2 v3 v4 v5 v6 σ = some (r, σ') → xG p l e ({ frames := 4, cells := 0, slots := 0, locals := 100 }) s m args below meth c (MQ below (xQi D A (wC ad cI cX) r σ') args s 0 0 A) 8 D A (wC ad cI cX) σ 16 [(0, .ref (ad 3)), (1, .int v1), (2, .int v2), (3, .int v3), (4, .int v4), (5, .int v5), (6, .int v6)] []) (v1 : Int32) (v2 : Int32) (v3 : Int32) (v4 : Int32) (v5 : Int32) (v6 : Int32) (σ : xSt) (h : mX1_tellingThing_S16 F c16 v1 v2 v3 v4 v5 v6 σ = some (r, σ')) : xG p l e ({ frames := 4, cells := 0, slots := 0, locals := 100 }) s m args below meth c (MQ below (xQi D A (wC ad cI cX) r σ') args s 0 0 A) 8 D A (wC ad cI cX) σ 16 [(0, .ref (ad 3)), (1, .int v1), (2, .int v2), (3, .int v3), (4, .int v4), (5, .int v5), (6, .int v6)] [] := by
  unfold mX1_tellingThing_S16 at h
  refine x_iload (pc := 16) X dX1_tellingThing_16 6 rfl ?_
  refine x_aload_n (pc := 18) X dX1_tellingThing_18 rfl 0 rfl ?_
  refine gX1_15 (pc := 19) X dX1_tellingThing_19 ?_
  refine gX1_71 (pc := 22) X dX1_tellingThing_22 ?_
  refine gX1_62 (pc := 25) X 0 (by decide) dX1_tellingThing_25 ?_
  refine x_icmp_ge (pc := 28) X 63 dX1_tellingThing_28 (by decide) (fun hc => ?_) (fun hc => ?_)
  · have h := xit hc h
    refine x_sub [4] rfl ?_
    exact wX1_tellingThing_L63 X hr hl F _ _ h
  · have h := xif hc h
    refine x_aload_n (pc := 31) X dX1_tellingThing_31 rfl 0 rfl ?_
    refine x_iload (pc := 32) X dX1_tellingThing_32 6 rfl ?_
    refine x_iload_n (pc := 34) X dX1_tellingThing_34 rfl 1 rfl ?_
    refine x_iload_n (pc := 35) X dX1_tellingThing_35 rfl 2 rfl ?_
    refine x_iload_n (pc := 36) X dX1_tellingThing_36 rfl 3 rfl ?_
    obtain ⟨r37, σ37, hq37, h⟩ := xb2_some h
    refine x_calliV (pc := 37) (As := [.int v6, .int v1, .int v2, .int v3]) (rest := []) X (kX1_mostAlike l X.2.2.2.2.2.2.2 F _ _ _ _ _ _ _ hq37) kvX1_73 rfl (qX1) ⟨rfl, rfl, Nat.le_of_ble_eq_true rfl, Nat.le_of_ble_eq_true rfl⟩ rfl rfl (Nat.le_of_ble_eq_true rfl) dX1_tellingThing_37 ?_
    refine x_istore (pc := 40) (lv' := [(7, .int r37), (0, .ref (ad 3)), (1, .int v1), (2, .int v2), (3, .int v3), (4, .int v4), (5, .int v5), (6, .int v6)]) X dX1_tellingThing_40 (by decide) rfl ?_
    refine x_iload (pc := 42) X dX1_tellingThing_42 0 rfl ?_
    refine x_iload (pc := 44) X dX1_tellingThing_44 6 rfl ?_
    refine x_icmp_ge (pc := 46) X 57 dX1_tellingThing_46 (by decide) (fun hc => ?_) (fun hc => ?_)
    · have h := xit hc h
      refine x_sub [1, 2, 3, 4, 5, 6, 7] rfl ?_
      exact wX1_tellingThing_L57 X hr hl F hc16 _ _ _ _ _ _ _ h
    · have h := xif hc h
      refine x_iload (pc := 49) X dX1_tellingThing_49 0 rfl ?_
      refine x_istore (pc := 51) (lv' := [(5, .int r37), (7, .int r37), (0, .ref (ad 3)), (1, .int v1), (2, .int v2), (3, .int v3), (4, .int v4), (6, .int v6)]) X dX1_tellingThing_51 (by decide) rfl ?_
      refine x_iload (pc := 53) X dX1_tellingThing_53 7 rfl ?_
      refine x_istore (pc := 55) (lv' := [(4, .int v6), (5, .int r37), (7, .int r37), (0, .ref (ad 3)), (1, .int v1), (2, .int v2), (3, .int v3), (6, .int v6)]) X dX1_tellingThing_55 (by decide) rfl ?_
      refine x_sub [3, 4, 5, 6, 0, 1, 7] rfl ?_
      exact wX1_tellingThing_L57 X hr hl F hc16 _ _ _ _ _ _ _ h
theorem wX1_tellingThing_L16 {p : Program} {l : Launch} {e : Env} {s : State} {m : MethodId} {args : Array Value} {below : List Frame} {meth : Method} {c : Code} {D : va_G} {A : Nat → Prop} {ad : Nat → Nat} {cI cX : ClassId} {r : Int32} {σ' : xSt} (X : xX p s m args c cX1_tellingThing 8 RX1 D (tyC cI cX) A (wC ad cI cX)) (hr : meth.sig.returnType = (some .int)) (hl : meth.locks = false) (F : Nat) : ∀ (n : Nat) (v1 : Int32) (v2 : Int32) (v3 : Int32) (v4 : Int32) (v5 : Int32) (v6 : Int32) (σ : xSt), mX1_tellingThing_L16 F n v1 v2 v3 v4 v5 v6 σ = some (r, σ') → xG p l e ({ frames := 4, cells := 0, slots := 0, locals := 100 }) s m args below meth c (MQ below (xQi D A (wC ad cI cX) r σ') args s 0 0 A) 8 D A (wC ad cI cX) σ 16 [(0, .ref (ad 3)), (1, .int v1), (2, .int v2), (3, .int v3), (4, .int v4), (5, .int v5), (6, .int v6)] [] := by
  intro n
  induction n with
  | zero => intro v1 v2 v3 v4 v5 v6 σ h; cases h
  | succ n ih => intro v1 v2 v3 v4 v5 v6 σ h; exact wX1_tellingThing_S16 X hr hl F ih v1 v2 v3 v4 v5 v6 σ h
set_option maxRecDepth 100000 in
set_option maxHeartbeats 4000000 in
theorem kX1_tellingThing (l : Launch) {D : va_G} {A : Nat → Prop} {ad : Nat → Nat} {cI cX : ClassId} (hD : ∀ σ, va_D A ((wC ad cI cX) σ)) (F : Nat) (v1 : Int32) (v2 : Int32) (σ : xSt) (r : Int32) (σ' : xSt) (h : mX1_tellingThing F v1 v2 σ = some (r, σ')) : xM l yX1_tellingThing cX1_tellingThing 8 (some .int) ({ frames := 4, cells := 0, slots := 0, locals := 100 }) D (tyC cI cX) A (wC ad cI cX) [.ref (ad 3), .int v1, .int v2] σ (xQi D A (wC ad cI cX) r σ') := by
  refine xM_of (lv := [(0, .ref (ad 3)), (1, .int v1), (2, .int v2)]) [.ref (ad 3), .int v1, .int v2] (by decide) hD rfl (Nat.le_of_ble_eq_true rfl) ?_
  intro p e s m args below meth c X hr hl
  unfold mX1_tellingThing at h
  refine x_aload_n (pc := 0) X dX1_tellingThing_0 rfl 0 rfl ?_
  refine x_iload_n (pc := 1) X dX1_tellingThing_1 rfl 1 rfl ?_
  obtain ⟨r2, σ2, hq2, h⟩ := xb2_some h
  refine x_calliV (pc := 2) (As := [.int v1]) (rest := []) X (kX1_sittersOf l X.2.2.2.2.2.2.2 F _ _ _ _ hq2) kvX1_67 rfl (qX1) ⟨rfl, rfl, Nat.le_of_ble_eq_true rfl, Nat.le_of_ble_eq_true rfl⟩ rfl rfl (Nat.le_of_ble_eq_true rfl) dX1_tellingThing_2 ?_
  refine x_istore_n (pc := 5) (lv' := [(3, .int r2), (0, .ref (ad 3)), (1, .int v1), (2, .int v2)]) X dX1_tellingThing_5 rfl (by decide) rfl ?_
  refine x_iconst (pc := 6) (v := (-1)) X dX1_tellingThing_6 (by decide) ?_
  refine x_istore (pc := 7) (lv' := [(4, .int (-1)), (3, .int r2), (0, .ref (ad 3)), (1, .int v1), (2, .int v2)]) X dX1_tellingThing_7 (by decide) rfl ?_
  refine x_bipush (pc := 9) (v := 9) X dX1_tellingThing_9 (by decide) ?_
  refine x_istore (pc := 11) (lv' := [(5, .int 9), (4, .int (-1)), (3, .int r2), (0, .ref (ad 3)), (1, .int v1), (2, .int v2)]) X dX1_tellingThing_11 (by decide) rfl ?_
  refine x_iconst (pc := 13) (v := 0) X dX1_tellingThing_13 (by decide) ?_
  refine x_istore (pc := 14) (lv' := [(6, .int 0), (5, .int 9), (4, .int (-1)), (3, .int r2), (0, .ref (ad 3)), (1, .int v1), (2, .int v2)]) X dX1_tellingThing_14 (by decide) rfl ?_
  refine x_sub [4, 5, 6, 3, 2, 1, 0] rfl ?_
  exact wX1_tellingThing_L16 X hr hl F F _ _ _ _ _ _ _ h
set_option maxRecDepth 100000 in
set_option maxHeartbeats 4000000 in
theorem wX2_allTell_L43 {p : Program} {l : Launch} {e : Env} {s : State} {m : MethodId} {args : Array Value} {below : List Frame} {meth : Method} {c : Code} {D : va_G} {A : Nat → Prop} {ad : Nat → Nat} {cI cX : ClassId} {r : Int32} {σ' : xSt} (X : xX p s m args c cX2_allTell 5 RX2 D (tyC cI cX) A (wC ad cI cX)) (hr : meth.sig.returnType = (some .int)) (hl : meth.locks = false) (F : Nat) (v3 : Int32) (σ : xSt) (h : mX2_allTell_L43 F v3 σ = some (r, σ')) : xG p l e ({ frames := 2, cells := 0, slots := 0, locals := 55 }) s m args below meth c (MQ below (xQi D A (wC ad cI cX) r σ') args s 0 0 A) 5 D A (wC ad cI cX) σ 43 [(3, .int v3)] [] := by
  unfold mX2_allTell_L43 at h
  refine x_iload_n (pc := 43) X dX2_allTell_43 rfl 0 rfl ?_
  exact x_iret (pc := 44) X hr hl h dX2_allTell_44
set_option maxRecDepth 100000 in
set_option maxHeartbeats 4000000 in
theorem wX2_allTell_L37 {p : Program} {l : Launch} {e : Env} {s : State} {m : MethodId} {args : Array Value} {below : List Frame} {meth : Method} {c : Code} {D : va_G} {A : Nat → Prop} {ad : Nat → Nat} {cI cX : ClassId} {r : Int32} {σ' : xSt} {c5 : Int32 → Int32 → Int32 → Int32 → xSt → Option (Int32 × xSt)} (X : xX p s m args c cX2_allTell 5 RX2 D (tyC cI cX) A (wC ad cI cX)) (hr : meth.sig.returnType = (some .int)) (hl : meth.locks = false) (F : Nat) (hc5 : ∀ (v1 : Int32) (v2 : Int32) (v3 : Int32) (v4 : Int32) (σ : xSt), c5 v1 v2 v3 v4 σ = some (r, σ') → xG p l e ({ frames := 2, cells := 0, slots := 0, locals := 55 }) s m args below meth c (MQ below (xQi D A (wC ad cI cX) r σ') args s 0 0 A) 5 D A (wC ad cI cX) σ 5 [(0, .ref (ad 1)), (1, .int v1), (2, .int v2), (3, .int v3), (4, .int v4)] []) (v1 : Int32) (v2 : Int32) (v3 : Int32) (v4 : Int32) (σ : xSt) (h : mX2_allTell_L37 F c5 v1 v2 v3 v4 σ = some (r, σ')) : xG p l e ({ frames := 2, cells := 0, slots := 0, locals := 55 }) s m args below meth c (MQ below (xQi D A (wC ad cI cX) r σ') args s 0 0 A) 5 D A (wC ad cI cX) σ 37 [(0, .ref (ad 1)), (1, .int v1), (2, .int v2), (3, .int v3), (4, .int v4)] [] := by
  unfold mX2_allTell_L37 at h
  refine x_iinc (pc := 37) (v := (v4 + 1)) (lv' := [(4, .int (v4 + 1)), (0, .ref (ad 1)), (1, .int v1), (2, .int v2), (3, .int v3)]) X dX2_allTell_37 4 rfl rfl (by decide) rfl ?_
  refine x_goto (pc := 40) X 5 dX2_allTell_40 (by decide) ?_
  refine x_sub [1, 2, 3, 4, 0] rfl ?_
  exact hc5 _ _ _ _ _ h
set_option maxRecDepth 100000 in
set_option maxHeartbeats 4000000 in
theorem wX2_allTell_S5 {p : Program} {l : Launch} {e : Env} {s : State} {m : MethodId} {args : Array Value} {below : List Frame} {meth : Method} {c : Code} {D : va_G} {A : Nat → Prop} {ad : Nat → Nat} {cI cX : ClassId} {r : Int32} {σ' : xSt} {c5 : Int32 → Int32 → Int32 → Int32 → xSt → Option (Int32 × xSt)} (X : xX p s m args c cX2_allTell 5 RX2 D (tyC cI cX) A (wC ad cI cX)) (hr : meth.sig.returnType = (some .int)) (hl : meth.locks = false) (F : Nat) (hc5 : ∀ (v1 : Int32) (v2 : Int32) (v3 : Int32) (v4 : Int32) (σ : xSt), c5 v1 v2 v3 v4 σ = some (r, σ') → xG p l e ({ frames := 2, cells := 0, slots := 0, locals := 55 }) s m args below meth c (MQ below (xQi D A (wC ad cI cX) r σ') args s 0 0 A) 5 D A (wC ad cI cX) σ 5 [(0, .ref (ad 1)), (1, .int v1), (2, .int v2), (3, .int v3), (4, .int v4)] []) (v1 : Int32) (v2 : Int32) (v3 : Int32) (v4 : Int32) (σ : xSt) (h : mX2_allTell_S5 F c5 v1 v2 v3 v4 σ = some (r, σ')) : xG p l e ({ frames := 2, cells := 0, slots := 0, locals := 55 }) s m args below meth c (MQ below (xQi D A (wC ad cI cX) r σ') args s 0 0 A) 5 D A (wC ad cI cX) σ 5 [(0, .ref (ad 1)), (1, .int v1), (2, .int v2), (3, .int v3), (4, .int v4)] [] := by
  unfold mX2_allTell_S5 at h
  refine x_iload (pc := 5) X dX2_allTell_5 4 rfl ?_
  refine x_aload_n (pc := 7) X dX2_allTell_7 rfl 0 rfl ?_
  refine gX2_14 (pc := 8) X dX2_allTell_8 ?_
  refine gX2_42 (pc := 11) X 0 (by decide) dX2_allTell_11 ?_
  refine x_icmp_ge (pc := 14) X 43 dX2_allTell_14 (by decide) (fun hc => ?_) (fun hc => ?_)
  · have h := xit hc h
    refine x_sub [3] rfl ?_
    exact wX2_allTell_L43 X hr hl F _ _ h
  · have h := xif hc h
    refine x_iload_n (pc := 17) X dX2_allTell_17 rfl 2 rfl ?_
    refine x_iload (pc := 18) X dX2_allTell_18 4 rfl ?_
    obtain ⟨r20, σ20, hq20, h⟩ := xb2_some h
    refine x_calliN (pc := 20) (As := [.int v2, .int v4]) (rest := []) X (kX8_holds l X.2.2.2.2.2.2.2 F _ _ _ _ _ hq20) kvX2_90 ⟨rfl, rfl, Nat.le_of_ble_eq_true rfl, Nat.le_of_ble_eq_true rfl⟩ rfl rfl (Nat.le_of_ble_eq_true rfl) dX2_allTell_20 ?_
    refine x_if_eq (pc := 23) X 37 dX2_allTell_23 (by decide) (fun hc => ?_) (fun hc => ?_)
    · have h := xit hc h
      refine x_sub [0, 1, 2, 3, 4] rfl ?_
      exact wX2_allTell_L37 X hr hl F hc5 _ _ _ _ _ h
    · have h := xif hc h
      refine x_iload_n (pc := 26) X dX2_allTell_26 rfl 3 rfl ?_
      refine x_aload_n (pc := 27) X dX2_allTell_27 rfl 0 rfl ?_
      refine x_iload (pc := 28) X dX2_allTell_28 4 rfl ?_
      refine x_iload_n (pc := 30) X dX2_allTell_30 rfl 1 rfl ?_
      refine x_iconst (pc := 31) (v := 0) X dX2_allTell_31 (by decide) ?_
      obtain ⟨r32, σ32, hq32, h⟩ := xb2_some h
      refine x_calliV (pc := 32) (As := [.int v4, .int v1, .int 0]) (rest := [.int v3]) X (kX2_tellsBehind l X.2.2.2.2.2.2.2 F _ _ _ _ _ _ hq32) kvX2_98 rfl (qX2) ⟨rfl, rfl, Nat.le_of_ble_eq_true rfl, Nat.le_of_ble_eq_true rfl⟩ rfl rfl (Nat.le_of_ble_eq_true rfl) dX2_allTell_32 ?_
      refine x_ior (pc := 35) X dX2_allTell_35 ?_
      refine x_istore_n (pc := 36) (lv' := [(3, .int (v3 ||| r32)), (0, .ref (ad 1)), (1, .int v1), (2, .int v2), (4, .int v4)]) X dX2_allTell_36 rfl (by decide) rfl ?_
      refine x_sub [1, 2, 3, 0, 4] rfl ?_
      exact wX2_allTell_L37 X hr hl F hc5 _ _ _ _ _ h
theorem wX2_allTell_L5 {p : Program} {l : Launch} {e : Env} {s : State} {m : MethodId} {args : Array Value} {below : List Frame} {meth : Method} {c : Code} {D : va_G} {A : Nat → Prop} {ad : Nat → Nat} {cI cX : ClassId} {r : Int32} {σ' : xSt} (X : xX p s m args c cX2_allTell 5 RX2 D (tyC cI cX) A (wC ad cI cX)) (hr : meth.sig.returnType = (some .int)) (hl : meth.locks = false) (F : Nat) : ∀ (n : Nat) (v1 : Int32) (v2 : Int32) (v3 : Int32) (v4 : Int32) (σ : xSt), mX2_allTell_L5 F n v1 v2 v3 v4 σ = some (r, σ') → xG p l e ({ frames := 2, cells := 0, slots := 0, locals := 55 }) s m args below meth c (MQ below (xQi D A (wC ad cI cX) r σ') args s 0 0 A) 5 D A (wC ad cI cX) σ 5 [(0, .ref (ad 1)), (1, .int v1), (2, .int v2), (3, .int v3), (4, .int v4)] [] := by
  intro n
  induction n with
  | zero => intro v1 v2 v3 v4 σ h; cases h
  | succ n ih => intro v1 v2 v3 v4 σ h; exact wX2_allTell_S5 X hr hl F ih v1 v2 v3 v4 σ h
set_option maxRecDepth 100000 in
set_option maxHeartbeats 4000000 in
theorem kX2_allTell (l : Launch) {D : va_G} {A : Nat → Prop} {ad : Nat → Nat} {cI cX : ClassId} (hD : ∀ σ, va_D A ((wC ad cI cX) σ)) (F : Nat) (v1 : Int32) (v2 : Int32) (σ : xSt) (r : Int32) (σ' : xSt) (h : mX2_allTell F v1 v2 σ = some (r, σ')) : xM l yX2_allTell cX2_allTell 5 (some .int) ({ frames := 2, cells := 0, slots := 0, locals := 55 }) D (tyC cI cX) A (wC ad cI cX) [.ref (ad 1), .int v1, .int v2] σ (xQi D A (wC ad cI cX) r σ') := by
  refine xM_of (lv := [(0, .ref (ad 1)), (1, .int v1), (2, .int v2)]) [.ref (ad 1), .int v1, .int v2] (by decide) hD rfl (Nat.le_of_ble_eq_true rfl) ?_
  intro p e s m args below meth c X hr hl
  unfold mX2_allTell at h
  refine x_iconst (pc := 0) (v := 0) X dX2_allTell_0 (by decide) ?_
  refine x_istore_n (pc := 1) (lv' := [(3, .int 0), (0, .ref (ad 1)), (1, .int v1), (2, .int v2)]) X dX2_allTell_1 rfl (by decide) rfl ?_
  refine x_iconst (pc := 2) (v := 0) X dX2_allTell_2 (by decide) ?_
  refine x_istore (pc := 3) (lv' := [(4, .int 0), (3, .int 0), (0, .ref (ad 1)), (1, .int v1), (2, .int v2)]) X dX2_allTell_3 (by decide) rfl ?_
  refine x_sub [2, 3, 4, 1, 0] rfl ?_
  exact wX2_allTell_L5 X hr hl F F _ _ _ _ _ h
set_option maxRecDepth 100000 in
set_option maxHeartbeats 4000000 in
theorem wX2_layersAtTheEnd_L40 {p : Program} {l : Launch} {e : Env} {s : State} {m : MethodId} {args : Array Value} {below : List Frame} {meth : Method} {c : Code} {D : va_G} {A : Nat → Prop} {ad : Nat → Nat} {cI cX : ClassId} {r : Int32} {σ' : xSt} (X : xX p s m args c cX2_layersAtTheEnd 3 RX2 D (tyC cI cX) A (wC ad cI cX)) (hr : meth.sig.returnType = (some .int)) (hl : meth.locks = false) (F : Nat) (v1 : Int32) (σ : xSt) (h : mX2_layersAtTheEnd_L40 F v1 σ = some (r, σ')) : xG p l e ({ frames := 2, cells := 0, slots := 0, locals := 55 }) s m args below meth c (MQ below (xQi D A (wC ad cI cX) r σ') args s 0 0 A) 3 D A (wC ad cI cX) σ 40 [(1, .int v1)] [] := by
  unfold mX2_layersAtTheEnd_L40 at h
  refine x_iload_n (pc := 40) X dX2_layersAtTheEnd_40 rfl 0 rfl ?_
  exact x_iret (pc := 41) X hr hl h dX2_layersAtTheEnd_41
set_option maxRecDepth 100000 in
set_option maxHeartbeats 4000000 in
theorem wX2_layersAtTheEnd_S4 {p : Program} {l : Launch} {e : Env} {s : State} {m : MethodId} {args : Array Value} {below : List Frame} {meth : Method} {c : Code} {D : va_G} {A : Nat → Prop} {ad : Nat → Nat} {cI cX : ClassId} {r : Int32} {σ' : xSt} {c4 : Int32 → Int32 → xSt → Option (Int32 × xSt)} (X : xX p s m args c cX2_layersAtTheEnd 3 RX2 D (tyC cI cX) A (wC ad cI cX)) (hr : meth.sig.returnType = (some .int)) (hl : meth.locks = false) (F : Nat) (hc4 : ∀ (v1 : Int32) (v2 : Int32) (σ : xSt), c4 v1 v2 σ = some (r, σ') → xG p l e ({ frames := 2, cells := 0, slots := 0, locals := 55 }) s m args below meth c (MQ below (xQi D A (wC ad cI cX) r σ') args s 0 0 A) 3 D A (wC ad cI cX) σ 4 [(0, .ref (ad 1)), (1, .int v1), (2, .int v2)] []) (v1 : Int32) (v2 : Int32) (σ : xSt) (h : mX2_layersAtTheEnd_S4 F c4 v1 v2 σ = some (r, σ')) : xG p l e ({ frames := 2, cells := 0, slots := 0, locals := 55 }) s m args below meth c (MQ below (xQi D A (wC ad cI cX) r σ') args s 0 0 A) 3 D A (wC ad cI cX) σ 4 [(0, .ref (ad 1)), (1, .int v1), (2, .int v2)] [] := by
  unfold mX2_layersAtTheEnd_S4 at h
  refine x_iload_n (pc := 4) X dX2_layersAtTheEnd_4 rfl 2 rfl ?_
  refine x_aload_n (pc := 5) X dX2_layersAtTheEnd_5 rfl 0 rfl ?_
  refine gX2_14 (pc := 6) X dX2_layersAtTheEnd_6 ?_
  refine gX2_42 (pc := 9) X 0 (by decide) dX2_layersAtTheEnd_9 ?_
  refine x_icmp_ge (pc := 12) X 40 dX2_layersAtTheEnd_12 (by decide) (fun hc => ?_) (fun hc => ?_)
  · have h := xit hc h
    refine x_sub [1] rfl ?_
    exact wX2_layersAtTheEnd_L40 X hr hl F _ _ h
  · have h := xif hc h
    refine x_aload_n (pc := 15) X dX2_layersAtTheEnd_15 rfl 0 rfl ?_
    refine x_iload_n (pc := 16) X dX2_layersAtTheEnd_16 rfl 2 rfl ?_
    refine x_bipush (pc := 17) (v := 23) X dX2_layersAtTheEnd_17 (by decide) ?_
    refine x_iconst (pc := 19) (v := 0) X dX2_layersAtTheEnd_19 (by decide) ?_
    obtain ⟨r20, σ20, hq20, h⟩ := xb2_some h
    refine x_calliV (pc := 20) (As := [.int v2, .int 23, .int 0]) (rest := []) X (kX2_tellsBehind l X.2.2.2.2.2.2.2 F _ _ _ _ _ _ hq20) kvX2_98 rfl (qX2) ⟨rfl, rfl, Nat.le_of_ble_eq_true rfl, Nat.le_of_ble_eq_true rfl⟩ rfl rfl (Nat.le_of_ble_eq_true rfl) dX2_layersAtTheEnd_20 ?_
    refine x_pop (pc := 23) X dX2_layersAtTheEnd_23 rfl ?_
    refine x_iload_n (pc := 24) X dX2_layersAtTheEnd_24 rfl 1 rfl ?_
    refine x_aload_n (pc := 25) X dX2_layersAtTheEnd_25 rfl 0 rfl ?_
    refine gX2_38 (pc := 26) X dX2_layersAtTheEnd_26 ?_
    refine gX2_102 (pc := 29) X dX2_layersAtTheEnd_29 ?_
    refine x_iadd (pc := 32) X dX2_layersAtTheEnd_32 ?_
    refine x_istore_n (pc := 33) (lv' := [(1, .int (v1 + (xI σ20 1))), (0, .ref (ad 1)), (2, .int v2)]) X dX2_layersAtTheEnd_33 rfl (by decide) rfl ?_
    refine x_iinc (pc := 34) (v := (v2 + 1)) (lv' := [(2, .int (v2 + 1)), (1, .int (v1 + (xI σ20 1))), (0, .ref (ad 1))]) X dX2_layersAtTheEnd_34 2 rfl rfl (by decide) rfl ?_
    refine x_goto (pc := 37) X 4 dX2_layersAtTheEnd_37 (by decide) ?_
    refine x_sub [2, 1, 0] rfl ?_
    exact hc4 _ _ _ h
theorem wX2_layersAtTheEnd_L4 {p : Program} {l : Launch} {e : Env} {s : State} {m : MethodId} {args : Array Value} {below : List Frame} {meth : Method} {c : Code} {D : va_G} {A : Nat → Prop} {ad : Nat → Nat} {cI cX : ClassId} {r : Int32} {σ' : xSt} (X : xX p s m args c cX2_layersAtTheEnd 3 RX2 D (tyC cI cX) A (wC ad cI cX)) (hr : meth.sig.returnType = (some .int)) (hl : meth.locks = false) (F : Nat) : ∀ (n : Nat) (v1 : Int32) (v2 : Int32) (σ : xSt), mX2_layersAtTheEnd_L4 F n v1 v2 σ = some (r, σ') → xG p l e ({ frames := 2, cells := 0, slots := 0, locals := 55 }) s m args below meth c (MQ below (xQi D A (wC ad cI cX) r σ') args s 0 0 A) 3 D A (wC ad cI cX) σ 4 [(0, .ref (ad 1)), (1, .int v1), (2, .int v2)] [] := by
  intro n
  induction n with
  | zero => intro v1 v2 σ h; cases h
  | succ n ih => intro v1 v2 σ h; exact wX2_layersAtTheEnd_S4 X hr hl F ih v1 v2 σ h
set_option maxRecDepth 100000 in
set_option maxHeartbeats 4000000 in
theorem kX2_layersAtTheEnd (l : Launch) {D : va_G} {A : Nat → Prop} {ad : Nat → Nat} {cI cX : ClassId} (hD : ∀ σ, va_D A ((wC ad cI cX) σ)) (F : Nat) (σ : xSt) (r : Int32) (σ' : xSt) (h : mX2_layersAtTheEnd F σ = some (r, σ')) : xM l yX2_layersAtTheEnd cX2_layersAtTheEnd 3 (some .int) ({ frames := 2, cells := 0, slots := 0, locals := 55 }) D (tyC cI cX) A (wC ad cI cX) [.ref (ad 1)] σ (xQi D A (wC ad cI cX) r σ') := by
  refine xM_of (lv := [(0, .ref (ad 1))]) [.ref (ad 1)] (by decide) hD rfl (Nat.le_of_ble_eq_true rfl) ?_
  intro p e s m args below meth c X hr hl
  unfold mX2_layersAtTheEnd at h
  refine x_iconst (pc := 0) (v := 0) X dX2_layersAtTheEnd_0 (by decide) ?_
  refine x_istore_n (pc := 1) (lv' := [(1, .int 0), (0, .ref (ad 1))]) X dX2_layersAtTheEnd_1 rfl (by decide) rfl ?_
  refine x_iconst (pc := 2) (v := 0) X dX2_layersAtTheEnd_2 (by decide) ?_
  refine x_istore_n (pc := 3) (lv' := [(2, .int 0), (1, .int 0), (0, .ref (ad 1))]) X dX2_layersAtTheEnd_3 rfl (by decide) rfl ?_
  refine x_sub [2, 1, 0] rfl ?_
  exact wX2_layersAtTheEnd_L4 X hr hl F F _ _ _ h
set_option maxRecDepth 100000 in
set_option maxHeartbeats 4000000 in
theorem wX2_inseparable_L139 {p : Program} {l : Launch} {e : Env} {s : State} {m : MethodId} {args : Array Value} {below : List Frame} {meth : Method} {c : Code} {D : va_G} {A : Nat → Prop} {ad : Nat → Nat} {cI cX : ClassId} {r : Int64} {σ' : xSt} (X : xX p s m args c cX2_inseparable 12 RX2 D (tyC cI cX) A (wC ad cI cX)) (hr : meth.sig.returnType = (some .long)) (hl : meth.locks = false) (F : Nat) (v1 : Int64) (v3 : Int64) (σ : xSt) (h : mX2_inseparable_L139 F v1 v3 σ = some (r, σ')) : xG p l e ({ frames := 2, cells := 0, slots := 0, locals := 55 }) s m args below meth c (MQ below (xQl D A (wC ad cI cX) r σ') args s 0 0 A) 12 D A (wC ad cI cX) σ 139 [(1, .long v1), (3, .long v3)] [] := by
  unfold mX2_inseparable_L139 at h
  refine x_lload_n (pc := 139) X dX2_inseparable_139 rfl 0 rfl ?_
  refine x_lload_n (pc := 140) X dX2_inseparable_140 rfl 1 rfl ?_
  refine x_ldc2 (pc := 141) X kcX2_103 dX2_inseparable_141 ?_
  refine x_lxor (pc := 144) X dX2_inseparable_144 ?_
  refine x_land (pc := 145) X dX2_inseparable_145 ?_
  exact x_lret (pc := 146) X hr hl h dX2_inseparable_146
set_option maxRecDepth 100000 in
set_option maxHeartbeats 4000000 in
theorem wX2_inseparable_L133 {p : Program} {l : Launch} {e : Env} {s : State} {m : MethodId} {args : Array Value} {below : List Frame} {meth : Method} {c : Code} {D : va_G} {A : Nat → Prop} {ad : Nat → Nat} {cI cX : ClassId} {r : Int64} {σ' : xSt} {c7 : Int64 → Int64 → Int32 → xSt → Option (Int64 × xSt)} (X : xX p s m args c cX2_inseparable 12 RX2 D (tyC cI cX) A (wC ad cI cX)) (hr : meth.sig.returnType = (some .long)) (hl : meth.locks = false) (F : Nat) (hc7 : ∀ (v1 : Int64) (v3 : Int64) (v5 : Int32) (σ : xSt), c7 v1 v3 v5 σ = some (r, σ') → xG p l e ({ frames := 2, cells := 0, slots := 0, locals := 55 }) s m args below meth c (MQ below (xQl D A (wC ad cI cX) r σ') args s 0 0 A) 12 D A (wC ad cI cX) σ 7 [(0, .ref (ad 1)), (1, .long v1), (3, .long v3), (5, .int v5)] []) (v1 : Int64) (v3 : Int64) (v5 : Int32) (σ : xSt) (h : mX2_inseparable_L133 F c7 v1 v3 v5 σ = some (r, σ')) : xG p l e ({ frames := 2, cells := 0, slots := 0, locals := 55 }) s m args below meth c (MQ below (xQl D A (wC ad cI cX) r σ') args s 0 0 A) 12 D A (wC ad cI cX) σ 133 [(0, .ref (ad 1)), (1, .long v1), (3, .long v3), (5, .int v5)] [] := by
  unfold mX2_inseparable_L133 at h
  refine x_iinc (pc := 133) (v := (v5 + 1)) (lv' := [(5, .int (v5 + 1)), (0, .ref (ad 1)), (1, .long v1), (3, .long v3)]) X dX2_inseparable_133 3 rfl rfl (by decide) rfl ?_
  refine x_goto (pc := 136) X 7 dX2_inseparable_136 (by decide) ?_
  refine x_sub [1, 2, 3, 0] rfl ?_
  exact hc7 _ _ _ _ h
set_option maxRecDepth 100000 in
set_option maxHeartbeats 4000000 in
theorem wX2_inseparable_L127 {p : Program} {l : Launch} {e : Env} {s : State} {m : MethodId} {args : Array Value} {below : List Frame} {meth : Method} {c : Code} {D : va_G} {A : Nat → Prop} {ad : Nat → Nat} {cI cX : ClassId} {r : Int64} {σ' : xSt} {c7 : Int64 → Int64 → Int32 → xSt → Option (Int64 × xSt)} {c22 : Int64 → Int64 → Int32 → Int32 → xSt → Option (Int64 × xSt)} (X : xX p s m args c cX2_inseparable 12 RX2 D (tyC cI cX) A (wC ad cI cX)) (hr : meth.sig.returnType = (some .long)) (hl : meth.locks = false) (F : Nat) (hc7 : ∀ (v1 : Int64) (v3 : Int64) (v5 : Int32) (σ : xSt), c7 v1 v3 v5 σ = some (r, σ') → xG p l e ({ frames := 2, cells := 0, slots := 0, locals := 55 }) s m args below meth c (MQ below (xQl D A (wC ad cI cX) r σ') args s 0 0 A) 12 D A (wC ad cI cX) σ 7 [(0, .ref (ad 1)), (1, .long v1), (3, .long v3), (5, .int v5)] []) (hc22 : ∀ (v1 : Int64) (v3 : Int64) (v5 : Int32) (v6 : Int32) (σ : xSt), c22 v1 v3 v5 v6 σ = some (r, σ') → xG p l e ({ frames := 2, cells := 0, slots := 0, locals := 55 }) s m args below meth c (MQ below (xQl D A (wC ad cI cX) r σ') args s 0 0 A) 12 D A (wC ad cI cX) σ 22 [(0, .ref (ad 1)), (1, .long v1), (3, .long v3), (5, .int v5), (6, .int v6)] []) (v1 : Int64) (v3 : Int64) (v5 : Int32) (v6 : Int32) (σ : xSt) (h : mX2_inseparable_L127 F c7 c22 v1 v3 v5 v6 σ = some (r, σ')) : xG p l e ({ frames := 2, cells := 0, slots := 0, locals := 55 }) s m args below meth c (MQ below (xQl D A (wC ad cI cX) r σ') args s 0 0 A) 12 D A (wC ad cI cX) σ 127 [(0, .ref (ad 1)), (1, .long v1), (3, .long v3), (5, .int v5), (6, .int v6)] [] := by
  unfold mX2_inseparable_L127 at h
  refine x_iinc (pc := 127) (v := (v6 + 1)) (lv' := [(6, .int (v6 + 1)), (0, .ref (ad 1)), (1, .long v1), (3, .long v3), (5, .int v5)]) X dX2_inseparable_127 4 rfl rfl (by decide) rfl ?_
  refine x_goto (pc := 130) X 22 dX2_inseparable_130 (by decide) ?_
  refine x_sub [1, 2, 3, 4, 0] rfl ?_
  exact hc22 _ _ _ _ _ h
set_option maxRecDepth 100000 in
set_option maxHeartbeats 4000000 in
theorem wX2_inseparable_L121 {p : Program} {l : Launch} {e : Env} {s : State} {m : MethodId} {args : Array Value} {below : List Frame} {meth : Method} {c : Code} {D : va_G} {A : Nat → Prop} {ad : Nat → Nat} {cI cX : ClassId} {r : Int64} {σ' : xSt} {c7 : Int64 → Int64 → Int32 → xSt → Option (Int64 × xSt)} {c22 : Int64 → Int64 → Int32 → Int32 → xSt → Option (Int64 × xSt)} {c43 : Int64 → Int64 → Int32 → Int32 → Int32 → Int32 → xSt → Option (Int64 × xSt)} (X : xX p s m args c cX2_inseparable 12 RX2 D (tyC cI cX) A (wC ad cI cX)) (hr : meth.sig.returnType = (some .long)) (hl : meth.locks = false) (F : Nat) (hc7 : ∀ (v1 : Int64) (v3 : Int64) (v5 : Int32) (σ : xSt), c7 v1 v3 v5 σ = some (r, σ') → xG p l e ({ frames := 2, cells := 0, slots := 0, locals := 55 }) s m args below meth c (MQ below (xQl D A (wC ad cI cX) r σ') args s 0 0 A) 12 D A (wC ad cI cX) σ 7 [(0, .ref (ad 1)), (1, .long v1), (3, .long v3), (5, .int v5)] []) (hc22 : ∀ (v1 : Int64) (v3 : Int64) (v5 : Int32) (v6 : Int32) (σ : xSt), c22 v1 v3 v5 v6 σ = some (r, σ') → xG p l e ({ frames := 2, cells := 0, slots := 0, locals := 55 }) s m args below meth c (MQ below (xQl D A (wC ad cI cX) r σ') args s 0 0 A) 12 D A (wC ad cI cX) σ 22 [(0, .ref (ad 1)), (1, .long v1), (3, .long v3), (5, .int v5), (6, .int v6)] []) (hc43 : ∀ (v1 : Int64) (v3 : Int64) (v5 : Int32) (v6 : Int32) (v7 : Int32) (v8 : Int32) (σ : xSt), c43 v1 v3 v5 v6 v7 v8 σ = some (r, σ') → xG p l e ({ frames := 2, cells := 0, slots := 0, locals := 55 }) s m args below meth c (MQ below (xQl D A (wC ad cI cX) r σ') args s 0 0 A) 12 D A (wC ad cI cX) σ 43 [(0, .ref (ad 1)), (1, .long v1), (3, .long v3), (5, .int v5), (6, .int v6), (7, .int v7), (8, .int v8)] []) (v1 : Int64) (v3 : Int64) (v5 : Int32) (v6 : Int32) (v7 : Int32) (v8 : Int32) (σ : xSt) (h : mX2_inseparable_L121 F c7 c22 c43 v1 v3 v5 v6 v7 v8 σ = some (r, σ')) : xG p l e ({ frames := 2, cells := 0, slots := 0, locals := 55 }) s m args below meth c (MQ below (xQl D A (wC ad cI cX) r σ') args s 0 0 A) 12 D A (wC ad cI cX) σ 121 [(0, .ref (ad 1)), (1, .long v1), (3, .long v3), (5, .int v5), (6, .int v6), (7, .int v7), (8, .int v8)] [] := by
  unfold mX2_inseparable_L121 at h
  refine x_iinc (pc := 121) (v := (v8 + 1)) (lv' := [(8, .int (v8 + 1)), (0, .ref (ad 1)), (1, .long v1), (3, .long v3), (5, .int v5), (6, .int v6), (7, .int v7)]) X dX2_inseparable_121 6 rfl rfl (by decide) rfl ?_
  refine x_goto (pc := 124) X 43 dX2_inseparable_124 (by decide) ?_
  refine x_sub [1, 2, 3, 4, 5, 6, 0] rfl ?_
  exact hc43 _ _ _ _ _ _ _ h
set_option maxRecDepth 100000 in
set_option maxHeartbeats 4000000 in
theorem wX2_inseparable_L115 {p : Program} {l : Launch} {e : Env} {s : State} {m : MethodId} {args : Array Value} {below : List Frame} {meth : Method} {c : Code} {D : va_G} {A : Nat → Prop} {ad : Nat → Nat} {cI cX : ClassId} {r : Int64} {σ' : xSt} {c7 : Int64 → Int64 → Int32 → xSt → Option (Int64 × xSt)} {c22 : Int64 → Int64 → Int32 → Int32 → xSt → Option (Int64 × xSt)} {c43 : Int64 → Int64 → Int32 → Int32 → Int32 → Int32 → xSt → Option (Int64 × xSt)} {c56 : Int64 → Int64 → Int32 → Int32 → Int32 → Int32 → Int32 → xSt → Option (Int64 × xSt)} (X : xX p s m args c cX2_inseparable 12 RX2 D (tyC cI cX) A (wC ad cI cX)) (hr : meth.sig.returnType = (some .long)) (hl : meth.locks = false) (F : Nat) (hc7 : ∀ (v1 : Int64) (v3 : Int64) (v5 : Int32) (σ : xSt), c7 v1 v3 v5 σ = some (r, σ') → xG p l e ({ frames := 2, cells := 0, slots := 0, locals := 55 }) s m args below meth c (MQ below (xQl D A (wC ad cI cX) r σ') args s 0 0 A) 12 D A (wC ad cI cX) σ 7 [(0, .ref (ad 1)), (1, .long v1), (3, .long v3), (5, .int v5)] []) (hc22 : ∀ (v1 : Int64) (v3 : Int64) (v5 : Int32) (v6 : Int32) (σ : xSt), c22 v1 v3 v5 v6 σ = some (r, σ') → xG p l e ({ frames := 2, cells := 0, slots := 0, locals := 55 }) s m args below meth c (MQ below (xQl D A (wC ad cI cX) r σ') args s 0 0 A) 12 D A (wC ad cI cX) σ 22 [(0, .ref (ad 1)), (1, .long v1), (3, .long v3), (5, .int v5), (6, .int v6)] []) (hc43 : ∀ (v1 : Int64) (v3 : Int64) (v5 : Int32) (v6 : Int32) (v7 : Int32) (v8 : Int32) (σ : xSt), c43 v1 v3 v5 v6 v7 v8 σ = some (r, σ') → xG p l e ({ frames := 2, cells := 0, slots := 0, locals := 55 }) s m args below meth c (MQ below (xQl D A (wC ad cI cX) r σ') args s 0 0 A) 12 D A (wC ad cI cX) σ 43 [(0, .ref (ad 1)), (1, .long v1), (3, .long v3), (5, .int v5), (6, .int v6), (7, .int v7), (8, .int v8)] []) (hc56 : ∀ (v1 : Int64) (v3 : Int64) (v5 : Int32) (v6 : Int32) (v7 : Int32) (v8 : Int32) (v9 : Int32) (σ : xSt), c56 v1 v3 v5 v6 v7 v8 v9 σ = some (r, σ') → xG p l e ({ frames := 2, cells := 0, slots := 0, locals := 55 }) s m args below meth c (MQ below (xQl D A (wC ad cI cX) r σ') args s 0 0 A) 12 D A (wC ad cI cX) σ 56 [(0, .ref (ad 1)), (1, .long v1), (3, .long v3), (5, .int v5), (6, .int v6), (7, .int v7), (8, .int v8), (9, .int v9)] []) (v1 : Int64) (v3 : Int64) (v5 : Int32) (v6 : Int32) (v7 : Int32) (v8 : Int32) (v9 : Int32) (σ : xSt) (h : mX2_inseparable_L115 F c7 c22 c43 c56 v1 v3 v5 v6 v7 v8 v9 σ = some (r, σ')) : xG p l e ({ frames := 2, cells := 0, slots := 0, locals := 55 }) s m args below meth c (MQ below (xQl D A (wC ad cI cX) r σ') args s 0 0 A) 12 D A (wC ad cI cX) σ 115 [(0, .ref (ad 1)), (1, .long v1), (3, .long v3), (5, .int v5), (6, .int v6), (7, .int v7), (8, .int v8), (9, .int v9)] [] := by
  unfold mX2_inseparable_L115 at h
  refine x_iinc (pc := 115) (v := (v9 + 1)) (lv' := [(9, .int (v9 + 1)), (0, .ref (ad 1)), (1, .long v1), (3, .long v3), (5, .int v5), (6, .int v6), (7, .int v7), (8, .int v8)]) X dX2_inseparable_115 7 rfl rfl (by decide) rfl ?_
  refine x_goto (pc := 118) X 56 dX2_inseparable_118 (by decide) ?_
  refine x_sub [1, 2, 3, 4, 5, 6, 7, 0] rfl ?_
  exact hc56 _ _ _ _ _ _ _ _ h
set_option maxRecDepth 100000 in
set_option maxHeartbeats 4000000 in
theorem wX2_inseparable_S56 {p : Program} {l : Launch} {e : Env} {s : State} {m : MethodId} {args : Array Value} {below : List Frame} {meth : Method} {c : Code} {D : va_G} {A : Nat → Prop} {ad : Nat → Nat} {cI cX : ClassId} {r : Int64} {σ' : xSt} {c7 : Int64 → Int64 → Int32 → xSt → Option (Int64 × xSt)} {c22 : Int64 → Int64 → Int32 → Int32 → xSt → Option (Int64 × xSt)} {c43 : Int64 → Int64 → Int32 → Int32 → Int32 → Int32 → xSt → Option (Int64 × xSt)} {c56 : Int64 → Int64 → Int32 → Int32 → Int32 → Int32 → Int32 → xSt → Option (Int64 × xSt)} (X : xX p s m args c cX2_inseparable 12 RX2 D (tyC cI cX) A (wC ad cI cX)) (hr : meth.sig.returnType = (some .long)) (hl : meth.locks = false) (F : Nat) (hc7 : ∀ (v1 : Int64) (v3 : Int64) (v5 : Int32) (σ : xSt), c7 v1 v3 v5 σ = some (r, σ') → xG p l e ({ frames := 2, cells := 0, slots := 0, locals := 55 }) s m args below meth c (MQ below (xQl D A (wC ad cI cX) r σ') args s 0 0 A) 12 D A (wC ad cI cX) σ 7 [(0, .ref (ad 1)), (1, .long v1), (3, .long v3), (5, .int v5)] []) (hc22 : ∀ (v1 : Int64) (v3 : Int64) (v5 : Int32) (v6 : Int32) (σ : xSt), c22 v1 v3 v5 v6 σ = some (r, σ') → xG p l e ({ frames := 2, cells := 0, slots := 0, locals := 55 }) s m args below meth c (MQ below (xQl D A (wC ad cI cX) r σ') args s 0 0 A) 12 D A (wC ad cI cX) σ 22 [(0, .ref (ad 1)), (1, .long v1), (3, .long v3), (5, .int v5), (6, .int v6)] []) (hc43 : ∀ (v1 : Int64) (v3 : Int64) (v5 : Int32) (v6 : Int32) (v7 : Int32) (v8 : Int32) (σ : xSt), c43 v1 v3 v5 v6 v7 v8 σ = some (r, σ') → xG p l e ({ frames := 2, cells := 0, slots := 0, locals := 55 }) s m args below meth c (MQ below (xQl D A (wC ad cI cX) r σ') args s 0 0 A) 12 D A (wC ad cI cX) σ 43 [(0, .ref (ad 1)), (1, .long v1), (3, .long v3), (5, .int v5), (6, .int v6), (7, .int v7), (8, .int v8)] []) (hc56 : ∀ (v1 : Int64) (v3 : Int64) (v5 : Int32) (v6 : Int32) (v7 : Int32) (v8 : Int32) (v9 : Int32) (σ : xSt), c56 v1 v3 v5 v6 v7 v8 v9 σ = some (r, σ') → xG p l e ({ frames := 2, cells := 0, slots := 0, locals := 55 }) s m args below meth c (MQ below (xQl D A (wC ad cI cX) r σ') args s 0 0 A) 12 D A (wC ad cI cX) σ 56 [(0, .ref (ad 1)), (1, .long v1), (3, .long v3), (5, .int v5), (6, .int v6), (7, .int v7), (8, .int v8), (9, .int v9)] []) (v1 : Int64) (v3 : Int64) (v5 : Int32) (v6 : Int32) (v7 : Int32) (v8 : Int32) (v9 : Int32) (σ : xSt) (h : mX2_inseparable_S56 F c7 c22 c43 c56 v1 v3 v5 v6 v7 v8 v9 σ = some (r, σ')) : xG p l e ({ frames := 2, cells := 0, slots := 0, locals := 55 }) s m args below meth c (MQ below (xQl D A (wC ad cI cX) r σ') args s 0 0 A) 12 D A (wC ad cI cX) σ 56 [(0, .ref (ad 1)), (1, .long v1), (3, .long v3), (5, .int v5), (6, .int v6), (7, .int v7), (8, .int v8), (9, .int v9)] [] := by
  unfold mX2_inseparable_S56 at h
  refine x_iload (pc := 56) X dX2_inseparable_56 7 rfl ?_
  refine x_bipush (pc := 58) (v := 8) X dX2_inseparable_58 (by decide) ?_
  refine x_icmp_ge (pc := 60) X 121 dX2_inseparable_60 (by decide) (fun hc => ?_) (fun hc => ?_)
  · have h := xit hc h
    refine x_sub [0, 1, 2, 3, 4, 5, 6] rfl ?_
    exact wX2_inseparable_L121 X hr hl F hc7 hc22 hc43 _ _ _ _ _ _ _ h
  · have h := xif hc h
    refine x_lconst (pc := 63) (v := 1) X dX2_inseparable_63 rfl ?_
    refine x_bipush (pc := 64) (v := 8) X dX2_inseparable_64 (by decide) ?_
    refine x_iload (pc := 66) X dX2_inseparable_66 6 rfl ?_
    refine x_imul (pc := 68) X dX2_inseparable_68 ?_
    refine x_iload (pc := 69) X dX2_inseparable_69 7 rfl ?_
    refine x_iadd (pc := 71) X dX2_inseparable_71 ?_
    refine x_lshl (pc := 72) X dX2_inseparable_72 ?_
    refine x_lstore (pc := 73) (lv' := [(10, .long (1 <<< (Int32.toInt64 ((8 * v8) + v9) &&& 63))), (0, .ref (ad 1)), (1, .long v1), (3, .long v3), (5, .int v5), (6, .int v6), (7, .int v7), (8, .int v8), (9, .int v9)]) X dX2_inseparable_73 (by decide) rfl ?_
    refine x_iload (pc := 75) X dX2_inseparable_75 6 rfl ?_
    refine x_iload (pc := 77) X dX2_inseparable_77 7 rfl ?_
    obtain ⟨r79, σ79, hq79, h⟩ := xb2_some h
    refine x_calliN (pc := 79) (As := [.int v7, .int v8]) (rest := []) X (kX8_holds l X.2.2.2.2.2.2.2 F _ _ _ _ _ hq79) kvX2_90 ⟨rfl, rfl, Nat.le_of_ble_eq_true rfl, Nat.le_of_ble_eq_true rfl⟩ rfl rfl (Nat.le_of_ble_eq_true rfl) dX2_inseparable_79 ?_
    refine x_iload (pc := 82) X dX2_inseparable_82 6 rfl ?_
    refine x_iload (pc := 84) X dX2_inseparable_84 8 rfl ?_
    obtain ⟨r86, σ86, hq86, h⟩ := xb2_some h
    refine x_calliN (pc := 86) (As := [.int v7, .int v9]) (rest := [.int r79]) X (kX8_holds l X.2.2.2.2.2.2.2 F _ _ _ _ _ hq86) kvX2_90 ⟨rfl, rfl, Nat.le_of_ble_eq_true rfl, Nat.le_of_ble_eq_true rfl⟩ rfl rfl (Nat.le_of_ble_eq_true rfl) dX2_inseparable_86 ?_
    refine x_icmp_eq (pc := 89) X 100 dX2_inseparable_89 (by decide) (fun hc => ?_) (fun hc => ?_)
    · have h := xit hc h
      refine x_iload (pc := 100) X dX2_inseparable_100 6 rfl ?_
      refine x_iload (pc := 102) X dX2_inseparable_102 7 rfl ?_
      obtain ⟨r104, σ104, hq104, h⟩ := xb2_some h
      refine x_calliN (pc := 104) (As := [.int v7, .int v8]) (rest := []) X (kX8_holds l X.2.2.2.2.2.2.2 F _ _ _ _ _ hq104) kvX2_90 ⟨rfl, rfl, Nat.le_of_ble_eq_true rfl, Nat.le_of_ble_eq_true rfl⟩ rfl rfl (Nat.le_of_ble_eq_true rfl) dX2_inseparable_104 ?_
      refine x_if_eq (pc := 107) X 115 dX2_inseparable_107 (by decide) (fun hc => ?_) (fun hc => ?_)
      · have h := xit hc h
        refine x_sub [1, 2, 3, 4, 5, 6, 7, 8] rfl ?_
        exact wX2_inseparable_L115 X hr hl F hc7 hc22 hc43 hc56 _ _ _ _ _ _ _ _ h
      · have h := xif hc h
        refine x_lload_n (pc := 110) X dX2_inseparable_110 rfl 2 rfl ?_
        refine x_lload (pc := 111) X dX2_inseparable_111 0 rfl ?_
        refine x_lor (pc := 113) X dX2_inseparable_113 ?_
        refine x_lstore_n (pc := 114) (lv' := [(1, .long (v1 ||| (1 <<< (Int32.toInt64 ((8 * v8) + v9) &&& 63)))), (10, .long (1 <<< (Int32.toInt64 ((8 * v8) + v9) &&& 63))), (0, .ref (ad 1)), (3, .long v3), (5, .int v5), (6, .int v6), (7, .int v7), (8, .int v8), (9, .int v9)]) X dX2_inseparable_114 rfl (by decide) rfl ?_
        refine x_sub [2, 0, 3, 4, 5, 6, 7, 8] rfl ?_
        exact wX2_inseparable_L115 X hr hl F hc7 hc22 hc43 hc56 _ _ _ _ _ _ _ _ h
    · have h := xif hc h
      refine x_lload_n (pc := 92) X dX2_inseparable_92 rfl 3 rfl ?_
      refine x_lload (pc := 93) X dX2_inseparable_93 0 rfl ?_
      refine x_lor (pc := 95) X dX2_inseparable_95 ?_
      refine x_lstore_n (pc := 96) (lv' := [(3, .long (v3 ||| (1 <<< (Int32.toInt64 ((8 * v8) + v9) &&& 63)))), (10, .long (1 <<< (Int32.toInt64 ((8 * v8) + v9) &&& 63))), (0, .ref (ad 1)), (1, .long v1), (5, .int v5), (6, .int v6), (7, .int v7), (8, .int v8), (9, .int v9)]) X dX2_inseparable_96 rfl (by decide) rfl ?_
      refine x_goto (pc := 97) X 115 dX2_inseparable_97 (by decide) ?_
      refine x_sub [2, 3, 0, 4, 5, 6, 7, 8] rfl ?_
      exact wX2_inseparable_L115 X hr hl F hc7 hc22 hc43 hc56 _ _ _ _ _ _ _ _ h
theorem wX2_inseparable_L56 {p : Program} {l : Launch} {e : Env} {s : State} {m : MethodId} {args : Array Value} {below : List Frame} {meth : Method} {c : Code} {D : va_G} {A : Nat → Prop} {ad : Nat → Nat} {cI cX : ClassId} {r : Int64} {σ' : xSt} {c7 : Int64 → Int64 → Int32 → xSt → Option (Int64 × xSt)} {c22 : Int64 → Int64 → Int32 → Int32 → xSt → Option (Int64 × xSt)} {c43 : Int64 → Int64 → Int32 → Int32 → Int32 → Int32 → xSt → Option (Int64 × xSt)} (X : xX p s m args c cX2_inseparable 12 RX2 D (tyC cI cX) A (wC ad cI cX)) (hr : meth.sig.returnType = (some .long)) (hl : meth.locks = false) (F : Nat) (hc7 : ∀ (v1 : Int64) (v3 : Int64) (v5 : Int32) (σ : xSt), c7 v1 v3 v5 σ = some (r, σ') → xG p l e ({ frames := 2, cells := 0, slots := 0, locals := 55 }) s m args below meth c (MQ below (xQl D A (wC ad cI cX) r σ') args s 0 0 A) 12 D A (wC ad cI cX) σ 7 [(0, .ref (ad 1)), (1, .long v1), (3, .long v3), (5, .int v5)] []) (hc22 : ∀ (v1 : Int64) (v3 : Int64) (v5 : Int32) (v6 : Int32) (σ : xSt), c22 v1 v3 v5 v6 σ = some (r, σ') → xG p l e ({ frames := 2, cells := 0, slots := 0, locals := 55 }) s m args below meth c (MQ below (xQl D A (wC ad cI cX) r σ') args s 0 0 A) 12 D A (wC ad cI cX) σ 22 [(0, .ref (ad 1)), (1, .long v1), (3, .long v3), (5, .int v5), (6, .int v6)] []) (hc43 : ∀ (v1 : Int64) (v3 : Int64) (v5 : Int32) (v6 : Int32) (v7 : Int32) (v8 : Int32) (σ : xSt), c43 v1 v3 v5 v6 v7 v8 σ = some (r, σ') → xG p l e ({ frames := 2, cells := 0, slots := 0, locals := 55 }) s m args below meth c (MQ below (xQl D A (wC ad cI cX) r σ') args s 0 0 A) 12 D A (wC ad cI cX) σ 43 [(0, .ref (ad 1)), (1, .long v1), (3, .long v3), (5, .int v5), (6, .int v6), (7, .int v7), (8, .int v8)] []) : ∀ (n : Nat) (v1 : Int64) (v3 : Int64) (v5 : Int32) (v6 : Int32) (v7 : Int32) (v8 : Int32) (v9 : Int32) (σ : xSt), mX2_inseparable_L56 F c7 c22 c43 n v1 v3 v5 v6 v7 v8 v9 σ = some (r, σ') → xG p l e ({ frames := 2, cells := 0, slots := 0, locals := 55 }) s m args below meth c (MQ below (xQl D A (wC ad cI cX) r σ') args s 0 0 A) 12 D A (wC ad cI cX) σ 56 [(0, .ref (ad 1)), (1, .long v1), (3, .long v3), (5, .int v5), (6, .int v6), (7, .int v7), (8, .int v8), (9, .int v9)] [] := by
  intro n
  induction n with
  | zero => intro v1 v3 v5 v6 v7 v8 v9 σ h; cases h
  | succ n ih => intro v1 v3 v5 v6 v7 v8 v9 σ h; exact wX2_inseparable_S56 X hr hl F hc7 hc22 hc43 ih v1 v3 v5 v6 v7 v8 v9 σ h
set_option maxRecDepth 100000 in
set_option maxHeartbeats 4000000 in
theorem wX2_inseparable_S43 {p : Program} {l : Launch} {e : Env} {s : State} {m : MethodId} {args : Array Value} {below : List Frame} {meth : Method} {c : Code} {D : va_G} {A : Nat → Prop} {ad : Nat → Nat} {cI cX : ClassId} {r : Int64} {σ' : xSt} {c7 : Int64 → Int64 → Int32 → xSt → Option (Int64 × xSt)} {c22 : Int64 → Int64 → Int32 → Int32 → xSt → Option (Int64 × xSt)} {c43 : Int64 → Int64 → Int32 → Int32 → Int32 → Int32 → xSt → Option (Int64 × xSt)} (X : xX p s m args c cX2_inseparable 12 RX2 D (tyC cI cX) A (wC ad cI cX)) (hr : meth.sig.returnType = (some .long)) (hl : meth.locks = false) (F : Nat) (hc7 : ∀ (v1 : Int64) (v3 : Int64) (v5 : Int32) (σ : xSt), c7 v1 v3 v5 σ = some (r, σ') → xG p l e ({ frames := 2, cells := 0, slots := 0, locals := 55 }) s m args below meth c (MQ below (xQl D A (wC ad cI cX) r σ') args s 0 0 A) 12 D A (wC ad cI cX) σ 7 [(0, .ref (ad 1)), (1, .long v1), (3, .long v3), (5, .int v5)] []) (hc22 : ∀ (v1 : Int64) (v3 : Int64) (v5 : Int32) (v6 : Int32) (σ : xSt), c22 v1 v3 v5 v6 σ = some (r, σ') → xG p l e ({ frames := 2, cells := 0, slots := 0, locals := 55 }) s m args below meth c (MQ below (xQl D A (wC ad cI cX) r σ') args s 0 0 A) 12 D A (wC ad cI cX) σ 22 [(0, .ref (ad 1)), (1, .long v1), (3, .long v3), (5, .int v5), (6, .int v6)] []) (hc43 : ∀ (v1 : Int64) (v3 : Int64) (v5 : Int32) (v6 : Int32) (v7 : Int32) (v8 : Int32) (σ : xSt), c43 v1 v3 v5 v6 v7 v8 σ = some (r, σ') → xG p l e ({ frames := 2, cells := 0, slots := 0, locals := 55 }) s m args below meth c (MQ below (xQl D A (wC ad cI cX) r σ') args s 0 0 A) 12 D A (wC ad cI cX) σ 43 [(0, .ref (ad 1)), (1, .long v1), (3, .long v3), (5, .int v5), (6, .int v6), (7, .int v7), (8, .int v8)] []) (v1 : Int64) (v3 : Int64) (v5 : Int32) (v6 : Int32) (v7 : Int32) (v8 : Int32) (σ : xSt) (h : mX2_inseparable_S43 F c7 c22 c43 v1 v3 v5 v6 v7 v8 σ = some (r, σ')) : xG p l e ({ frames := 2, cells := 0, slots := 0, locals := 55 }) s m args below meth c (MQ below (xQl D A (wC ad cI cX) r σ') args s 0 0 A) 12 D A (wC ad cI cX) σ 43 [(0, .ref (ad 1)), (1, .long v1), (3, .long v3), (5, .int v5), (6, .int v6), (7, .int v7), (8, .int v8)] [] := by
  unfold mX2_inseparable_S43 at h
  refine x_iload (pc := 43) X dX2_inseparable_43 6 rfl ?_
  refine x_bipush (pc := 45) (v := 8) X dX2_inseparable_45 (by decide) ?_
  refine x_icmp_ge (pc := 47) X 127 dX2_inseparable_47 (by decide) (fun hc => ?_) (fun hc => ?_)
  · have h := xit hc h
    refine x_sub [0, 1, 2, 3, 4] rfl ?_
    exact wX2_inseparable_L127 X hr hl F hc7 hc22 _ _ _ _ _ h
  · have h := xif hc h
    refine x_iload (pc := 50) X dX2_inseparable_50 6 rfl ?_
    refine x_iconst (pc := 52) (v := 1) X dX2_inseparable_52 (by decide) ?_
    refine x_iadd (pc := 53) X dX2_inseparable_53 ?_
    refine x_istore (pc := 54) (lv' := [(9, .int (v8 + 1)), (0, .ref (ad 1)), (1, .long v1), (3, .long v3), (5, .int v5), (6, .int v6), (7, .int v7), (8, .int v8)]) X dX2_inseparable_54 (by decide) rfl ?_
    refine x_sub [1, 2, 3, 4, 5, 6, 7, 0] rfl ?_
    exact wX2_inseparable_L56 X hr hl F hc7 hc22 hc43 F _ _ _ _ _ _ _ _ h
theorem wX2_inseparable_L43 {p : Program} {l : Launch} {e : Env} {s : State} {m : MethodId} {args : Array Value} {below : List Frame} {meth : Method} {c : Code} {D : va_G} {A : Nat → Prop} {ad : Nat → Nat} {cI cX : ClassId} {r : Int64} {σ' : xSt} {c7 : Int64 → Int64 → Int32 → xSt → Option (Int64 × xSt)} {c22 : Int64 → Int64 → Int32 → Int32 → xSt → Option (Int64 × xSt)} (X : xX p s m args c cX2_inseparable 12 RX2 D (tyC cI cX) A (wC ad cI cX)) (hr : meth.sig.returnType = (some .long)) (hl : meth.locks = false) (F : Nat) (hc7 : ∀ (v1 : Int64) (v3 : Int64) (v5 : Int32) (σ : xSt), c7 v1 v3 v5 σ = some (r, σ') → xG p l e ({ frames := 2, cells := 0, slots := 0, locals := 55 }) s m args below meth c (MQ below (xQl D A (wC ad cI cX) r σ') args s 0 0 A) 12 D A (wC ad cI cX) σ 7 [(0, .ref (ad 1)), (1, .long v1), (3, .long v3), (5, .int v5)] []) (hc22 : ∀ (v1 : Int64) (v3 : Int64) (v5 : Int32) (v6 : Int32) (σ : xSt), c22 v1 v3 v5 v6 σ = some (r, σ') → xG p l e ({ frames := 2, cells := 0, slots := 0, locals := 55 }) s m args below meth c (MQ below (xQl D A (wC ad cI cX) r σ') args s 0 0 A) 12 D A (wC ad cI cX) σ 22 [(0, .ref (ad 1)), (1, .long v1), (3, .long v3), (5, .int v5), (6, .int v6)] []) : ∀ (n : Nat) (v1 : Int64) (v3 : Int64) (v5 : Int32) (v6 : Int32) (v7 : Int32) (v8 : Int32) (σ : xSt), mX2_inseparable_L43 F c7 c22 n v1 v3 v5 v6 v7 v8 σ = some (r, σ') → xG p l e ({ frames := 2, cells := 0, slots := 0, locals := 55 }) s m args below meth c (MQ below (xQl D A (wC ad cI cX) r σ') args s 0 0 A) 12 D A (wC ad cI cX) σ 43 [(0, .ref (ad 1)), (1, .long v1), (3, .long v3), (5, .int v5), (6, .int v6), (7, .int v7), (8, .int v8)] [] := by
  intro n
  induction n with
  | zero => intro v1 v3 v5 v6 v7 v8 σ h; cases h
  | succ n ih => intro v1 v3 v5 v6 v7 v8 σ h; exact wX2_inseparable_S43 X hr hl F hc7 hc22 ih v1 v3 v5 v6 v7 v8 σ h
set_option maxRecDepth 100000 in
set_option maxHeartbeats 4000000 in
theorem wX2_inseparable_S22 {p : Program} {l : Launch} {e : Env} {s : State} {m : MethodId} {args : Array Value} {below : List Frame} {meth : Method} {c : Code} {D : va_G} {A : Nat → Prop} {ad : Nat → Nat} {cI cX : ClassId} {r : Int64} {σ' : xSt} {c7 : Int64 → Int64 → Int32 → xSt → Option (Int64 × xSt)} {c22 : Int64 → Int64 → Int32 → Int32 → xSt → Option (Int64 × xSt)} (X : xX p s m args c cX2_inseparable 12 RX2 D (tyC cI cX) A (wC ad cI cX)) (hr : meth.sig.returnType = (some .long)) (hl : meth.locks = false) (F : Nat) (hc7 : ∀ (v1 : Int64) (v3 : Int64) (v5 : Int32) (σ : xSt), c7 v1 v3 v5 σ = some (r, σ') → xG p l e ({ frames := 2, cells := 0, slots := 0, locals := 55 }) s m args below meth c (MQ below (xQl D A (wC ad cI cX) r σ') args s 0 0 A) 12 D A (wC ad cI cX) σ 7 [(0, .ref (ad 1)), (1, .long v1), (3, .long v3), (5, .int v5)] []) (hc22 : ∀ (v1 : Int64) (v3 : Int64) (v5 : Int32) (v6 : Int32) (σ : xSt), c22 v1 v3 v5 v6 σ = some (r, σ') → xG p l e ({ frames := 2, cells := 0, slots := 0, locals := 55 }) s m args below meth c (MQ below (xQl D A (wC ad cI cX) r σ') args s 0 0 A) 12 D A (wC ad cI cX) σ 22 [(0, .ref (ad 1)), (1, .long v1), (3, .long v3), (5, .int v5), (6, .int v6)] []) (v1 : Int64) (v3 : Int64) (v5 : Int32) (v6 : Int32) (σ : xSt) (h : mX2_inseparable_S22 F c7 c22 v1 v3 v5 v6 σ = some (r, σ')) : xG p l e ({ frames := 2, cells := 0, slots := 0, locals := 55 }) s m args below meth c (MQ below (xQl D A (wC ad cI cX) r σ') args s 0 0 A) 12 D A (wC ad cI cX) σ 22 [(0, .ref (ad 1)), (1, .long v1), (3, .long v3), (5, .int v5), (6, .int v6)] [] := by
  unfold mX2_inseparable_S22 at h
  refine x_iload (pc := 22) X dX2_inseparable_22 4 rfl ?_
  refine x_bipush (pc := 24) (v := 24) X dX2_inseparable_24 (by decide) ?_
  refine x_icmp_ge (pc := 26) X 133 dX2_inseparable_26 (by decide) (fun hc => ?_) (fun hc => ?_)
  · have h := xit hc h
    refine x_sub [0, 1, 2, 3] rfl ?_
    exact wX2_inseparable_L133 X hr hl F hc7 _ _ _ _ h
  · have h := xif hc h
    refine x_aload_n (pc := 29) X dX2_inseparable_29 rfl 0 rfl ?_
    refine x_iload (pc := 30) X dX2_inseparable_30 3 rfl ?_
    refine x_iload (pc := 32) X dX2_inseparable_32 4 rfl ?_
    refine x_iconst (pc := 34) (v := 0) X dX2_inseparable_34 (by decide) ?_
    obtain ⟨r35, σ35, hq35, h⟩ := xb2_some h
    refine x_calliV (pc := 35) (As := [.int v5, .int v6, .int 0]) (rest := []) X (kX2_tellsBehind l X.2.2.2.2.2.2.2 F _ _ _ _ _ _ hq35) kvX2_98 rfl (qX2) ⟨rfl, rfl, Nat.le_of_ble_eq_true rfl, Nat.le_of_ble_eq_true rfl⟩ rfl rfl (Nat.le_of_ble_eq_true rfl) dX2_inseparable_35 ?_
    refine x_istore (pc := 38) (lv' := [(7, .int r35), (0, .ref (ad 1)), (1, .long v1), (3, .long v3), (5, .int v5), (6, .int v6)]) X dX2_inseparable_38 (by decide) rfl ?_
    refine x_iconst (pc := 40) (v := 0) X dX2_inseparable_40 (by decide) ?_
    refine x_istore (pc := 41) (lv' := [(8, .int 0), (7, .int r35), (0, .ref (ad 1)), (1, .long v1), (3, .long v3), (5, .int v5), (6, .int v6)]) X dX2_inseparable_41 (by decide) rfl ?_
    refine x_sub [2, 3, 4, 5, 6, 1, 0] rfl ?_
    exact wX2_inseparable_L43 X hr hl F hc7 hc22 F _ _ _ _ _ _ _ h
theorem wX2_inseparable_L22 {p : Program} {l : Launch} {e : Env} {s : State} {m : MethodId} {args : Array Value} {below : List Frame} {meth : Method} {c : Code} {D : va_G} {A : Nat → Prop} {ad : Nat → Nat} {cI cX : ClassId} {r : Int64} {σ' : xSt} {c7 : Int64 → Int64 → Int32 → xSt → Option (Int64 × xSt)} (X : xX p s m args c cX2_inseparable 12 RX2 D (tyC cI cX) A (wC ad cI cX)) (hr : meth.sig.returnType = (some .long)) (hl : meth.locks = false) (F : Nat) (hc7 : ∀ (v1 : Int64) (v3 : Int64) (v5 : Int32) (σ : xSt), c7 v1 v3 v5 σ = some (r, σ') → xG p l e ({ frames := 2, cells := 0, slots := 0, locals := 55 }) s m args below meth c (MQ below (xQl D A (wC ad cI cX) r σ') args s 0 0 A) 12 D A (wC ad cI cX) σ 7 [(0, .ref (ad 1)), (1, .long v1), (3, .long v3), (5, .int v5)] []) : ∀ (n : Nat) (v1 : Int64) (v3 : Int64) (v5 : Int32) (v6 : Int32) (σ : xSt), mX2_inseparable_L22 F c7 n v1 v3 v5 v6 σ = some (r, σ') → xG p l e ({ frames := 2, cells := 0, slots := 0, locals := 55 }) s m args below meth c (MQ below (xQl D A (wC ad cI cX) r σ') args s 0 0 A) 12 D A (wC ad cI cX) σ 22 [(0, .ref (ad 1)), (1, .long v1), (3, .long v3), (5, .int v5), (6, .int v6)] [] := by
  intro n
  induction n with
  | zero => intro v1 v3 v5 v6 σ h; cases h
  | succ n ih => intro v1 v3 v5 v6 σ h; exact wX2_inseparable_S22 X hr hl F hc7 ih v1 v3 v5 v6 σ h
set_option maxRecDepth 100000 in
set_option maxHeartbeats 4000000 in
theorem wX2_inseparable_S7 {p : Program} {l : Launch} {e : Env} {s : State} {m : MethodId} {args : Array Value} {below : List Frame} {meth : Method} {c : Code} {D : va_G} {A : Nat → Prop} {ad : Nat → Nat} {cI cX : ClassId} {r : Int64} {σ' : xSt} {c7 : Int64 → Int64 → Int32 → xSt → Option (Int64 × xSt)} (X : xX p s m args c cX2_inseparable 12 RX2 D (tyC cI cX) A (wC ad cI cX)) (hr : meth.sig.returnType = (some .long)) (hl : meth.locks = false) (F : Nat) (hc7 : ∀ (v1 : Int64) (v3 : Int64) (v5 : Int32) (σ : xSt), c7 v1 v3 v5 σ = some (r, σ') → xG p l e ({ frames := 2, cells := 0, slots := 0, locals := 55 }) s m args below meth c (MQ below (xQl D A (wC ad cI cX) r σ') args s 0 0 A) 12 D A (wC ad cI cX) σ 7 [(0, .ref (ad 1)), (1, .long v1), (3, .long v3), (5, .int v5)] []) (v1 : Int64) (v3 : Int64) (v5 : Int32) (σ : xSt) (h : mX2_inseparable_S7 F c7 v1 v3 v5 σ = some (r, σ')) : xG p l e ({ frames := 2, cells := 0, slots := 0, locals := 55 }) s m args below meth c (MQ below (xQl D A (wC ad cI cX) r σ') args s 0 0 A) 12 D A (wC ad cI cX) σ 7 [(0, .ref (ad 1)), (1, .long v1), (3, .long v3), (5, .int v5)] [] := by
  unfold mX2_inseparable_S7 at h
  refine x_iload (pc := 7) X dX2_inseparable_7 3 rfl ?_
  refine x_aload_n (pc := 9) X dX2_inseparable_9 rfl 0 rfl ?_
  refine gX2_14 (pc := 10) X dX2_inseparable_10 ?_
  refine gX2_42 (pc := 13) X 0 (by decide) dX2_inseparable_13 ?_
  refine x_icmp_ge (pc := 16) X 139 dX2_inseparable_16 (by decide) (fun hc => ?_) (fun hc => ?_)
  · have h := xit hc h
    refine x_sub [1, 2] rfl ?_
    exact wX2_inseparable_L139 X hr hl F _ _ _ h
  · have h := xif hc h
    refine x_iconst (pc := 19) (v := 0) X dX2_inseparable_19 (by decide) ?_
    refine x_istore (pc := 20) (lv' := [(6, .int 0), (0, .ref (ad 1)), (1, .long v1), (3, .long v3), (5, .int v5)]) X dX2_inseparable_20 (by decide) rfl ?_
    refine x_sub [1, 2, 3, 4, 0] rfl ?_
    exact wX2_inseparable_L22 X hr hl F hc7 F _ _ _ _ _ h
theorem wX2_inseparable_L7 {p : Program} {l : Launch} {e : Env} {s : State} {m : MethodId} {args : Array Value} {below : List Frame} {meth : Method} {c : Code} {D : va_G} {A : Nat → Prop} {ad : Nat → Nat} {cI cX : ClassId} {r : Int64} {σ' : xSt} (X : xX p s m args c cX2_inseparable 12 RX2 D (tyC cI cX) A (wC ad cI cX)) (hr : meth.sig.returnType = (some .long)) (hl : meth.locks = false) (F : Nat) : ∀ (n : Nat) (v1 : Int64) (v3 : Int64) (v5 : Int32) (σ : xSt), mX2_inseparable_L7 F n v1 v3 v5 σ = some (r, σ') → xG p l e ({ frames := 2, cells := 0, slots := 0, locals := 55 }) s m args below meth c (MQ below (xQl D A (wC ad cI cX) r σ') args s 0 0 A) 12 D A (wC ad cI cX) σ 7 [(0, .ref (ad 1)), (1, .long v1), (3, .long v3), (5, .int v5)] [] := by
  intro n
  induction n with
  | zero => intro v1 v3 v5 σ h; cases h
  | succ n ih => intro v1 v3 v5 σ h; exact wX2_inseparable_S7 X hr hl F ih v1 v3 v5 σ h
set_option maxRecDepth 100000 in
set_option maxHeartbeats 4000000 in
theorem kX2_inseparable (l : Launch) {D : va_G} {A : Nat → Prop} {ad : Nat → Nat} {cI cX : ClassId} (hD : ∀ σ, va_D A ((wC ad cI cX) σ)) (F : Nat) (σ : xSt) (r : Int64) (σ' : xSt) (h : mX2_inseparable F σ = some (r, σ')) : xM l yX2_inseparable cX2_inseparable 12 (some .long) ({ frames := 2, cells := 0, slots := 0, locals := 55 }) D (tyC cI cX) A (wC ad cI cX) [.ref (ad 1)] σ (xQl D A (wC ad cI cX) r σ') := by
  refine xM_of (lv := [(0, .ref (ad 1))]) [.ref (ad 1)] (by decide) hD rfl (Nat.le_of_ble_eq_true rfl) ?_
  intro p e s m args below meth c X hr hl
  unfold mX2_inseparable at h
  refine x_lconst (pc := 0) (v := 0) X dX2_inseparable_0 rfl ?_
  refine x_lstore_n (pc := 1) (lv' := [(1, .long 0), (0, .ref (ad 1))]) X dX2_inseparable_1 rfl (by decide) rfl ?_
  refine x_lconst (pc := 2) (v := 0) X dX2_inseparable_2 rfl ?_
  refine x_lstore_n (pc := 3) (lv' := [(3, .long 0), (1, .long 0), (0, .ref (ad 1))]) X dX2_inseparable_3 rfl (by decide) rfl ?_
  refine x_iconst (pc := 4) (v := 0) X dX2_inseparable_4 (by decide) ?_
  refine x_istore (pc := 5) (lv' := [(5, .int 0), (3, .long 0), (1, .long 0), (0, .ref (ad 1))]) X dX2_inseparable_5 (by decide) rfl ?_
  refine x_sub [3, 2, 1, 0] rfl ?_
  exact wX2_inseparable_L7 X hr hl F F _ _ _ _ h
set_option maxRecDepth 100000 in
set_option maxHeartbeats 4000000 in
theorem kX2_nextLot (l : Launch) {D : va_G} {A : Nat → Prop} {ad : Nat → Nat} {cI cX : ClassId} (hD : ∀ σ, va_D A ((wC ad cI cX) σ)) (F : Nat) (v0 : Int32) (σ : xSt) (r : Int32) (σ' : xSt) (h : mX2_nextLot F v0 σ = some (r, σ')) : xM l yX2_nextLot cX2_nextLot 1 (some .int) ({ frames := 0, cells := 0, slots := 0, locals := 0 }) D (tyC cI cX) A (wC ad cI cX) [.int v0] σ (xQi D A (wC ad cI cX) r σ') := by
  refine xM_of (lv := [(0, .int v0)]) [.int v0] (by decide) hD rfl (Nat.le_of_ble_eq_true rfl) ?_
  intro p e s m args below meth c X hr hl
  unfold mX2_nextLot at h
  refine x_ldc (pc := 0) X kcX2_115 dX2_nextLot_0 ?_
  refine x_iload_n (pc := 2) X dX2_nextLot_2 rfl 0 rfl ?_
  refine x_imul (pc := 3) X dX2_nextLot_3 ?_
  refine x_sipush (pc := 4) (v := 12345) X dX2_nextLot_4 (by decide) ?_
  refine x_iadd (pc := 7) X dX2_nextLot_7 ?_
  exact x_iret (pc := 8) X hr hl h dX2_nextLot_8
set_option maxRecDepth 100000 in
set_option maxHeartbeats 4000000 in
theorem wX2_tellsByLot_L138 {p : Program} {l : Launch} {e : Env} {s : State} {m : MethodId} {args : Array Value} {below : List Frame} {meth : Method} {c : Code} {D : va_G} {A : Nat → Prop} {ad : Nat → Nat} {cI cX : ClassId} {r : Int32} {σ' : xSt} (X : xX p s m args c cX2_tellsByLot 8 RX2 D (tyC cI cX) A (wC ad cI cX)) (hr : meth.sig.returnType = (some .int)) (hl : meth.locks = false) (F : Nat) (v6 : Int32) (σ : xSt) (h : mX2_tellsByLot_L138 F v6 σ = some (r, σ')) : xG p l e ({ frames := 2, cells := 0, slots := 0, locals := 55 }) s m args below meth c (MQ below (xQi D A (wC ad cI cX) r σ') args s 0 0 A) 8 D A (wC ad cI cX) σ 138 [(6, .int v6)] [] := by
  unfold mX2_tellsByLot_L138 at h
  refine x_iload (pc := 138) X dX2_tellsByLot_138 0 rfl ?_
  exact x_iret (pc := 140) X hr hl h dX2_tellsByLot_140
set_option maxRecDepth 100000 in
set_option maxHeartbeats 4000000 in
theorem wX2_tellsByLot_S118 {p : Program} {l : Launch} {e : Env} {s : State} {m : MethodId} {args : Array Value} {below : List Frame} {meth : Method} {c : Code} {D : va_G} {A : Nat → Prop} {ad : Nat → Nat} {cI cX : ClassId} {r : Int32} {σ' : xSt} {c118 : Int32 → Int32 → Int32 → xSt → Option (Int32 × xSt)} (X : xX p s m args c cX2_tellsByLot 8 RX2 D (tyC cI cX) A (wC ad cI cX)) (hr : meth.sig.returnType = (some .int)) (hl : meth.locks = false) (F : Nat) (hc118 : ∀ (v4 : Int32) (v6 : Int32) (v7 : Int32) (σ : xSt), c118 v4 v6 v7 σ = some (r, σ') → xG p l e ({ frames := 2, cells := 0, slots := 0, locals := 55 }) s m args below meth c (MQ below (xQi D A (wC ad cI cX) r σ') args s 0 0 A) 8 D A (wC ad cI cX) σ 118 [(0, .ref (ad 1)), (4, .int v4), (6, .int v6), (7, .int v7)] []) (v4 : Int32) (v6 : Int32) (v7 : Int32) (σ : xSt) (h : mX2_tellsByLot_S118 F c118 v4 v6 v7 σ = some (r, σ')) : xG p l e ({ frames := 2, cells := 0, slots := 0, locals := 55 }) s m args below meth c (MQ below (xQi D A (wC ad cI cX) r σ') args s 0 0 A) 8 D A (wC ad cI cX) σ 118 [(0, .ref (ad 1)), (4, .int v4), (6, .int v6), (7, .int v7)] [] := by
  unfold mX2_tellsByLot_S118 at h
  refine x_iload (pc := 118) X dX2_tellsByLot_118 3 rfl ?_
  refine x_iload (pc := 120) X dX2_tellsByLot_120 1 rfl ?_
  refine x_icmp_le (pc := 122) X 138 dX2_tellsByLot_122 (by decide) (fun hc => ?_) (fun hc => ?_)
  · have h := xit hc h
    refine x_sub [2] rfl ?_
    exact wX2_tellsByLot_L138 X hr hl F _ _ h
  · have h := xif hc h
    refine x_aload_n (pc := 125) X dX2_tellsByLot_125 rfl 0 rfl ?_
    refine gX2_28 (pc := 126) X dX2_tellsByLot_126 ?_
    obtain ⟨σ129, hq129, h⟩ := xb1_some h
    refine x_callvV (pc := 129) (As := []) (rest := []) X (kX7_drop l X.2.2.2.2.2.2.2 F 0 (by decide) _ _ hq129) kvX2_112 rfl (qX7 0 (by decide)) ⟨rfl, rfl, Nat.le_of_ble_eq_true rfl, Nat.le_of_ble_eq_true rfl⟩ rfl rfl (Nat.le_of_ble_eq_true rfl) dX2_tellsByLot_129 ?_
    refine x_iinc (pc := 132) (v := (v7 + (-1))) (lv' := [(7, .int (v7 + (-1))), (0, .ref (ad 1)), (4, .int v4), (6, .int v6)]) X dX2_tellsByLot_132 3 rfl rfl (by decide) rfl ?_
    refine x_goto (pc := 135) X 118 dX2_tellsByLot_135 (by decide) ?_
    refine x_sub [1, 2, 3, 0] rfl ?_
    exact hc118 _ _ _ _ h
theorem wX2_tellsByLot_L118 {p : Program} {l : Launch} {e : Env} {s : State} {m : MethodId} {args : Array Value} {below : List Frame} {meth : Method} {c : Code} {D : va_G} {A : Nat → Prop} {ad : Nat → Nat} {cI cX : ClassId} {r : Int32} {σ' : xSt} (X : xX p s m args c cX2_tellsByLot 8 RX2 D (tyC cI cX) A (wC ad cI cX)) (hr : meth.sig.returnType = (some .int)) (hl : meth.locks = false) (F : Nat) : ∀ (n : Nat) (v4 : Int32) (v6 : Int32) (v7 : Int32) (σ : xSt), mX2_tellsByLot_L118 F n v4 v6 v7 σ = some (r, σ') → xG p l e ({ frames := 2, cells := 0, slots := 0, locals := 55 }) s m args below meth c (MQ below (xQi D A (wC ad cI cX) r σ') args s 0 0 A) 8 D A (wC ad cI cX) σ 118 [(0, .ref (ad 1)), (4, .int v4), (6, .int v6), (7, .int v7)] [] := by
  intro n
  induction n with
  | zero => intro v4 v6 v7 σ h; cases h
  | succ n ih => intro v4 v6 v7 σ h; exact wX2_tellsByLot_S118 X hr hl F ih v4 v6 v7 σ h
set_option maxRecDepth 100000 in
set_option maxHeartbeats 4000000 in
theorem wX2_tellsByLot_L100 {p : Program} {l : Launch} {e : Env} {s : State} {m : MethodId} {args : Array Value} {below : List Frame} {meth : Method} {c : Code} {D : va_G} {A : Nat → Prop} {ad : Nat → Nat} {cI cX : ClassId} {r : Int32} {σ' : xSt} (X : xX p s m args c cX2_tellsByLot 8 RX2 D (tyC cI cX) A (wC ad cI cX)) (hr : meth.sig.returnType = (some .int)) (hl : meth.locks = false) (F : Nat) (v2 : Int32) (v3 : Int32) (v4 : Int32) (σ : xSt) (h : mX2_tellsByLot_L100 F v2 v3 v4 σ = some (r, σ')) : xG p l e ({ frames := 2, cells := 0, slots := 0, locals := 55 }) s m args below meth c (MQ below (xQi D A (wC ad cI cX) r σ') args s 0 0 A) 8 D A (wC ad cI cX) σ 100 [(0, .ref (ad 1)), (2, .int v2), (3, .int v3), (4, .int v4)] [] := by
  unfold mX2_tellsByLot_L100 at h
  refine x_aload_n (pc := 100) X dX2_tellsByLot_100 rfl 0 rfl ?_
  refine x_iload_n (pc := 101) X dX2_tellsByLot_101 rfl 2 rfl ?_
  refine x_iload_n (pc := 102) X dX2_tellsByLot_102 rfl 1 rfl ?_
  refine x_iconst (pc := 103) (v := 0) X dX2_tellsByLot_103 (by decide) ?_
  obtain ⟨r104, σ104, hq104, h⟩ := xb2_some h
  refine x_calliV (pc := 104) (As := [.int v3, .int v2, .int 0]) (rest := []) X (kX2_tellsBehind l X.2.2.2.2.2.2.2 F _ _ _ _ _ _ hq104) kvX2_98 rfl (qX2) ⟨rfl, rfl, Nat.le_of_ble_eq_true rfl, Nat.le_of_ble_eq_true rfl⟩ rfl rfl (Nat.le_of_ble_eq_true rfl) dX2_tellsByLot_104 ?_
  refine x_istore (pc := 107) (lv' := [(6, .int r104), (0, .ref (ad 1)), (2, .int v2), (3, .int v3), (4, .int v4)]) X dX2_tellsByLot_107 (by decide) rfl ?_
  refine x_aload_n (pc := 109) X dX2_tellsByLot_109 rfl 1 rfl ?_
  refine gX2_28 (pc := 110) X dX2_tellsByLot_110 ?_
  refine gX2_60 (pc := 113) X 0 (by decide) dX2_tellsByLot_113 ?_
  refine x_istore (pc := 116) (lv' := [(7, .int (xI σ104 (14 + 0))), (6, .int r104), (0, .ref (ad 1)), (2, .int v2), (3, .int v3), (4, .int v4)]) X dX2_tellsByLot_116 (by decide) rfl ?_
  refine x_sub [2, 5, 1, 0] rfl ?_
  exact wX2_tellsByLot_L118 X hr hl F F _ _ _ _ h
set_option maxRecDepth 100000 in
set_option maxHeartbeats 4000000 in
theorem wX2_tellsByLot_S15 {p : Program} {l : Launch} {e : Env} {s : State} {m : MethodId} {args : Array Value} {below : List Frame} {meth : Method} {c : Code} {D : va_G} {A : Nat → Prop} {ad : Nat → Nat} {cI cX : ClassId} {r : Int32} {σ' : xSt} {c15 : Int32 → Int32 → Int32 → Int32 → Int32 → xSt → Option (Int32 × xSt)} (X : xX p s m args c cX2_tellsByLot 8 RX2 D (tyC cI cX) A (wC ad cI cX)) (hr : meth.sig.returnType = (some .int)) (hl : meth.locks = false) (F : Nat) (hc15 : ∀ (v2 : Int32) (v3 : Int32) (v4 : Int32) (v5 : Int32) (v6 : Int32) (σ : xSt), c15 v2 v3 v4 v5 v6 σ = some (r, σ') → xG p l e ({ frames := 2, cells := 0, slots := 0, locals := 55 }) s m args below meth c (MQ below (xQi D A (wC ad cI cX) r σ') args s 0 0 A) 8 D A (wC ad cI cX) σ 15 [(0, .ref (ad 1)), (2, .int v2), (3, .int v3), (4, .int v4), (5, .int v5), (6, .int v6)] []) (v2 : Int32) (v3 : Int32) (v4 : Int32) (v5 : Int32) (v6 : Int32) (σ : xSt) (h : mX2_tellsByLot_S15 F c15 v2 v3 v4 v5 v6 σ = some (r, σ')) : xG p l e ({ frames := 2, cells := 0, slots := 0, locals := 55 }) s m args below meth c (MQ below (xQi D A (wC ad cI cX) r σ') args s 0 0 A) 8 D A (wC ad cI cX) σ 15 [(0, .ref (ad 1)), (2, .int v2), (3, .int v3), (4, .int v4), (5, .int v5), (6, .int v6)] [] := by
  unfold mX2_tellsByLot_S15 at h
  refine x_iload (pc := 15) X dX2_tellsByLot_15 5 rfl ?_
  refine x_iload_n (pc := 17) X dX2_tellsByLot_17 rfl 1 rfl ?_
  refine x_icmp_gt (pc := 18) X 100 dX2_tellsByLot_18 (by decide) (fun hc => ?_) (fun hc => ?_)
  · have h := xit hc h
    refine x_sub [0, 1, 2, 3] rfl ?_
    exact wX2_tellsByLot_L100 X hr hl F _ _ _ _ h
  · have h := xif hc h
    refine x_aload_n (pc := 21) X dX2_tellsByLot_21 rfl 0 rfl ?_
    refine gX2_20 (pc := 22) X dX2_tellsByLot_22 ?_
    refine gX2_42 (pc := 25) X 1 (by decide) dX2_tellsByLot_25 ?_
    refine x_if_le (pc := 28) X 100 dX2_tellsByLot_28 (by decide) (fun hc => ?_) (fun hc => ?_)
    · have h := xit hc h
      refine x_sub [0, 1, 2, 3] rfl ?_
      exact wX2_tellsByLot_L100 X hr hl F _ _ _ _ h
    · have h := xif hc h
      refine x_aload_n (pc := 31) X dX2_tellsByLot_31 rfl 0 rfl ?_
      refine gX2_14 (pc := 32) X dX2_tellsByLot_32 ?_
      refine gX2_42 (pc := 35) X 0 (by decide) dX2_tellsByLot_35 ?_
      refine x_if_le (pc := 38) X 100 dX2_tellsByLot_38 (by decide) (fun hc => ?_) (fun hc => ?_)
      · have h := xit hc h
        refine x_sub [0, 1, 2, 3] rfl ?_
        exact wX2_tellsByLot_L100 X hr hl F _ _ _ _ h
      · have h := xif hc h
        refine x_iload (pc := 41) X dX2_tellsByLot_41 4 rfl ?_
        obtain ⟨r43, σ43, hq43, h⟩ := xb2_some h
        refine x_calliS (pc := 43) (As := [.int v5]) (rest := []) X (kX2_nextLot l X.2.2.2.2.2.2.2 F _ _ _ _ hq43) kvX2_105 ⟨rfl, rfl, Nat.le_of_ble_eq_true rfl, Nat.le_of_ble_eq_true rfl⟩ rfl rfl (Nat.le_of_ble_eq_true rfl) dX2_tellsByLot_43 ?_
        refine x_istore (pc := 46) (lv' := [(5, .int r43), (0, .ref (ad 1)), (2, .int v2), (3, .int v3), (4, .int v4), (6, .int v6)]) X dX2_tellsByLot_46 (by decide) rfl ?_
        refine x_iload (pc := 48) X dX2_tellsByLot_48 0 rfl ?_
        refine x_bipush (pc := 50) (v := 16) X dX2_tellsByLot_50 (by decide) ?_
        refine x_iushr (pc := 52) X dX2_tellsByLot_52 ?_
        refine x_aload_n (pc := 53) X dX2_tellsByLot_53 rfl 1 rfl ?_
        refine gX2_20 (pc := 54) X dX2_tellsByLot_54 ?_
        refine gX2_42 (pc := 57) X 1 (by decide) dX2_tellsByLot_57 ?_
        obtain ⟨hb60, h⟩ := xck_some h
        refine x_irem (pc := 60) X dX2_tellsByLot_60 (xnzI_n hb60) ?_
        refine x_istore (pc := 61) (lv' := [(7, .int ((Int32.toUInt32 r43 >>> (Int32.toUInt32 16 &&& Int32.toUInt32 31)).toInt32 - (Int32.toUInt32 r43 >>> (Int32.toUInt32 16 &&& Int32.toUInt32 31)).toInt32 / (xI σ43 (12 + 1)) * (xI σ43 (12 + 1)))), (5, .int r43), (0, .ref (ad 1)), (2, .int v2), (3, .int v3), (4, .int v4), (6, .int v6)]) X dX2_tellsByLot_61 (by decide) rfl ?_
        refine x_iload (pc := 63) X dX2_tellsByLot_63 1 rfl ?_
        obtain ⟨r65, σ65, hq65, h⟩ := xb2_some h
        refine x_calliS (pc := 65) (As := [.int r43]) (rest := []) X (kX2_nextLot l X.2.2.2.2.2.2.2 F _ _ _ _ hq65) kvX2_105 ⟨rfl, rfl, Nat.le_of_ble_eq_true rfl, Nat.le_of_ble_eq_true rfl⟩ rfl rfl (Nat.le_of_ble_eq_true rfl) dX2_tellsByLot_65 ?_
        refine x_istore (pc := 68) (lv' := [(5, .int r65), (7, .int ((Int32.toUInt32 r43 >>> (Int32.toUInt32 16 &&& Int32.toUInt32 31)).toInt32 - (Int32.toUInt32 r43 >>> (Int32.toUInt32 16 &&& Int32.toUInt32 31)).toInt32 / (xI σ43 (12 + 1)) * (xI σ43 (12 + 1)))), (0, .ref (ad 1)), (2, .int v2), (3, .int v3), (4, .int v4), (6, .int v6)]) X dX2_tellsByLot_68 (by decide) rfl ?_
        refine x_aload_n (pc := 70) X dX2_tellsByLot_70 rfl 2 rfl ?_
        refine gX2_28 (pc := 71) X dX2_tellsByLot_71 ?_
        refine x_iload (pc := 74) X dX2_tellsByLot_74 6 rfl ?_
        refine x_iload (pc := 76) X dX2_tellsByLot_76 0 rfl ?_
        refine x_bipush (pc := 78) (v := 16) X dX2_tellsByLot_78 (by decide) ?_
        refine x_iushr (pc := 80) X dX2_tellsByLot_80 ?_
        refine x_aload_n (pc := 81) X dX2_tellsByLot_81 rfl 2 rfl ?_
        refine gX2_14 (pc := 82) X dX2_tellsByLot_82 ?_
        refine gX2_42 (pc := 85) X 0 (by decide) dX2_tellsByLot_85 ?_
        obtain ⟨hb88, h⟩ := xck_some h
        refine x_irem (pc := 88) X dX2_tellsByLot_88 (xnzI_n hb88) ?_
        refine x_iload (pc := 89) X dX2_tellsByLot_89 1 rfl ?_
        obtain ⟨σ91, hq91, h⟩ := xb1_some h
        refine x_callvV (pc := 91) (As := [.int v6, .int ((Int32.toUInt32 r65 >>> (Int32.toUInt32 16 &&& Int32.toUInt32 31)).toInt32 - (Int32.toUInt32 r65 >>> (Int32.toUInt32 16 &&& Int32.toUInt32 31)).toInt32 / (xI σ65 (12 + 0)) * (xI σ65 (12 + 0))), .int ((Int32.toUInt32 r43 >>> (Int32.toUInt32 16 &&& Int32.toUInt32 31)).toInt32 - (Int32.toUInt32 r43 >>> (Int32.toUInt32 16 &&& Int32.toUInt32 31)).toInt32 / (xI σ43 (12 + 1)) * (xI σ43 (12 + 1)))]) (rest := []) X (kX7_add l X.2.2.2.2.2.2.2 F 0 (by decide) _ _ _ _ _ hq91) kvX2_108 rfl (qX7 0 (by decide)) ⟨rfl, rfl, Nat.le_of_ble_eq_true rfl, Nat.le_of_ble_eq_true rfl⟩ rfl rfl (Nat.le_of_ble_eq_true rfl) dX2_tellsByLot_91 ?_
        refine x_iinc (pc := 94) (v := (v6 + 1)) (lv' := [(6, .int (v6 + 1)), (5, .int r65), (7, .int ((Int32.toUInt32 r43 >>> (Int32.toUInt32 16 &&& Int32.toUInt32 31)).toInt32 - (Int32.toUInt32 r43 >>> (Int32.toUInt32 16 &&& Int32.toUInt32 31)).toInt32 / (xI σ43 (12 + 1)) * (xI σ43 (12 + 1)))), (0, .ref (ad 1)), (2, .int v2), (3, .int v3), (4, .int v4)]) X dX2_tellsByLot_94 6 rfl rfl (by decide) rfl ?_
        refine x_goto (pc := 97) X 15 dX2_tellsByLot_97 (by decide) ?_
        refine x_sub [3, 4, 5, 6, 1, 0] rfl ?_
        exact hc15 _ _ _ _ _ _ h
theorem wX2_tellsByLot_L15 {p : Program} {l : Launch} {e : Env} {s : State} {m : MethodId} {args : Array Value} {below : List Frame} {meth : Method} {c : Code} {D : va_G} {A : Nat → Prop} {ad : Nat → Nat} {cI cX : ClassId} {r : Int32} {σ' : xSt} (X : xX p s m args c cX2_tellsByLot 8 RX2 D (tyC cI cX) A (wC ad cI cX)) (hr : meth.sig.returnType = (some .int)) (hl : meth.locks = false) (F : Nat) : ∀ (n : Nat) (v2 : Int32) (v3 : Int32) (v4 : Int32) (v5 : Int32) (v6 : Int32) (σ : xSt), mX2_tellsByLot_L15 F n v2 v3 v4 v5 v6 σ = some (r, σ') → xG p l e ({ frames := 2, cells := 0, slots := 0, locals := 55 }) s m args below meth c (MQ below (xQi D A (wC ad cI cX) r σ') args s 0 0 A) 8 D A (wC ad cI cX) σ 15 [(0, .ref (ad 1)), (2, .int v2), (3, .int v3), (4, .int v4), (5, .int v5), (6, .int v6)] [] := by
  intro n
  induction n with
  | zero => intro v2 v3 v4 v5 v6 σ h; cases h
  | succ n ih => intro v2 v3 v4 v5 v6 σ h; exact wX2_tellsByLot_S15 X hr hl F ih v2 v3 v4 v5 v6 σ h
set_option maxRecDepth 100000 in
set_option maxHeartbeats 4000000 in
theorem kX2_tellsByLot (l : Launch) {D : va_G} {A : Nat → Prop} {ad : Nat → Nat} {cI cX : ClassId} (hD : ∀ σ, va_D A ((wC ad cI cX) σ)) (F : Nat) (v1 : Int32) (v2 : Int32) (v3 : Int32) (σ : xSt) (r : Int32) (σ' : xSt) (h : mX2_tellsByLot F v1 v2 v3 σ = some (r, σ')) : xM l yX2_tellsByLot cX2_tellsByLot 8 (some .int) ({ frames := 2, cells := 0, slots := 0, locals := 55 }) D (tyC cI cX) A (wC ad cI cX) [.ref (ad 1), .int v1, .int v2, .int v3] σ (xQi D A (wC ad cI cX) r σ') := by
  refine xM_of (lv := [(0, .ref (ad 1)), (1, .int v1), (2, .int v2), (3, .int v3)]) [.ref (ad 1), .int v1, .int v2, .int v3] (by decide) hD rfl (Nat.le_of_ble_eq_true rfl) ?_
  intro p e s m args below meth c X hr hl
  unfold mX2_tellsByLot at h
  refine x_aload_n (pc := 0) X dX2_tellsByLot_0 rfl 0 rfl ?_
  refine gX2_28 (pc := 1) X dX2_tellsByLot_1 ?_
  refine gX2_60 (pc := 4) X 0 (by decide) dX2_tellsByLot_4 ?_
  refine x_istore (pc := 7) (lv' := [(4, .int (xI σ (14 + 0))), (0, .ref (ad 1)), (1, .int v1), (2, .int v2), (3, .int v3)]) X dX2_tellsByLot_7 (by decide) rfl ?_
  refine x_iload_n (pc := 9) X dX2_tellsByLot_9 rfl 2 rfl ?_
  refine x_istore (pc := 10) (lv' := [(5, .int v1), (4, .int (xI σ (14 + 0))), (0, .ref (ad 1)), (1, .int v1), (2, .int v2), (3, .int v3)]) X dX2_tellsByLot_10 (by decide) rfl ?_
  refine x_iconst (pc := 12) (v := 0) X dX2_tellsByLot_12 (by decide) ?_
  refine x_istore (pc := 13) (lv' := [(6, .int 0), (5, .int v1), (4, .int (xI σ (14 + 0))), (0, .ref (ad 1)), (1, .int v1), (2, .int v2), (3, .int v3)]) X dX2_tellsByLot_13 (by decide) rfl ?_
  refine x_sub [3, 5, 6, 2, 1, 0] rfl ?_
  exact wX2_tellsByLot_L15 X hr hl F F _ _ _ _ _ _ h
set_option maxRecDepth 100000 in
set_option maxHeartbeats 4000000 in
theorem wX3_placeOf_L33 {p : Program} {l : Launch} {e : Env} {s : State} {m : MethodId} {args : Array Value} {below : List Frame} {meth : Method} {c : Code} {D : va_G} {A : Nat → Prop} {ad : Nat → Nat} {cI cX : ClassId} {r : Int32} {σ' : xSt} (X : xX p s m args c cX3_placeOf 2 RX3 D (tyC cI cX) A (wC ad cI cX)) (hr : meth.sig.returnType = (some .int)) (hl : meth.locks = false) (F : Nat) (t0 : Int32) (σ : xSt) (h : mX3_placeOf_L33 F t0 σ = some (r, σ')) : xG p l e ({ frames := 0, cells := 0, slots := 0, locals := 0 }) s m args below meth c (MQ below (xQi D A (wC ad cI cX) r σ') args s 0 0 A) 2 D A (wC ad cI cX) σ 33 [] [.int t0] := by
  unfold mX3_placeOf_L33 at h
  exact x_iret (pc := 33) X hr hl h dX3_placeOf_33
set_option maxRecDepth 100000 in
set_option maxHeartbeats 4000000 in
theorem wX3_placeOf_L12 {p : Program} {l : Launch} {e : Env} {s : State} {m : MethodId} {args : Array Value} {below : List Frame} {meth : Method} {c : Code} {D : va_G} {A : Nat → Prop} {ad : Nat → Nat} {cI cX : ClassId} {r : Int32} {σ' : xSt} (X : xX p s m args c cX3_placeOf 2 RX3 D (tyC cI cX) A (wC ad cI cX)) (hr : meth.sig.returnType = (some .int)) (hl : meth.locks = false) (F : Nat) (σ : xSt) (h : mX3_placeOf_L12 F σ = some (r, σ')) : xG p l e ({ frames := 0, cells := 0, slots := 0, locals := 0 }) s m args below meth c (MQ below (xQi D A (wC ad cI cX) r σ') args s 0 0 A) 2 D A (wC ad cI cX) σ 12 [] [] := by
  unfold mX3_placeOf_L12 at h
  refine x_iconst (pc := 12) (v := (-1)) X dX3_placeOf_12 (by decide) ?_
  exact x_iret (pc := 13) X hr hl h dX3_placeOf_13
set_option maxRecDepth 100000 in
set_option maxHeartbeats 4000000 in
theorem kX3_placeOf (l : Launch) {D : va_G} {A : Nat → Prop} {ad : Nat → Nat} {cI cX : ClassId} (hD : ∀ σ, va_D A ((wC ad cI cX) σ)) (F : Nat) (v1 : Int32) (σ : xSt) (r : Int32) (σ' : xSt) (h : mX3_placeOf F v1 σ = some (r, σ')) : xM l yX3_placeOf cX3_placeOf 2 (some .int) ({ frames := 0, cells := 0, slots := 0, locals := 0 }) D (tyC cI cX) A (wC ad cI cX) [.ref (ad 5), .int v1] σ (xQi D A (wC ad cI cX) r σ') := by
  refine xM_of (lv := [(0, .ref (ad 5)), (1, .int v1)]) [.ref (ad 5), .int v1] (by decide) hD rfl (Nat.le_of_ble_eq_true rfl) ?_
  intro p e s m args below meth c X hr hl
  unfold mX3_placeOf at h
  refine x_iload_n (pc := 0) X dX3_placeOf_0 rfl 1 rfl ?_
  refine x_if_lt (pc := 1) X 12 dX3_placeOf_1 (by decide) (fun hc => ?_) (fun hc => ?_)
  · have h := xit hc h
    refine x_sub [] rfl ?_
    exact wX3_placeOf_L12 X hr hl F _ h
  · have h := xif hc h
    refine x_iload_n (pc := 4) X dX3_placeOf_4 rfl 1 rfl ?_
    refine x_aload_n (pc := 5) X dX3_placeOf_5 rfl 0 rfl ?_
    refine gX3_21 (pc := 6) X dX3_placeOf_6 ?_
    refine x_icmp_lt (pc := 9) X 14 dX3_placeOf_9 (by decide) (fun hc => ?_) (fun hc => ?_)
    · have h := xit hc h
      refine x_aload_n (pc := 14) X dX3_placeOf_14 rfl 0 rfl ?_
      refine gX3_25 (pc := 15) X dX3_placeOf_15 ?_
      refine x_if_eq (pc := 18) X 32 dX3_placeOf_18 (by decide) (fun hc => ?_) (fun hc => ?_)
      · have h := xit hc h
        refine x_iload_n (pc := 32) X dX3_placeOf_32 rfl 1 rfl ?_
        refine x_sub [] rfl ?_
        exact wX3_placeOf_L33 X hr hl F _ _ h
      · have h := xif hc h
        refine x_aload_n (pc := 21) X dX3_placeOf_21 rfl 0 rfl ?_
        refine gX3_21 (pc := 22) X dX3_placeOf_22 ?_
        refine x_iconst (pc := 25) (v := 1) X dX3_placeOf_25 (by decide) ?_
        refine x_isub (pc := 26) X dX3_placeOf_26 ?_
        refine x_iload_n (pc := 27) X dX3_placeOf_27 rfl 1 rfl ?_
        refine x_isub (pc := 28) X dX3_placeOf_28 ?_
        refine x_goto (pc := 29) X 33 dX3_placeOf_29 (by decide) ?_
        refine x_sub [] rfl ?_
        exact wX3_placeOf_L33 X hr hl F _ _ h
    · have h := xif hc h
      refine x_sub [] rfl ?_
      exact wX3_placeOf_L12 X hr hl F _ h
set_option maxRecDepth 100000 in
set_option maxHeartbeats 4000000 in
theorem wX3_smellAt_L21 {p : Program} {l : Launch} {e : Env} {s : State} {m : MethodId} {args : Array Value} {below : List Frame} {meth : Method} {c : Code} {D : va_G} {A : Nat → Prop} {ad : Nat → Nat} {cI cX : ClassId} {r : Int32} {σ' : xSt} (X : xX p s m args c cX3_smellAt 3 RX3 D (tyC cI cX) A (wC ad cI cX)) (hr : meth.sig.returnType = (some .int)) (hl : meth.locks = false) (F : Nat) (t0 : Int32) (σ : xSt) (h : mX3_smellAt_L21 F t0 σ = some (r, σ')) : xG p l e ({ frames := 1, cells := 0, slots := 0, locals := 21 }) s m args below meth c (MQ below (xQi D A (wC ad cI cX) r σ') args s 0 0 A) 3 D A (wC ad cI cX) σ 21 [] [.int t0] := by
  unfold mX3_smellAt_L21 at h
  exact x_iret (pc := 21) X hr hl h dX3_smellAt_21
set_option maxRecDepth 100000 in
set_option maxHeartbeats 4000000 in
theorem kX3_smellAt (l : Launch) {D : va_G} {A : Nat → Prop} {ad : Nat → Nat} {cI cX : ClassId} (hD : ∀ σ, va_D A ((wC ad cI cX) σ)) (F : Nat) (v1 : Int32) (σ : xSt) (r : Int32) (σ' : xSt) (h : mX3_smellAt F v1 σ = some (r, σ')) : xM l yX3_smellAt cX3_smellAt 3 (some .int) ({ frames := 1, cells := 0, slots := 0, locals := 21 }) D (tyC cI cX) A (wC ad cI cX) [.ref (ad 5), .int v1] σ (xQi D A (wC ad cI cX) r σ') := by
  refine xM_of (lv := [(0, .ref (ad 5)), (1, .int v1)]) [.ref (ad 5), .int v1] (by decide) hD rfl (Nat.le_of_ble_eq_true rfl) ?_
  intro p e s m args below meth c X hr hl
  unfold mX3_smellAt at h
  refine x_aload_n (pc := 0) X dX3_smellAt_0 rfl 0 rfl ?_
  refine x_iload_n (pc := 1) X dX3_smellAt_1 rfl 1 rfl ?_
  obtain ⟨r2, σ2, hq2, h⟩ := xb2_some h
  refine x_calliV (pc := 2) (As := [.int v1]) (rest := []) X (kX3_placeOf l X.2.2.2.2.2.2.2 F _ _ _ _ hq2) kvX3_29 rfl (qX3) ⟨rfl, rfl, Nat.le_of_ble_eq_true rfl, Nat.le_of_ble_eq_true rfl⟩ rfl rfl (Nat.le_of_ble_eq_true rfl) dX3_smellAt_2 ?_
  refine x_istore_n (pc := 5) (lv' := [(2, .int r2), (0, .ref (ad 5)), (1, .int v1)]) X dX3_smellAt_5 rfl (by decide) rfl ?_
  refine x_iload_n (pc := 6) X dX3_smellAt_6 rfl 0 rfl ?_
  refine x_iconst (pc := 7) (v := (-1)) X dX3_smellAt_7 (by decide) ?_
  refine x_icmp_ne (pc := 8) X 15 dX3_smellAt_8 (by decide) (fun hc => ?_) (fun hc => ?_)
  · have h := xif hc h
    refine x_aload_n (pc := 15) X dX3_smellAt_15 rfl 1 rfl ?_
    refine gX3_9 (pc := 16) X dX3_smellAt_16 ?_
    refine x_iload_n (pc := 19) X dX3_smellAt_19 rfl 0 rfl ?_
    obtain ⟨hb20, h⟩ := xck_some h
    refine x_iald (pc := 20) X 9 0 (qaX3_smells) rfl hb20 dX3_smellAt_20 ?_
    refine x_sub [] rfl ?_
    exact wX3_smellAt_L21 X hr hl F _ _ h
  · have h := xit hc h
    refine x_iconst (pc := 11) (v := (-1)) X dX3_smellAt_11 (by decide) ?_
    refine x_goto (pc := 12) X 21 dX3_smellAt_12 (by decide) ?_
    refine x_sub [] rfl ?_
    exact wX3_smellAt_L21 X hr hl F _ _ h
set_option maxRecDepth 100000 in
set_option maxHeartbeats 4000000 in
theorem wX3_strengthAt_L21 {p : Program} {l : Launch} {e : Env} {s : State} {m : MethodId} {args : Array Value} {below : List Frame} {meth : Method} {c : Code} {D : va_G} {A : Nat → Prop} {ad : Nat → Nat} {cI cX : ClassId} {r : Int32} {σ' : xSt} (X : xX p s m args c cX3_strengthAt 3 RX3 D (tyC cI cX) A (wC ad cI cX)) (hr : meth.sig.returnType = (some .int)) (hl : meth.locks = false) (F : Nat) (t0 : Int32) (σ : xSt) (h : mX3_strengthAt_L21 F t0 σ = some (r, σ')) : xG p l e ({ frames := 1, cells := 0, slots := 0, locals := 21 }) s m args below meth c (MQ below (xQi D A (wC ad cI cX) r σ') args s 0 0 A) 3 D A (wC ad cI cX) σ 21 [] [.int t0] := by
  unfold mX3_strengthAt_L21 at h
  exact x_iret (pc := 21) X hr hl h dX3_strengthAt_21
set_option maxRecDepth 100000 in
set_option maxHeartbeats 4000000 in
theorem kX3_strengthAt (l : Launch) {D : va_G} {A : Nat → Prop} {ad : Nat → Nat} {cI cX : ClassId} (hD : ∀ σ, va_D A ((wC ad cI cX) σ)) (F : Nat) (v1 : Int32) (σ : xSt) (r : Int32) (σ' : xSt) (h : mX3_strengthAt F v1 σ = some (r, σ')) : xM l yX3_strengthAt cX3_strengthAt 3 (some .int) ({ frames := 1, cells := 0, slots := 0, locals := 21 }) D (tyC cI cX) A (wC ad cI cX) [.ref (ad 5), .int v1] σ (xQi D A (wC ad cI cX) r σ') := by
  refine xM_of (lv := [(0, .ref (ad 5)), (1, .int v1)]) [.ref (ad 5), .int v1] (by decide) hD rfl (Nat.le_of_ble_eq_true rfl) ?_
  intro p e s m args below meth c X hr hl
  unfold mX3_strengthAt at h
  refine x_aload_n (pc := 0) X dX3_strengthAt_0 rfl 0 rfl ?_
  refine x_iload_n (pc := 1) X dX3_strengthAt_1 rfl 1 rfl ?_
  obtain ⟨r2, σ2, hq2, h⟩ := xb2_some h
  refine x_calliV (pc := 2) (As := [.int v1]) (rest := []) X (kX3_placeOf l X.2.2.2.2.2.2.2 F _ _ _ _ hq2) kvX3_29 rfl (qX3) ⟨rfl, rfl, Nat.le_of_ble_eq_true rfl, Nat.le_of_ble_eq_true rfl⟩ rfl rfl (Nat.le_of_ble_eq_true rfl) dX3_strengthAt_2 ?_
  refine x_istore_n (pc := 5) (lv' := [(2, .int r2), (0, .ref (ad 5)), (1, .int v1)]) X dX3_strengthAt_5 rfl (by decide) rfl ?_
  refine x_iload_n (pc := 6) X dX3_strengthAt_6 rfl 0 rfl ?_
  refine x_iconst (pc := 7) (v := (-1)) X dX3_strengthAt_7 (by decide) ?_
  refine x_icmp_ne (pc := 8) X 15 dX3_strengthAt_8 (by decide) (fun hc => ?_) (fun hc => ?_)
  · have h := xif hc h
    refine x_aload_n (pc := 15) X dX3_strengthAt_15 rfl 1 rfl ?_
    refine gX3_15 (pc := 16) X dX3_strengthAt_16 ?_
    refine x_iload_n (pc := 19) X dX3_strengthAt_19 rfl 0 rfl ?_
    obtain ⟨hb20, h⟩ := xck_some h
    refine x_iald (pc := 20) X 10 0 (qaX3_strengths) rfl hb20 dX3_strengthAt_20 ?_
    refine x_sub [] rfl ?_
    exact wX3_strengthAt_L21 X hr hl F _ _ h
  · have h := xit hc h
    refine x_iconst (pc := 11) (v := (-1)) X dX3_strengthAt_11 (by decide) ?_
    refine x_goto (pc := 12) X 21 dX3_strengthAt_12 (by decide) ?_
    refine x_sub [] rfl ?_
    exact wX3_strengthAt_L21 X hr hl F _ _ h
set_option maxRecDepth 100000 in
set_option maxHeartbeats 4000000 in
theorem kX4_aim (l : Launch) {D : va_G} {A : Nat → Prop} {ad : Nat → Nat} {cI cX : ClassId} (hD : ∀ σ, va_D A ((wC ad cI cX) σ)) (F : Nat) (v1 : Int32) (v2 : Int32) (v3 : Int32) (v4 : Int32) (σ : xSt) (σ' : xSt) (h : mX4_aim F v1 v2 v3 v4 σ = some σ') : xM l yX4_aim cX4_aim 5 none ({ frames := 0, cells := 0, slots := 0, locals := 0 }) D (tyC cI cX) A (wC ad cI cX) [.ref (ad 2), .int v1, .int v2, .int v3, .int v4] σ (xQv D A (wC ad cI cX) σ') := by
  refine xM_of (lv := [(0, .ref (ad 2)), (1, .int v1), (2, .int v2), (3, .int v3), (4, .int v4)]) [.ref (ad 2), .int v1, .int v2, .int v3, .int v4] (by decide) hD rfl (Nat.le_of_ble_eq_true rfl) ?_
  intro p e s m args below meth c X hr hl
  unfold mX4_aim at h
  refine x_aload_n (pc := 0) X dX4_aim_0 rfl 0 rfl ?_
  refine x_iload_n (pc := 1) X dX4_aim_1 rfl 1 rfl ?_
  refine uX4_25 (pc := 2) X dX4_aim_2 ?_
  refine x_aload_n (pc := 5) X dX4_aim_5 rfl 0 rfl ?_
  refine x_iload_n (pc := 6) X dX4_aim_6 rfl 2 rfl ?_
  refine uX4_28 (pc := 7) X dX4_aim_7 ?_
  refine x_aload_n (pc := 10) X dX4_aim_10 rfl 0 rfl ?_
  refine x_iload_n (pc := 11) X dX4_aim_11 rfl 3 rfl ?_
  refine uX4_31 (pc := 12) X dX4_aim_12 ?_
  refine x_aload_n (pc := 15) X dX4_aim_15 rfl 0 rfl ?_
  refine x_iload (pc := 16) X dX4_aim_16 4 rfl ?_
  refine uX4_34 (pc := 18) X dX4_aim_18 ?_
  refine x_aload_n (pc := 21) X dX4_aim_21 rfl 0 rfl ?_
  refine x_iconst (pc := 22) (v := 0) X dX4_aim_22 (by decide) ?_
  refine uX4_21 (pc := 23) X dX4_aim_23 ?_
  exact x_vret (pc := 26) X hr hl h dX4_aim_26
set_option maxRecDepth 100000 in
set_option maxHeartbeats 4000000 in
theorem wX4_answer_L49 {p : Program} {l : Launch} {e : Env} {s : State} {m : MethodId} {args : Array Value} {below : List Frame} {meth : Method} {c : Code} {D : va_G} {A : Nat → Prop} {ad : Nat → Nat} {cI cX : ClassId} {r : Int32} {σ' : xSt} (X : xX p s m args c cX4_answer 2 RX4 D (tyC cI cX) A (wC ad cI cX)) (hr : meth.sig.returnType = (some .int)) (hl : meth.locks = false) (F : Nat) (t0 : Int32) (σ : xSt) (h : mX4_answer_L49 F t0 σ = some (r, σ')) : xG p l e ({ frames := 0, cells := 0, slots := 0, locals := 0 }) s m args below meth c (MQ below (xQi D A (wC ad cI cX) r σ') args s 0 0 A) 2 D A (wC ad cI cX) σ 49 [] [.int t0] := by
  unfold mX4_answer_L49 at h
  exact x_iret (pc := 49) X hr hl h dX4_answer_49
set_option maxRecDepth 100000 in
set_option maxHeartbeats 4000000 in
theorem wX4_answer_L48 {p : Program} {l : Launch} {e : Env} {s : State} {m : MethodId} {args : Array Value} {below : List Frame} {meth : Method} {c : Code} {D : va_G} {A : Nat → Prop} {ad : Nat → Nat} {cI cX : ClassId} {r : Int32} {σ' : xSt} (X : xX p s m args c cX4_answer 2 RX4 D (tyC cI cX) A (wC ad cI cX)) (hr : meth.sig.returnType = (some .int)) (hl : meth.locks = false) (F : Nat) (σ : xSt) (h : mX4_answer_L48 F σ = some (r, σ')) : xG p l e ({ frames := 0, cells := 0, slots := 0, locals := 0 }) s m args below meth c (MQ below (xQi D A (wC ad cI cX) r σ') args s 0 0 A) 2 D A (wC ad cI cX) σ 48 [] [] := by
  unfold mX4_answer_L48 at h
  refine x_iconst (pc := 48) (v := (-1)) X dX4_answer_48 (by decide) ?_
  refine x_sub [] rfl ?_
  exact wX4_answer_L49 X hr hl F _ _ h
set_option maxRecDepth 100000 in
set_option maxHeartbeats 4000000 in
theorem wX4_answer_L13 {p : Program} {l : Launch} {e : Env} {s : State} {m : MethodId} {args : Array Value} {below : List Frame} {meth : Method} {c : Code} {D : va_G} {A : Nat → Prop} {ad : Nat → Nat} {cI cX : ClassId} {r : Int32} {σ' : xSt} (X : xX p s m args c cX4_answer 2 RX4 D (tyC cI cX) A (wC ad cI cX)) (hr : meth.sig.returnType = (some .int)) (hl : meth.locks = false) (F : Nat) (σ : xSt) (h : mX4_answer_L13 F σ = some (r, σ')) : xG p l e ({ frames := 0, cells := 0, slots := 0, locals := 0 }) s m args below meth c (MQ below (xQi D A (wC ad cI cX) r σ') args s 0 0 A) 2 D A (wC ad cI cX) σ 13 [(0, .ref (ad 2))] [] := by
  unfold mX4_answer_L13 at h
  refine x_aload_n (pc := 13) X dX4_answer_13 rfl 0 rfl ?_
  refine gX4_21 (pc := 14) X dX4_answer_14 ?_
  exact x_iret (pc := 17) X hr hl h dX4_answer_17
set_option maxRecDepth 100000 in
set_option maxHeartbeats 4000000 in
theorem kX4_answer (l : Launch) {D : va_G} {A : Nat → Prop} {ad : Nat → Nat} {cI cX : ClassId} (hD : ∀ σ, va_D A ((wC ad cI cX) σ)) (F : Nat) (v1 : Int32) (σ : xSt) (r : Int32) (σ' : xSt) (h : mX4_answer F v1 σ = some (r, σ')) : xM l yX4_answer cX4_answer 2 (some .int) ({ frames := 0, cells := 0, slots := 0, locals := 0 }) D (tyC cI cX) A (wC ad cI cX) [.ref (ad 2), .int v1] σ (xQi D A (wC ad cI cX) r σ') := by
  refine xM_of (lv := [(0, .ref (ad 2)), (1, .int v1)]) [.ref (ad 2), .int v1] (by decide) hD rfl (Nat.le_of_ble_eq_true rfl) ?_
  intro p e s m args below meth c X hr hl
  unfold mX4_answer at h
  refine x_aload_n (pc := 0) X dX4_answer_0 rfl 0 rfl ?_
  refine gX4_21 (pc := 1) X dX4_answer_1 ?_
  refine x_iconst (pc := 4) (v := (-1)) X dX4_answer_4 (by decide) ?_
  refine x_icmp_eq (pc := 5) X 13 dX4_answer_5 (by decide) (fun hc => ?_) (fun hc => ?_)
  · have h := xit hc h
    refine x_sub [0] rfl ?_
    exact wX4_answer_L13 X hr hl F _ h
  · have h := xif hc h
    refine x_iload_n (pc := 8) X dX4_answer_8 rfl 1 rfl ?_
    refine x_iconst (pc := 9) (v := (-1)) X dX4_answer_9 (by decide) ?_
    refine x_icmp_ne (pc := 10) X 18 dX4_answer_10 (by decide) (fun hc => ?_) (fun hc => ?_)
    · have h := xif hc h
      refine x_iload_n (pc := 18) X dX4_answer_18 rfl 1 rfl ?_
      refine x_if_lt (pc := 19) X 48 dX4_answer_19 (by decide) (fun hc => ?_) (fun hc => ?_)
      · have h := xit hc h
        refine x_sub [] rfl ?_
        exact wX4_answer_L48 X hr hl F _ h
      · have h := xif hc h
        refine x_iload_n (pc := 22) X dX4_answer_22 rfl 1 rfl ?_
        refine x_aload_n (pc := 23) X dX4_answer_23 rfl 0 rfl ?_
        refine gX4_21 (pc := 24) X dX4_answer_24 ?_
        refine x_icmp_ge (pc := 27) X 48 dX4_answer_27 (by decide) (fun hc => ?_) (fun hc => ?_)
        · have h := xit hc h
          refine x_sub [] rfl ?_
          exact wX4_answer_L48 X hr hl F _ h
        · have h := xif hc h
          refine x_iload_n (pc := 30) X dX4_answer_30 rfl 1 rfl ?_
          refine x_aload_n (pc := 31) X dX4_answer_31 rfl 0 rfl ?_
          refine gX4_15 (pc := 32) X dX4_answer_32 ?_
          refine x_alen (pc := 35) X 7 0 (qaX4_row) rfl rfl dX4_answer_35 ?_
          refine x_icmp_ge (pc := 36) X 48 dX4_answer_36 (by decide) (fun hc => ?_) (fun hc => ?_)
          · have h := xit hc h
            refine x_sub [] rfl ?_
            exact wX4_answer_L48 X hr hl F _ h
          · have h := xif hc h
            refine x_aload_n (pc := 39) X dX4_answer_39 rfl 0 rfl ?_
            refine gX4_15 (pc := 40) X dX4_answer_40 ?_
            refine x_iload_n (pc := 43) X dX4_answer_43 rfl 1 rfl ?_
            obtain ⟨hb44, h⟩ := xck_some h
            refine x_iald (pc := 44) X 7 0 (qaX4_row) rfl hb44 dX4_answer_44 ?_
            refine x_goto (pc := 45) X 49 dX4_answer_45 (by decide) ?_
            refine x_sub [] rfl ?_
            exact wX4_answer_L49 X hr hl F _ _ h
    · have h := xit hc h
      refine x_sub [0] rfl ?_
      exact wX4_answer_L13 X hr hl F _ h
set_option maxRecDepth 100000 in
set_option maxHeartbeats 4000000 in
theorem wX4_comesOut_L30 {p : Program} {l : Launch} {e : Env} {s : State} {m : MethodId} {args : Array Value} {below : List Frame} {meth : Method} {c : Code} {D : va_G} {A : Nat → Prop} {ad : Nat → Nat} {cI cX : ClassId} {r : Int32} {σ' : xSt} (X : xX p s m args c cX4_comesOut 2 RX4 D (tyC cI cX) A (wC ad cI cX)) (hr : meth.sig.returnType = (some .boolean)) (hl : meth.locks = false) (F : Nat) (t0 : Int32) (σ : xSt) (h : mX4_comesOut_L30 F t0 σ = some (r, σ')) : xG p l e ({ frames := 2, cells := 0, slots := 0, locals := 55 }) s m args below meth c (MQ below (xQi D A (wC ad cI cX) r σ') args s 0 0 A) 2 D A (wC ad cI cX) σ 30 [] [.int t0] := by
  unfold mX4_comesOut_L30 at h
  obtain ⟨hb30, h⟩ := xck_some h
  exact x_zret (pc := 30) X hr hl hb30 h dX4_comesOut_30
set_option maxRecDepth 100000 in
set_option maxHeartbeats 4000000 in
theorem kX4_comesOut (l : Launch) {D : va_G} {A : Nat → Prop} {ad : Nat → Nat} {cI cX : ClassId} (hD : ∀ σ, va_D A ((wC ad cI cX) σ)) (F : Nat) (v1 : Int32) (σ : xSt) (r : Int32) (σ' : xSt) (h : mX4_comesOut F v1 σ = some (r, σ')) : xM l yX4_comesOut cX4_comesOut 2 (some .boolean) ({ frames := 2, cells := 0, slots := 0, locals := 55 }) D (tyC cI cX) A (wC ad cI cX) [.ref (ad 2), .int v1] σ (xQi D A (wC ad cI cX) r σ') := by
  refine xM_of (lv := [(0, .ref (ad 2)), (1, .int v1)]) [.ref (ad 2), .int v1] (by decide) hD rfl (Nat.le_of_ble_eq_true rfl) ?_
  intro p e s m args below meth c X hr hl
  unfold mX4_comesOut at h
  refine x_aload_n (pc := 0) X dX4_comesOut_0 rfl 0 rfl ?_
  refine gX4_37 (pc := 1) X dX4_comesOut_1 ?_
  refine x_iload_n (pc := 4) X dX4_comesOut_4 rfl 1 rfl ?_
  refine x_aload_n (pc := 5) X dX4_comesOut_5 rfl 0 rfl ?_
  refine gX4_28 (pc := 6) X dX4_comesOut_6 ?_
  refine x_iconst (pc := 9) (v := 0) X dX4_comesOut_9 (by decide) ?_
  obtain ⟨r10, σ10, hq10, h⟩ := xb2_some h
  refine x_calliV (pc := 10) (As := [.int v1, .int (xI σ 5), .int 0]) (rest := []) X (kX2_tellsBehind l X.2.2.2.2.2.2.2 F _ _ _ _ _ _ hq10) kvX4_89 rfl (qX2) ⟨rfl, rfl, Nat.le_of_ble_eq_true rfl, Nat.le_of_ble_eq_true rfl⟩ rfl rfl (Nat.le_of_ble_eq_true rfl) dX4_comesOut_10 ?_
  refine x_aload_n (pc := 13) X dX4_comesOut_13 rfl 0 rfl ?_
  refine gX4_31 (pc := 14) X dX4_comesOut_14 ?_
  refine x_iand (pc := 17) X dX4_comesOut_17 ?_
  refine x_aload_n (pc := 18) X dX4_comesOut_18 rfl 0 rfl ?_
  refine gX4_34 (pc := 19) X dX4_comesOut_19 ?_
  refine x_icmp_ne (pc := 22) X 29 dX4_comesOut_22 (by decide) (fun hc => ?_) (fun hc => ?_)
  · have h := xif hc h
    refine x_iconst (pc := 29) (v := 0) X dX4_comesOut_29 (by decide) ?_
    refine x_sub [] rfl ?_
    exact wX4_comesOut_L30 X hr hl F _ _ h
  · have h := xit hc h
    refine x_iconst (pc := 25) (v := 1) X dX4_comesOut_25 (by decide) ?_
    refine x_goto (pc := 26) X 30 dX4_comesOut_26 (by decide) ?_
    refine x_sub [] rfl ?_
    exact wX4_comesOut_L30 X hr hl F _ _ h
set_option maxRecDepth 100000 in
set_option maxHeartbeats 4000000 in
theorem wX4_comesOutWith_L58 {p : Program} {l : Launch} {e : Env} {s : State} {m : MethodId} {args : Array Value} {below : List Frame} {meth : Method} {c : Code} {D : va_G} {A : Nat → Prop} {ad : Nat → Nat} {cI cX : ClassId} {r : Int32} {σ' : xSt} (X : xX p s m args c cX4_comesOutWith 4 RX4 D (tyC cI cX) A (wC ad cI cX)) (hr : meth.sig.returnType = (some .boolean)) (hl : meth.locks = false) (F : Nat) (t0 : Int32) (σ : xSt) (h : mX4_comesOutWith_L58 F t0 σ = some (r, σ')) : xG p l e ({ frames := 2, cells := 0, slots := 0, locals := 55 }) s m args below meth c (MQ below (xQi D A (wC ad cI cX) r σ') args s 0 0 A) 4 D A (wC ad cI cX) σ 58 [] [.int t0] := by
  unfold mX4_comesOutWith_L58 at h
  obtain ⟨hb58, h⟩ := xck_some h
  exact x_zret (pc := 58) X hr hl hb58 h dX4_comesOutWith_58
set_option maxRecDepth 100000 in
set_option maxHeartbeats 4000000 in
theorem kX4_comesOutWith (l : Launch) {D : va_G} {A : Nat → Prop} {ad : Nat → Nat} {cI cX : ClassId} (hD : ∀ σ, va_D A ((wC ad cI cX) σ)) (F : Nat) (v1 : Int32) (v2 : Int32) (σ : xSt) (r : Int32) (σ' : xSt) (h : mX4_comesOutWith F v1 v2 σ = some (r, σ')) : xM l yX4_comesOutWith cX4_comesOutWith 4 (some .boolean) ({ frames := 2, cells := 0, slots := 0, locals := 55 }) D (tyC cI cX) A (wC ad cI cX) [.ref (ad 2), .int v1, .int v2] σ (xQi D A (wC ad cI cX) r σ') := by
  refine xM_of (lv := [(0, .ref (ad 2)), (1, .int v1), (2, .int v2)]) [.ref (ad 2), .int v1, .int v2] (by decide) hD rfl (Nat.le_of_ble_eq_true rfl) ?_
  intro p e s m args below meth c X hr hl
  unfold mX4_comesOutWith at h
  refine x_aload_n (pc := 0) X dX4_comesOutWith_0 rfl 0 rfl ?_
  refine gX4_37 (pc := 1) X dX4_comesOutWith_1 ?_
  refine gX4_76 (pc := 4) X dX4_comesOutWith_4 ?_
  refine x_aload_n (pc := 7) X dX4_comesOutWith_7 rfl 0 rfl ?_
  refine gX4_25 (pc := 8) X dX4_comesOutWith_8 ?_
  refine x_iload_n (pc := 11) X dX4_comesOutWith_11 rfl 1 rfl ?_
  refine x_iload_n (pc := 12) X dX4_comesOutWith_12 rfl 2 rfl ?_
  obtain ⟨σ13, hq13, h⟩ := xb1_some h
  refine x_callvV (pc := 13) (As := [.int (xI σ 4), .int v1, .int v2]) (rest := []) X (kX7_add l X.2.2.2.2.2.2.2 F 0 (by decide) _ _ _ _ _ hq13) kvX4_80 rfl (qX7 0 (by decide)) ⟨rfl, rfl, Nat.le_of_ble_eq_true rfl, Nat.le_of_ble_eq_true rfl⟩ rfl rfl (Nat.le_of_ble_eq_true rfl) dX4_comesOutWith_13 ?_
  refine x_aload_n (pc := 16) X dX4_comesOutWith_16 rfl 0 rfl ?_
  refine gX4_37 (pc := 17) X dX4_comesOutWith_17 ?_
  refine x_iload_n (pc := 20) X dX4_comesOutWith_20 rfl 1 rfl ?_
  refine x_aload_n (pc := 21) X dX4_comesOutWith_21 rfl 0 rfl ?_
  refine gX4_28 (pc := 22) X dX4_comesOutWith_22 ?_
  refine x_iconst (pc := 25) (v := 0) X dX4_comesOutWith_25 (by decide) ?_
  obtain ⟨r26, σ26, hq26, h⟩ := xb2_some h
  refine x_calliV (pc := 26) (As := [.int v1, .int (xI σ13 5), .int 0]) (rest := []) X (kX2_tellsBehind l X.2.2.2.2.2.2.2 F _ _ _ _ _ _ hq26) kvX4_89 rfl (qX2) ⟨rfl, rfl, Nat.le_of_ble_eq_true rfl, Nat.le_of_ble_eq_true rfl⟩ rfl rfl (Nat.le_of_ble_eq_true rfl) dX4_comesOutWith_26 ?_
  refine x_istore_n (pc := 29) (lv' := [(3, .int r26), (0, .ref (ad 2)), (1, .int v1), (2, .int v2)]) X dX4_comesOutWith_29 rfl (by decide) rfl ?_
  refine x_aload_n (pc := 30) X dX4_comesOutWith_30 rfl 1 rfl ?_
  refine gX4_37 (pc := 31) X dX4_comesOutWith_31 ?_
  refine gX4_76 (pc := 34) X dX4_comesOutWith_34 ?_
  obtain ⟨σ37, hq37, h⟩ := xb1_some h
  refine x_callvV (pc := 37) (As := []) (rest := []) X (kX7_drop l X.2.2.2.2.2.2.2 F 0 (by decide) _ _ hq37) kvX4_86 rfl (qX7 0 (by decide)) ⟨rfl, rfl, Nat.le_of_ble_eq_true rfl, Nat.le_of_ble_eq_true rfl⟩ rfl rfl (Nat.le_of_ble_eq_true rfl) dX4_comesOutWith_37 ?_
  refine x_iload_n (pc := 40) X dX4_comesOutWith_40 rfl 0 rfl ?_
  refine x_aload_n (pc := 41) X dX4_comesOutWith_41 rfl 1 rfl ?_
  refine gX4_31 (pc := 42) X dX4_comesOutWith_42 ?_
  refine x_iand (pc := 45) X dX4_comesOutWith_45 ?_
  refine x_aload_n (pc := 46) X dX4_comesOutWith_46 rfl 1 rfl ?_
  refine gX4_34 (pc := 47) X dX4_comesOutWith_47 ?_
  refine x_icmp_ne (pc := 50) X 57 dX4_comesOutWith_50 (by decide) (fun hc => ?_) (fun hc => ?_)
  · have h := xif hc h
    refine x_iconst (pc := 57) (v := 0) X dX4_comesOutWith_57 (by decide) ?_
    refine x_sub [] rfl ?_
    exact wX4_comesOutWith_L58 X hr hl F _ _ h
  · have h := xit hc h
    refine x_iconst (pc := 53) (v := 1) X dX4_comesOutWith_53 (by decide) ?_
    refine x_goto (pc := 54) X 58 dX4_comesOutWith_54 (by decide) ?_
    refine x_sub [] rfl ?_
    exact wX4_comesOutWith_L58 X hr hl F _ _ h
set_option maxRecDepth 100000 in
set_option maxHeartbeats 4000000 in
theorem wX4_take_L56 {p : Program} {l : Launch} {e : Env} {s : State} {m : MethodId} {args : Array Value} {below : List Frame} {meth : Method} {c : Code} {D : va_G} {A : Nat → Prop} {ad : Nat → Nat} {cI cX : ClassId} {σ' : xSt} (X : xX p s m args c cX4_take 3 RX4 D (tyC cI cX) A (wC ad cI cX)) (hr : meth.sig.returnType = none) (hl : meth.locks = false) (F : Nat) (σ : xSt) (h : mX4_take_L56 F σ = some σ') : xG p l e ({ frames := 0, cells := 0, slots := 0, locals := 0 }) s m args below meth c (MQ below (xQv D A (wC ad cI cX) σ') args s 0 0 A) 3 D A (wC ad cI cX) σ 56 [] [] := by
  unfold mX4_take_L56 at h
  exact x_vret (pc := 56) X hr hl h dX4_take_56
set_option maxRecDepth 100000 in
set_option maxHeartbeats 4000000 in
theorem wX4_take_L28 {p : Program} {l : Launch} {e : Env} {s : State} {m : MethodId} {args : Array Value} {below : List Frame} {meth : Method} {c : Code} {D : va_G} {A : Nat → Prop} {ad : Nat → Nat} {cI cX : ClassId} {σ' : xSt} (X : xX p s m args c cX4_take 3 RX4 D (tyC cI cX) A (wC ad cI cX)) (hr : meth.sig.returnType = none) (hl : meth.locks = false) (F : Nat) (σ : xSt) (h : mX4_take_L28 F σ = some σ') : xG p l e ({ frames := 0, cells := 0, slots := 0, locals := 0 }) s m args below meth c (MQ below (xQv D A (wC ad cI cX) σ') args s 0 0 A) 3 D A (wC ad cI cX) σ 28 [(0, .ref (ad 2))] [] := by
  unfold mX4_take_L28 at h
  refine x_aload_n (pc := 28) X dX4_take_28 rfl 0 rfl ?_
  refine x_iconst (pc := 29) (v := (-1)) X dX4_take_29 (by decide) ?_
  refine uX4_21 (pc := 30) X dX4_take_30 ?_
  refine x_goto (pc := 33) X 56 dX4_take_33 (by decide) ?_
  refine x_sub [] rfl ?_
  exact wX4_take_L56 X hr hl F _ h
set_option maxRecDepth 100000 in
set_option maxHeartbeats 4000000 in
theorem kX4_take (l : Launch) {D : va_G} {A : Nat → Prop} {ad : Nat → Nat} {cI cX : ClassId} (hD : ∀ σ, va_D A ((wC ad cI cX) σ)) (F : Nat) (v1 : Int32) (v2 : Int32) (σ : xSt) (σ' : xSt) (h : mX4_take F v1 v2 σ = some σ') : xM l yX4_take cX4_take 3 none ({ frames := 0, cells := 0, slots := 0, locals := 0 }) D (tyC cI cX) A (wC ad cI cX) [.ref (ad 2), .int v1, .int v2] σ (xQv D A (wC ad cI cX) σ') := by
  refine xM_of (lv := [(0, .ref (ad 2)), (1, .int v1), (2, .int v2)]) [.ref (ad 2), .int v1, .int v2] (by decide) hD rfl (Nat.le_of_ble_eq_true rfl) ?_
  intro p e s m args below meth c X hr hl
  unfold mX4_take at h
  refine x_aload_n (pc := 0) X dX4_take_0 rfl 0 rfl ?_
  refine gX4_21 (pc := 1) X dX4_take_1 ?_
  refine x_iconst (pc := 4) (v := (-1)) X dX4_take_4 (by decide) ?_
  refine x_icmp_eq (pc := 5) X 28 dX4_take_5 (by decide) (fun hc => ?_) (fun hc => ?_)
  · have h := xit hc h
    refine x_sub [0] rfl ?_
    exact wX4_take_L28 X hr hl F _ h
  · have h := xif hc h
    refine x_aload_n (pc := 8) X dX4_take_8 rfl 0 rfl ?_
    refine gX4_21 (pc := 9) X dX4_take_9 ?_
    refine x_iload_n (pc := 12) X dX4_take_12 rfl 2 rfl ?_
    refine x_icmp_ge (pc := 13) X 28 dX4_take_13 (by decide) (fun hc => ?_) (fun hc => ?_)
    · have h := xit hc h
      refine x_sub [0] rfl ?_
      exact wX4_take_L28 X hr hl F _ h
    · have h := xif hc h
      refine x_aload_n (pc := 16) X dX4_take_16 rfl 0 rfl ?_
      refine gX4_21 (pc := 17) X dX4_take_17 ?_
      refine x_aload_n (pc := 20) X dX4_take_20 rfl 0 rfl ?_
      refine gX4_15 (pc := 21) X dX4_take_21 ?_
      refine x_alen (pc := 24) X 7 0 (qaX4_row) rfl rfl dX4_take_24 ?_
      refine x_icmp_lt (pc := 25) X 36 dX4_take_25 (by decide) (fun hc => ?_) (fun hc => ?_)
      · have h := xit hc h
        refine x_aload_n (pc := 36) X dX4_take_36 rfl 0 rfl ?_
        refine gX4_15 (pc := 37) X dX4_take_37 ?_
        refine x_aload_n (pc := 40) X dX4_take_40 rfl 0 rfl ?_
        refine gX4_21 (pc := 41) X dX4_take_41 ?_
        refine x_iload_n (pc := 44) X dX4_take_44 rfl 1 rfl ?_
        obtain ⟨hb45, h⟩ := xck_some h
        refine x_iast (pc := 45) (σ' := (xsA σ 0 (Int32.toNatClampNeg (xI σ 3)) v1)) X 7 0 (qaX4_row) rfl (saX4_row _) hb45 dX4_take_45 ?_
        refine x_aload_n (pc := 46) X dX4_take_46 rfl 0 rfl ?_
        refine x_dup (pc := 47) X dX4_take_47 rfl ?_
        refine gX4_21 (pc := 48) X dX4_take_48 ?_
        refine x_iconst (pc := 51) (v := 1) X dX4_take_51 (by decide) ?_
        refine x_iadd (pc := 52) X dX4_take_52 ?_
        refine uX4_21 (pc := 53) X dX4_take_53 ?_
        refine x_sub [] rfl ?_
        exact wX4_take_L56 X hr hl F _ h
      · have h := xif hc h
        refine x_sub [0] rfl ?_
        exact wX4_take_L28 X hr hl F _ h
set_option maxRecDepth 100000 in
set_option maxHeartbeats 4000000 in
theorem wX4_seatOne_L49 {p : Program} {l : Launch} {e : Env} {s : State} {m : MethodId} {args : Array Value} {below : List Frame} {meth : Method} {c : Code} {D : va_G} {A : Nat → Prop} {ad : Nat → Nat} {cI cX : ClassId} {r : Int32} {σ' : xSt} (X : xX p s m args c cX4_seatOne 4 RX4 D (tyC cI cX) A (wC ad cI cX)) (hr : meth.sig.returnType = (some .boolean)) (hl : meth.locks = false) (F : Nat) (σ : xSt) (h : mX4_seatOne_L49 F σ = some (r, σ')) : xG p l e ({ frames := 3, cells := 0, slots := 0, locals := 78 }) s m args below meth c (MQ below (xQi D A (wC ad cI cX) r σ') args s 0 0 A) 4 D A (wC ad cI cX) σ 49 [] [] := by
  unfold mX4_seatOne_L49 at h
  refine x_iconst (pc := 49) (v := 0) X dX4_seatOne_49 (by decide) ?_
  obtain ⟨hb50, h⟩ := xck_some h
  exact x_zret (pc := 50) X hr hl hb50 h dX4_seatOne_50
set_option maxRecDepth 100000 in
set_option maxHeartbeats 4000000 in
theorem wX4_seatOne_L43 {p : Program} {l : Launch} {e : Env} {s : State} {m : MethodId} {args : Array Value} {below : List Frame} {meth : Method} {c : Code} {D : va_G} {A : Nat → Prop} {ad : Nat → Nat} {cI cX : ClassId} {r : Int32} {σ' : xSt} {c2 : Int32 → Int32 → Int32 → xSt → Option (Int32 × xSt)} (X : xX p s m args c cX4_seatOne 4 RX4 D (tyC cI cX) A (wC ad cI cX)) (hr : meth.sig.returnType = (some .boolean)) (hl : meth.locks = false) (F : Nat) (hc2 : ∀ (v1 : Int32) (v2 : Int32) (v3 : Int32) (σ : xSt), c2 v1 v2 v3 σ = some (r, σ') → xG p l e ({ frames := 3, cells := 0, slots := 0, locals := 78 }) s m args below meth c (MQ below (xQi D A (wC ad cI cX) r σ') args s 0 0 A) 4 D A (wC ad cI cX) σ 2 [(0, .ref (ad 2)), (1, .int v1), (2, .int v2), (3, .int v3)] []) (v1 : Int32) (v2 : Int32) (v3 : Int32) (σ : xSt) (h : mX4_seatOne_L43 F c2 v1 v2 v3 σ = some (r, σ')) : xG p l e ({ frames := 3, cells := 0, slots := 0, locals := 78 }) s m args below meth c (MQ below (xQi D A (wC ad cI cX) r σ') args s 0 0 A) 4 D A (wC ad cI cX) σ 43 [(0, .ref (ad 2)), (1, .int v1), (2, .int v2), (3, .int v3)] [] := by
  unfold mX4_seatOne_L43 at h
  refine x_iinc (pc := 43) (v := (v3 + 1)) (lv' := [(3, .int (v3 + 1)), (0, .ref (ad 2)), (1, .int v1), (2, .int v2)]) X dX4_seatOne_43 3 rfl rfl (by decide) rfl ?_
  refine x_goto (pc := 46) X 2 dX4_seatOne_46 (by decide) ?_
  refine x_sub [1, 2, 3, 0] rfl ?_
  exact hc2 _ _ _ _ h
set_option maxRecDepth 100000 in
set_option maxHeartbeats 4000000 in
theorem wX4_seatOne_L30 {p : Program} {l : Launch} {e : Env} {s : State} {m : MethodId} {args : Array Value} {below : List Frame} {meth : Method} {c : Code} {D : va_G} {A : Nat → Prop} {ad : Nat → Nat} {cI cX : ClassId} {r : Int32} {σ' : xSt} (X : xX p s m args c cX4_seatOne 4 RX4 D (tyC cI cX) A (wC ad cI cX)) (hr : meth.sig.returnType = (some .boolean)) (hl : meth.locks = false) (F : Nat) (v1 : Int32) (v3 : Int32) (σ : xSt) (h : mX4_seatOne_L30 F v1 v3 σ = some (r, σ')) : xG p l e ({ frames := 3, cells := 0, slots := 0, locals := 78 }) s m args below meth c (MQ below (xQi D A (wC ad cI cX) r σ') args s 0 0 A) 4 D A (wC ad cI cX) σ 30 [(0, .ref (ad 2)), (1, .int v1), (3, .int v3)] [] := by
  unfold mX4_seatOne_L30 at h
  refine x_aload_n (pc := 30) X dX4_seatOne_30 rfl 0 rfl ?_
  refine x_bipush (pc := 31) (v := 8) X dX4_seatOne_31 (by decide) ?_
  refine x_iload_n (pc := 33) X dX4_seatOne_33 rfl 1 rfl ?_
  refine x_imul (pc := 34) X dX4_seatOne_34 ?_
  refine x_iload_n (pc := 35) X dX4_seatOne_35 rfl 2 rfl ?_
  refine x_iadd (pc := 36) X dX4_seatOne_36 ?_
  refine x_iconst (pc := 37) (v := 2) X dX4_seatOne_37 (by decide) ?_
  obtain ⟨σ38, hq38, h⟩ := xb1_some h
  refine x_callvV (pc := 38) (As := [.int ((8 * v1) + v3), .int 2]) (rest := []) X (kX4_take l X.2.2.2.2.2.2.2 F _ _ _ _ hq38) kvX4_72 rfl (qX4) ⟨rfl, rfl, Nat.le_of_ble_eq_true rfl, Nat.le_of_ble_eq_true rfl⟩ rfl rfl (Nat.le_of_ble_eq_true rfl) dX4_seatOne_38 ?_
  refine x_iconst (pc := 41) (v := 1) X dX4_seatOne_41 (by decide) ?_
  obtain ⟨hb42, h⟩ := xck_some h
  exact x_zret (pc := 42) X hr hl hb42 h dX4_seatOne_42
set_option maxRecDepth 100000 in
set_option maxHeartbeats 4000000 in
theorem wX4_seatOne_S2 {p : Program} {l : Launch} {e : Env} {s : State} {m : MethodId} {args : Array Value} {below : List Frame} {meth : Method} {c : Code} {D : va_G} {A : Nat → Prop} {ad : Nat → Nat} {cI cX : ClassId} {r : Int32} {σ' : xSt} {c2 : Int32 → Int32 → Int32 → xSt → Option (Int32 × xSt)} (X : xX p s m args c cX4_seatOne 4 RX4 D (tyC cI cX) A (wC ad cI cX)) (hr : meth.sig.returnType = (some .boolean)) (hl : meth.locks = false) (F : Nat) (hc2 : ∀ (v1 : Int32) (v2 : Int32) (v3 : Int32) (σ : xSt), c2 v1 v2 v3 σ = some (r, σ') → xG p l e ({ frames := 3, cells := 0, slots := 0, locals := 78 }) s m args below meth c (MQ below (xQi D A (wC ad cI cX) r σ') args s 0 0 A) 4 D A (wC ad cI cX) σ 2 [(0, .ref (ad 2)), (1, .int v1), (2, .int v2), (3, .int v3)] []) (v1 : Int32) (v2 : Int32) (v3 : Int32) (σ : xSt) (h : mX4_seatOne_S2 F c2 v1 v2 v3 σ = some (r, σ')) : xG p l e ({ frames := 3, cells := 0, slots := 0, locals := 78 }) s m args below meth c (MQ below (xQi D A (wC ad cI cX) r σ') args s 0 0 A) 4 D A (wC ad cI cX) σ 2 [(0, .ref (ad 2)), (1, .int v1), (2, .int v2), (3, .int v3)] [] := by
  unfold mX4_seatOne_S2 at h
  refine x_iload_n (pc := 2) X dX4_seatOne_2 rfl 3 rfl ?_
  refine x_aload_n (pc := 3) X dX4_seatOne_3 rfl 0 rfl ?_
  refine gX4_37 (pc := 4) X dX4_seatOne_4 ?_
  refine gX4_66 (pc := 7) X dX4_seatOne_7 ?_
  refine gX4_47 (pc := 10) X 1 (by decide) dX4_seatOne_10 ?_
  refine x_icmp_ge (pc := 13) X 49 dX4_seatOne_13 (by decide) (fun hc => ?_) (fun hc => ?_)
  · have h := xit hc h
    refine x_sub [] rfl ?_
    exact wX4_seatOne_L49 X hr hl F _ h
  · have h := xif hc h
    refine x_iload_n (pc := 16) X dX4_seatOne_16 rfl 3 rfl ?_
    refine x_iload_n (pc := 17) X dX4_seatOne_17 rfl 2 rfl ?_
    refine x_icmp_eq (pc := 18) X 43 dX4_seatOne_18 (by decide) (fun hc => ?_) (fun hc => ?_)
    · have h := xit hc h
      refine x_sub [0, 1, 2, 3] rfl ?_
      exact wX4_seatOne_L43 X hr hl F hc2 _ _ _ _ h
    · have h := xif hc h
      refine x_aload_n (pc := 21) X dX4_seatOne_21 rfl 0 rfl ?_
      refine x_iload_n (pc := 22) X dX4_seatOne_22 rfl 1 rfl ?_
      refine x_iload_n (pc := 23) X dX4_seatOne_23 rfl 3 rfl ?_
      obtain ⟨r24, σ24, hq24, h⟩ := xb2_some h
      refine x_calliV (pc := 24) (As := [.int v1, .int v3]) (rest := []) X (kX4_comesOutWith l X.2.2.2.2.2.2.2 F _ _ _ _ _ hq24) kvX4_69 rfl (qX4) ⟨rfl, rfl, Nat.le_of_ble_eq_true rfl, Nat.le_of_ble_eq_true rfl⟩ rfl rfl (Nat.le_of_ble_eq_true rfl) dX4_seatOne_24 ?_
      refine x_if_eq (pc := 27) X 43 dX4_seatOne_27 (by decide) (fun hc => ?_) (fun hc => ?_)
      · have h := xit hc h
        refine x_sub [0, 1, 2, 3] rfl ?_
        exact wX4_seatOne_L43 X hr hl F hc2 _ _ _ _ h
      · have h := xif hc h
        refine x_sub [0, 1, 3] rfl ?_
        exact wX4_seatOne_L30 X hr hl F _ _ _ h
theorem wX4_seatOne_L2 {p : Program} {l : Launch} {e : Env} {s : State} {m : MethodId} {args : Array Value} {below : List Frame} {meth : Method} {c : Code} {D : va_G} {A : Nat → Prop} {ad : Nat → Nat} {cI cX : ClassId} {r : Int32} {σ' : xSt} (X : xX p s m args c cX4_seatOne 4 RX4 D (tyC cI cX) A (wC ad cI cX)) (hr : meth.sig.returnType = (some .boolean)) (hl : meth.locks = false) (F : Nat) : ∀ (n : Nat) (v1 : Int32) (v2 : Int32) (v3 : Int32) (σ : xSt), mX4_seatOne_L2 F n v1 v2 v3 σ = some (r, σ') → xG p l e ({ frames := 3, cells := 0, slots := 0, locals := 78 }) s m args below meth c (MQ below (xQi D A (wC ad cI cX) r σ') args s 0 0 A) 4 D A (wC ad cI cX) σ 2 [(0, .ref (ad 2)), (1, .int v1), (2, .int v2), (3, .int v3)] [] := by
  intro n
  induction n with
  | zero => intro v1 v2 v3 σ h; cases h
  | succ n ih => intro v1 v2 v3 σ h; exact wX4_seatOne_S2 X hr hl F ih v1 v2 v3 σ h
set_option maxRecDepth 100000 in
set_option maxHeartbeats 4000000 in
theorem kX4_seatOne (l : Launch) {D : va_G} {A : Nat → Prop} {ad : Nat → Nat} {cI cX : ClassId} (hD : ∀ σ, va_D A ((wC ad cI cX) σ)) (F : Nat) (v1 : Int32) (v2 : Int32) (σ : xSt) (r : Int32) (σ' : xSt) (h : mX4_seatOne F v1 v2 σ = some (r, σ')) : xM l yX4_seatOne cX4_seatOne 4 (some .boolean) ({ frames := 3, cells := 0, slots := 0, locals := 78 }) D (tyC cI cX) A (wC ad cI cX) [.ref (ad 2), .int v1, .int v2] σ (xQi D A (wC ad cI cX) r σ') := by
  refine xM_of (lv := [(0, .ref (ad 2)), (1, .int v1), (2, .int v2)]) [.ref (ad 2), .int v1, .int v2] (by decide) hD rfl (Nat.le_of_ble_eq_true rfl) ?_
  intro p e s m args below meth c X hr hl
  unfold mX4_seatOne at h
  refine x_iconst (pc := 0) (v := 0) X dX4_seatOne_0 (by decide) ?_
  refine x_istore_n (pc := 1) (lv' := [(3, .int 0), (0, .ref (ad 2)), (1, .int v1), (2, .int v2)]) X dX4_seatOne_1 rfl (by decide) rfl ?_
  refine x_sub [1, 2, 3, 0] rfl ?_
  exact wX4_seatOne_L2 X hr hl F F _ _ _ _ h
set_option maxRecDepth 100000 in
set_option maxHeartbeats 4000000 in
theorem wX4_seatTwo_L142 {p : Program} {l : Launch} {e : Env} {s : State} {m : MethodId} {args : Array Value} {below : List Frame} {meth : Method} {c : Code} {D : va_G} {A : Nat → Prop} {ad : Nat → Nat} {cI cX : ClassId} {r : Int32} {σ' : xSt} (X : xX p s m args c cX4_seatTwo 6 RX4 D (tyC cI cX) A (wC ad cI cX)) (hr : meth.sig.returnType = (some .boolean)) (hl : meth.locks = false) (F : Nat) (σ : xSt) (h : mX4_seatTwo_L142 F σ = some (r, σ')) : xG p l e ({ frames := 3, cells := 0, slots := 0, locals := 78 }) s m args below meth c (MQ below (xQi D A (wC ad cI cX) r σ') args s 0 0 A) 6 D A (wC ad cI cX) σ 142 [] [] := by
  unfold mX4_seatTwo_L142 at h
  refine x_iconst (pc := 142) (v := 0) X dX4_seatTwo_142 (by decide) ?_
  obtain ⟨hb143, h⟩ := xck_some h
  exact x_zret (pc := 143) X hr hl hb143 h dX4_seatTwo_143
set_option maxRecDepth 100000 in
set_option maxHeartbeats 4000000 in
theorem wX4_seatTwo_L136 {p : Program} {l : Launch} {e : Env} {s : State} {m : MethodId} {args : Array Value} {below : List Frame} {meth : Method} {c : Code} {D : va_G} {A : Nat → Prop} {ad : Nat → Nat} {cI cX : ClassId} {r : Int32} {σ' : xSt} {c2 : Int32 → Int32 → Int32 → xSt → Option (Int32 × xSt)} (X : xX p s m args c cX4_seatTwo 6 RX4 D (tyC cI cX) A (wC ad cI cX)) (hr : meth.sig.returnType = (some .boolean)) (hl : meth.locks = false) (F : Nat) (hc2 : ∀ (v1 : Int32) (v2 : Int32) (v3 : Int32) (σ : xSt), c2 v1 v2 v3 σ = some (r, σ') → xG p l e ({ frames := 3, cells := 0, slots := 0, locals := 78 }) s m args below meth c (MQ below (xQi D A (wC ad cI cX) r σ') args s 0 0 A) 6 D A (wC ad cI cX) σ 2 [(0, .ref (ad 2)), (1, .int v1), (2, .int v2), (3, .int v3)] []) (v1 : Int32) (v2 : Int32) (v3 : Int32) (σ : xSt) (h : mX4_seatTwo_L136 F c2 v1 v2 v3 σ = some (r, σ')) : xG p l e ({ frames := 3, cells := 0, slots := 0, locals := 78 }) s m args below meth c (MQ below (xQi D A (wC ad cI cX) r σ') args s 0 0 A) 6 D A (wC ad cI cX) σ 136 [(0, .ref (ad 2)), (1, .int v1), (2, .int v2), (3, .int v3)] [] := by
  unfold mX4_seatTwo_L136 at h
  refine x_iinc (pc := 136) (v := (v3 + 1)) (lv' := [(3, .int (v3 + 1)), (0, .ref (ad 2)), (1, .int v1), (2, .int v2)]) X dX4_seatTwo_136 3 rfl rfl (by decide) rfl ?_
  refine x_goto (pc := 139) X 2 dX4_seatTwo_139 (by decide) ?_
  refine x_sub [1, 2, 3, 0] rfl ?_
  exact hc2 _ _ _ _ h
set_option maxRecDepth 100000 in
set_option maxHeartbeats 4000000 in
theorem wX4_seatTwo_L111 {p : Program} {l : Launch} {e : Env} {s : State} {m : MethodId} {args : Array Value} {below : List Frame} {meth : Method} {c : Code} {D : va_G} {A : Nat → Prop} {ad : Nat → Nat} {cI cX : ClassId} {r : Int32} {σ' : xSt} (X : xX p s m args c cX4_seatTwo 6 RX4 D (tyC cI cX) A (wC ad cI cX)) (hr : meth.sig.returnType = (some .boolean)) (hl : meth.locks = false) (F : Nat) (v1 : Int32) (v3 : Int32) (v4 : Int32) (σ : xSt) (h : mX4_seatTwo_L111 F v1 v3 v4 σ = some (r, σ')) : xG p l e ({ frames := 3, cells := 0, slots := 0, locals := 78 }) s m args below meth c (MQ below (xQi D A (wC ad cI cX) r σ') args s 0 0 A) 6 D A (wC ad cI cX) σ 111 [(0, .ref (ad 2)), (1, .int v1), (3, .int v3), (4, .int v4)] [] := by
  unfold mX4_seatTwo_L111 at h
  refine x_aload_n (pc := 111) X dX4_seatTwo_111 rfl 0 rfl ?_
  refine x_bipush (pc := 112) (v := 8) X dX4_seatTwo_112 (by decide) ?_
  refine x_iload_n (pc := 114) X dX4_seatTwo_114 rfl 1 rfl ?_
  refine x_imul (pc := 115) X dX4_seatTwo_115 ?_
  refine x_iload_n (pc := 116) X dX4_seatTwo_116 rfl 2 rfl ?_
  refine x_iadd (pc := 117) X dX4_seatTwo_117 ?_
  refine x_iconst (pc := 118) (v := 2) X dX4_seatTwo_118 (by decide) ?_
  obtain ⟨σ119, hq119, h⟩ := xb1_some h
  refine x_callvV (pc := 119) (As := [.int ((8 * v1) + v3), .int 2]) (rest := []) X (kX4_take l X.2.2.2.2.2.2.2 F _ _ _ _ hq119) kvX4_72 rfl (qX4) ⟨rfl, rfl, Nat.le_of_ble_eq_true rfl, Nat.le_of_ble_eq_true rfl⟩ rfl rfl (Nat.le_of_ble_eq_true rfl) dX4_seatTwo_119 ?_
  refine x_aload_n (pc := 122) X dX4_seatTwo_122 rfl 0 rfl ?_
  refine x_bipush (pc := 123) (v := 8) X dX4_seatTwo_123 (by decide) ?_
  refine x_iload_n (pc := 125) X dX4_seatTwo_125 rfl 1 rfl ?_
  refine x_imul (pc := 126) X dX4_seatTwo_126 ?_
  refine x_iload (pc := 127) X dX4_seatTwo_127 3 rfl ?_
  refine x_iadd (pc := 129) X dX4_seatTwo_129 ?_
  refine x_iconst (pc := 130) (v := 2) X dX4_seatTwo_130 (by decide) ?_
  obtain ⟨σ131, hq131, h⟩ := xb1_some h
  refine x_callvV (pc := 131) (As := [.int ((8 * v1) + v4), .int 2]) (rest := []) X (kX4_take l X.2.2.2.2.2.2.2 F _ _ _ _ hq131) kvX4_72 rfl (qX4) ⟨rfl, rfl, Nat.le_of_ble_eq_true rfl, Nat.le_of_ble_eq_true rfl⟩ rfl rfl (Nat.le_of_ble_eq_true rfl) dX4_seatTwo_131 ?_
  refine x_iconst (pc := 134) (v := 1) X dX4_seatTwo_134 (by decide) ?_
  obtain ⟨hb135, h⟩ := xck_some h
  exact x_zret (pc := 135) X hr hl hb135 h dX4_seatTwo_135
set_option maxRecDepth 100000 in
set_option maxHeartbeats 4000000 in
theorem wX4_seatTwo_L95 {p : Program} {l : Launch} {e : Env} {s : State} {m : MethodId} {args : Array Value} {below : List Frame} {meth : Method} {c : Code} {D : va_G} {A : Nat → Prop} {ad : Nat → Nat} {cI cX : ClassId} {r : Int32} {σ' : xSt} {c2 : Int32 → Int32 → Int32 → xSt → Option (Int32 × xSt)} (X : xX p s m args c cX4_seatTwo 6 RX4 D (tyC cI cX) A (wC ad cI cX)) (hr : meth.sig.returnType = (some .boolean)) (hl : meth.locks = false) (F : Nat) (hc2 : ∀ (v1 : Int32) (v2 : Int32) (v3 : Int32) (σ : xSt), c2 v1 v2 v3 σ = some (r, σ') → xG p l e ({ frames := 3, cells := 0, slots := 0, locals := 78 }) s m args below meth c (MQ below (xQi D A (wC ad cI cX) r σ') args s 0 0 A) 6 D A (wC ad cI cX) σ 2 [(0, .ref (ad 2)), (1, .int v1), (2, .int v2), (3, .int v3)] []) (v1 : Int32) (v2 : Int32) (v3 : Int32) (v4 : Int32) (σ : xSt) (h : mX4_seatTwo_L95 F c2 v1 v2 v3 v4 σ = some (r, σ')) : xG p l e ({ frames := 3, cells := 0, slots := 0, locals := 78 }) s m args below meth c (MQ below (xQi D A (wC ad cI cX) r σ') args s 0 0 A) 6 D A (wC ad cI cX) σ 95 [(0, .ref (ad 2)), (1, .int v1), (2, .int v2), (3, .int v3), (4, .int v4)] [] := by
  unfold mX4_seatTwo_L95 at h
  refine x_aload_n (pc := 95) X dX4_seatTwo_95 rfl 0 rfl ?_
  refine gX4_37 (pc := 96) X dX4_seatTwo_96 ?_
  refine gX4_76 (pc := 99) X dX4_seatTwo_99 ?_
  obtain ⟨σ102, hq102, h⟩ := xb1_some h
  refine x_callvV (pc := 102) (As := []) (rest := []) X (kX7_drop l X.2.2.2.2.2.2.2 F 0 (by decide) _ _ hq102) kvX4_86 rfl (qX7 0 (by decide)) ⟨rfl, rfl, Nat.le_of_ble_eq_true rfl, Nat.le_of_ble_eq_true rfl⟩ rfl rfl (Nat.le_of_ble_eq_true rfl) dX4_seatTwo_102 ?_
  refine x_iload (pc := 105) X dX4_seatTwo_105 4 rfl ?_
  refine x_iconst (pc := 107) (v := (-1)) X dX4_seatTwo_107 (by decide) ?_
  refine x_icmp_eq (pc := 108) X 136 dX4_seatTwo_108 (by decide) (fun hc => ?_) (fun hc => ?_)
  · have h := xit hc h
    refine x_sub [0, 1, 2, 3] rfl ?_
    exact wX4_seatTwo_L136 X hr hl F hc2 _ _ _ _ h
  · have h := xif hc h
    refine x_sub [0, 1, 3, 4] rfl ?_
    exact wX4_seatTwo_L111 X hr hl F _ _ _ _ h
set_option maxRecDepth 100000 in
set_option maxHeartbeats 4000000 in
theorem wX4_seatTwo_L89 {p : Program} {l : Launch} {e : Env} {s : State} {m : MethodId} {args : Array Value} {below : List Frame} {meth : Method} {c : Code} {D : va_G} {A : Nat → Prop} {ad : Nat → Nat} {cI cX : ClassId} {r : Int32} {σ' : xSt} {c2 : Int32 → Int32 → Int32 → xSt → Option (Int32 × xSt)} {c48 : Int32 → Int32 → Int32 → Int32 → Int32 → xSt → Option (Int32 × xSt)} (X : xX p s m args c cX4_seatTwo 6 RX4 D (tyC cI cX) A (wC ad cI cX)) (hr : meth.sig.returnType = (some .boolean)) (hl : meth.locks = false) (F : Nat) (hc2 : ∀ (v1 : Int32) (v2 : Int32) (v3 : Int32) (σ : xSt), c2 v1 v2 v3 σ = some (r, σ') → xG p l e ({ frames := 3, cells := 0, slots := 0, locals := 78 }) s m args below meth c (MQ below (xQi D A (wC ad cI cX) r σ') args s 0 0 A) 6 D A (wC ad cI cX) σ 2 [(0, .ref (ad 2)), (1, .int v1), (2, .int v2), (3, .int v3)] []) (hc48 : ∀ (v1 : Int32) (v2 : Int32) (v3 : Int32) (v4 : Int32) (v5 : Int32) (σ : xSt), c48 v1 v2 v3 v4 v5 σ = some (r, σ') → xG p l e ({ frames := 3, cells := 0, slots := 0, locals := 78 }) s m args below meth c (MQ below (xQi D A (wC ad cI cX) r σ') args s 0 0 A) 6 D A (wC ad cI cX) σ 48 [(0, .ref (ad 2)), (1, .int v1), (2, .int v2), (3, .int v3), (4, .int v4), (5, .int v5)] []) (v1 : Int32) (v2 : Int32) (v3 : Int32) (v4 : Int32) (v5 : Int32) (σ : xSt) (h : mX4_seatTwo_L89 F c2 c48 v1 v2 v3 v4 v5 σ = some (r, σ')) : xG p l e ({ frames := 3, cells := 0, slots := 0, locals := 78 }) s m args below meth c (MQ below (xQi D A (wC ad cI cX) r σ') args s 0 0 A) 6 D A (wC ad cI cX) σ 89 [(0, .ref (ad 2)), (1, .int v1), (2, .int v2), (3, .int v3), (4, .int v4), (5, .int v5)] [] := by
  unfold mX4_seatTwo_L89 at h
  refine x_iinc (pc := 89) (v := (v5 + 1)) (lv' := [(5, .int (v5 + 1)), (0, .ref (ad 2)), (1, .int v1), (2, .int v2), (3, .int v3), (4, .int v4)]) X dX4_seatTwo_89 5 rfl rfl (by decide) rfl ?_
  refine x_goto (pc := 92) X 48 dX4_seatTwo_92 (by decide) ?_
  refine x_sub [1, 2, 3, 4, 5, 0] rfl ?_
  exact hc48 _ _ _ _ _ _ h
set_option maxRecDepth 100000 in
set_option maxHeartbeats 4000000 in
theorem wX4_seatTwo_S48 {p : Program} {l : Launch} {e : Env} {s : State} {m : MethodId} {args : Array Value} {below : List Frame} {meth : Method} {c : Code} {D : va_G} {A : Nat → Prop} {ad : Nat → Nat} {cI cX : ClassId} {r : Int32} {σ' : xSt} {c2 : Int32 → Int32 → Int32 → xSt → Option (Int32 × xSt)} {c48 : Int32 → Int32 → Int32 → Int32 → Int32 → xSt → Option (Int32 × xSt)} (X : xX p s m args c cX4_seatTwo 6 RX4 D (tyC cI cX) A (wC ad cI cX)) (hr : meth.sig.returnType = (some .boolean)) (hl : meth.locks = false) (F : Nat) (hc2 : ∀ (v1 : Int32) (v2 : Int32) (v3 : Int32) (σ : xSt), c2 v1 v2 v3 σ = some (r, σ') → xG p l e ({ frames := 3, cells := 0, slots := 0, locals := 78 }) s m args below meth c (MQ below (xQi D A (wC ad cI cX) r σ') args s 0 0 A) 6 D A (wC ad cI cX) σ 2 [(0, .ref (ad 2)), (1, .int v1), (2, .int v2), (3, .int v3)] []) (hc48 : ∀ (v1 : Int32) (v2 : Int32) (v3 : Int32) (v4 : Int32) (v5 : Int32) (σ : xSt), c48 v1 v2 v3 v4 v5 σ = some (r, σ') → xG p l e ({ frames := 3, cells := 0, slots := 0, locals := 78 }) s m args below meth c (MQ below (xQi D A (wC ad cI cX) r σ') args s 0 0 A) 6 D A (wC ad cI cX) σ 48 [(0, .ref (ad 2)), (1, .int v1), (2, .int v2), (3, .int v3), (4, .int v4), (5, .int v5)] []) (v1 : Int32) (v2 : Int32) (v3 : Int32) (v4 : Int32) (v5 : Int32) (σ : xSt) (h : mX4_seatTwo_S48 F c2 c48 v1 v2 v3 v4 v5 σ = some (r, σ')) : xG p l e ({ frames := 3, cells := 0, slots := 0, locals := 78 }) s m args below meth c (MQ below (xQi D A (wC ad cI cX) r σ') args s 0 0 A) 6 D A (wC ad cI cX) σ 48 [(0, .ref (ad 2)), (1, .int v1), (2, .int v2), (3, .int v3), (4, .int v4), (5, .int v5)] [] := by
  unfold mX4_seatTwo_S48 at h
  refine x_iload (pc := 48) X dX4_seatTwo_48 5 rfl ?_
  refine x_aload_n (pc := 50) X dX4_seatTwo_50 rfl 0 rfl ?_
  refine gX4_37 (pc := 51) X dX4_seatTwo_51 ?_
  refine gX4_66 (pc := 54) X dX4_seatTwo_54 ?_
  refine gX4_47 (pc := 57) X 1 (by decide) dX4_seatTwo_57 ?_
  refine x_icmp_ge (pc := 60) X 95 dX4_seatTwo_60 (by decide) (fun hc => ?_) (fun hc => ?_)
  · have h := xit hc h
    refine x_sub [0, 1, 2, 3, 4] rfl ?_
    exact wX4_seatTwo_L95 X hr hl F hc2 _ _ _ _ _ h
  · have h := xif hc h
    refine x_iload (pc := 63) X dX4_seatTwo_63 4 rfl ?_
    refine x_iconst (pc := 65) (v := (-1)) X dX4_seatTwo_65 (by decide) ?_
    refine x_icmp_ne (pc := 66) X 95 dX4_seatTwo_66 (by decide) (fun hc => ?_) (fun hc => ?_)
    · have h := xif hc h
      refine x_sub [0, 1, 2, 3, 4] rfl ?_
      exact wX4_seatTwo_L95 X hr hl F hc2 _ _ _ _ _ h
    · have h := xit hc h
      refine x_iload (pc := 69) X dX4_seatTwo_69 5 rfl ?_
      refine x_iload_n (pc := 71) X dX4_seatTwo_71 rfl 2 rfl ?_
      refine x_icmp_eq (pc := 72) X 89 dX4_seatTwo_72 (by decide) (fun hc => ?_) (fun hc => ?_)
      · have h := xit hc h
        refine x_sub [0, 1, 2, 3, 4, 5] rfl ?_
        exact wX4_seatTwo_L89 X hr hl F hc2 hc48 _ _ _ _ _ _ h
      · have h := xif hc h
        refine x_aload_n (pc := 75) X dX4_seatTwo_75 rfl 0 rfl ?_
        refine x_iload_n (pc := 76) X dX4_seatTwo_76 rfl 1 rfl ?_
        refine x_iload (pc := 77) X dX4_seatTwo_77 5 rfl ?_
        obtain ⟨r79, σ79, hq79, h⟩ := xb2_some h
        refine x_calliV (pc := 79) (As := [.int v1, .int v5]) (rest := []) X (kX4_comesOutWith l X.2.2.2.2.2.2.2 F _ _ _ _ _ hq79) kvX4_69 rfl (qX4) ⟨rfl, rfl, Nat.le_of_ble_eq_true rfl, Nat.le_of_ble_eq_true rfl⟩ rfl rfl (Nat.le_of_ble_eq_true rfl) dX4_seatTwo_79 ?_
        refine x_if_eq (pc := 82) X 89 dX4_seatTwo_82 (by decide) (fun hc => ?_) (fun hc => ?_)
        · have h := xit hc h
          refine x_sub [0, 1, 2, 3, 4, 5] rfl ?_
          exact wX4_seatTwo_L89 X hr hl F hc2 hc48 _ _ _ _ _ _ h
        · have h := xif hc h
          refine x_iload (pc := 85) X dX4_seatTwo_85 5 rfl ?_
          refine x_istore (pc := 87) (lv' := [(4, .int v5), (0, .ref (ad 2)), (1, .int v1), (2, .int v2), (3, .int v3), (5, .int v5)]) X dX4_seatTwo_87 (by decide) rfl ?_
          refine x_sub [1, 2, 3, 4, 0, 5] rfl ?_
          exact wX4_seatTwo_L89 X hr hl F hc2 hc48 _ _ _ _ _ _ h
theorem wX4_seatTwo_L48 {p : Program} {l : Launch} {e : Env} {s : State} {m : MethodId} {args : Array Value} {below : List Frame} {meth : Method} {c : Code} {D : va_G} {A : Nat → Prop} {ad : Nat → Nat} {cI cX : ClassId} {r : Int32} {σ' : xSt} {c2 : Int32 → Int32 → Int32 → xSt → Option (Int32 × xSt)} (X : xX p s m args c cX4_seatTwo 6 RX4 D (tyC cI cX) A (wC ad cI cX)) (hr : meth.sig.returnType = (some .boolean)) (hl : meth.locks = false) (F : Nat) (hc2 : ∀ (v1 : Int32) (v2 : Int32) (v3 : Int32) (σ : xSt), c2 v1 v2 v3 σ = some (r, σ') → xG p l e ({ frames := 3, cells := 0, slots := 0, locals := 78 }) s m args below meth c (MQ below (xQi D A (wC ad cI cX) r σ') args s 0 0 A) 6 D A (wC ad cI cX) σ 2 [(0, .ref (ad 2)), (1, .int v1), (2, .int v2), (3, .int v3)] []) : ∀ (n : Nat) (v1 : Int32) (v2 : Int32) (v3 : Int32) (v4 : Int32) (v5 : Int32) (σ : xSt), mX4_seatTwo_L48 F c2 n v1 v2 v3 v4 v5 σ = some (r, σ') → xG p l e ({ frames := 3, cells := 0, slots := 0, locals := 78 }) s m args below meth c (MQ below (xQi D A (wC ad cI cX) r σ') args s 0 0 A) 6 D A (wC ad cI cX) σ 48 [(0, .ref (ad 2)), (1, .int v1), (2, .int v2), (3, .int v3), (4, .int v4), (5, .int v5)] [] := by
  intro n
  induction n with
  | zero => intro v1 v2 v3 v4 v5 σ h; cases h
  | succ n ih => intro v1 v2 v3 v4 v5 σ h; exact wX4_seatTwo_S48 X hr hl F hc2 ih v1 v2 v3 v4 v5 σ h
set_option maxRecDepth 100000 in
set_option maxHeartbeats 4000000 in
theorem wX4_seatTwo_S2 {p : Program} {l : Launch} {e : Env} {s : State} {m : MethodId} {args : Array Value} {below : List Frame} {meth : Method} {c : Code} {D : va_G} {A : Nat → Prop} {ad : Nat → Nat} {cI cX : ClassId} {r : Int32} {σ' : xSt} {c2 : Int32 → Int32 → Int32 → xSt → Option (Int32 × xSt)} (X : xX p s m args c cX4_seatTwo 6 RX4 D (tyC cI cX) A (wC ad cI cX)) (hr : meth.sig.returnType = (some .boolean)) (hl : meth.locks = false) (F : Nat) (hc2 : ∀ (v1 : Int32) (v2 : Int32) (v3 : Int32) (σ : xSt), c2 v1 v2 v3 σ = some (r, σ') → xG p l e ({ frames := 3, cells := 0, slots := 0, locals := 78 }) s m args below meth c (MQ below (xQi D A (wC ad cI cX) r σ') args s 0 0 A) 6 D A (wC ad cI cX) σ 2 [(0, .ref (ad 2)), (1, .int v1), (2, .int v2), (3, .int v3)] []) (v1 : Int32) (v2 : Int32) (v3 : Int32) (σ : xSt) (h : mX4_seatTwo_S2 F c2 v1 v2 v3 σ = some (r, σ')) : xG p l e ({ frames := 3, cells := 0, slots := 0, locals := 78 }) s m args below meth c (MQ below (xQi D A (wC ad cI cX) r σ') args s 0 0 A) 6 D A (wC ad cI cX) σ 2 [(0, .ref (ad 2)), (1, .int v1), (2, .int v2), (3, .int v3)] [] := by
  unfold mX4_seatTwo_S2 at h
  refine x_iload_n (pc := 2) X dX4_seatTwo_2 rfl 3 rfl ?_
  refine x_aload_n (pc := 3) X dX4_seatTwo_3 rfl 0 rfl ?_
  refine gX4_37 (pc := 4) X dX4_seatTwo_4 ?_
  refine gX4_66 (pc := 7) X dX4_seatTwo_7 ?_
  refine gX4_47 (pc := 10) X 1 (by decide) dX4_seatTwo_10 ?_
  refine x_icmp_ge (pc := 13) X 142 dX4_seatTwo_13 (by decide) (fun hc => ?_) (fun hc => ?_)
  · have h := xit hc h
    refine x_sub [] rfl ?_
    exact wX4_seatTwo_L142 X hr hl F _ h
  · have h := xif hc h
    refine x_iload_n (pc := 16) X dX4_seatTwo_16 rfl 3 rfl ?_
    refine x_iload_n (pc := 17) X dX4_seatTwo_17 rfl 2 rfl ?_
    refine x_icmp_ne (pc := 18) X 24 dX4_seatTwo_18 (by decide) (fun hc => ?_) (fun hc => ?_)
    · have h := xif hc h
      refine x_aload_n (pc := 24) X dX4_seatTwo_24 rfl 0 rfl ?_
      refine gX4_37 (pc := 25) X dX4_seatTwo_25 ?_
      refine gX4_76 (pc := 28) X dX4_seatTwo_28 ?_
      refine x_aload_n (pc := 31) X dX4_seatTwo_31 rfl 0 rfl ?_
      refine gX4_25 (pc := 32) X dX4_seatTwo_32 ?_
      refine x_iload_n (pc := 35) X dX4_seatTwo_35 rfl 1 rfl ?_
      refine x_iload_n (pc := 36) X dX4_seatTwo_36 rfl 3 rfl ?_
      obtain ⟨σ37, hq37, h⟩ := xb1_some h
      refine x_callvV (pc := 37) (As := [.int (xI σ 4), .int v1, .int v3]) (rest := []) X (kX7_add l X.2.2.2.2.2.2.2 F 0 (by decide) _ _ _ _ _ hq37) kvX4_80 rfl (qX7 0 (by decide)) ⟨rfl, rfl, Nat.le_of_ble_eq_true rfl, Nat.le_of_ble_eq_true rfl⟩ rfl rfl (Nat.le_of_ble_eq_true rfl) dX4_seatTwo_37 ?_
      refine x_iconst (pc := 40) (v := (-1)) X dX4_seatTwo_40 (by decide) ?_
      refine x_istore (pc := 41) (lv' := [(4, .int (-1)), (0, .ref (ad 2)), (1, .int v1), (2, .int v2), (3, .int v3)]) X dX4_seatTwo_41 (by decide) rfl ?_
      refine x_iload_n (pc := 43) X dX4_seatTwo_43 rfl 4 rfl ?_
      refine x_iconst (pc := 44) (v := 1) X dX4_seatTwo_44 (by decide) ?_
      refine x_iadd (pc := 45) X dX4_seatTwo_45 ?_
      refine x_istore (pc := 46) (lv' := [(5, .int (v3 + 1)), (4, .int (-1)), (0, .ref (ad 2)), (1, .int v1), (2, .int v2), (3, .int v3)]) X dX4_seatTwo_46 (by decide) rfl ?_
      refine x_sub [2, 3, 4, 5, 1, 0] rfl ?_
      exact wX4_seatTwo_L48 X hr hl F hc2 F _ _ _ _ _ _ h
    · have h := xit hc h
      refine x_goto (pc := 21) X 136 dX4_seatTwo_21 (by decide) ?_
      refine x_sub [0, 1, 2, 3] rfl ?_
      exact wX4_seatTwo_L136 X hr hl F hc2 _ _ _ _ h
theorem wX4_seatTwo_L2 {p : Program} {l : Launch} {e : Env} {s : State} {m : MethodId} {args : Array Value} {below : List Frame} {meth : Method} {c : Code} {D : va_G} {A : Nat → Prop} {ad : Nat → Nat} {cI cX : ClassId} {r : Int32} {σ' : xSt} (X : xX p s m args c cX4_seatTwo 6 RX4 D (tyC cI cX) A (wC ad cI cX)) (hr : meth.sig.returnType = (some .boolean)) (hl : meth.locks = false) (F : Nat) : ∀ (n : Nat) (v1 : Int32) (v2 : Int32) (v3 : Int32) (σ : xSt), mX4_seatTwo_L2 F n v1 v2 v3 σ = some (r, σ') → xG p l e ({ frames := 3, cells := 0, slots := 0, locals := 78 }) s m args below meth c (MQ below (xQi D A (wC ad cI cX) r σ') args s 0 0 A) 6 D A (wC ad cI cX) σ 2 [(0, .ref (ad 2)), (1, .int v1), (2, .int v2), (3, .int v3)] [] := by
  intro n
  induction n with
  | zero => intro v1 v2 v3 σ h; cases h
  | succ n ih => intro v1 v2 v3 σ h; exact wX4_seatTwo_S2 X hr hl F ih v1 v2 v3 σ h
set_option maxRecDepth 100000 in
set_option maxHeartbeats 4000000 in
theorem kX4_seatTwo (l : Launch) {D : va_G} {A : Nat → Prop} {ad : Nat → Nat} {cI cX : ClassId} (hD : ∀ σ, va_D A ((wC ad cI cX) σ)) (F : Nat) (v1 : Int32) (v2 : Int32) (σ : xSt) (r : Int32) (σ' : xSt) (h : mX4_seatTwo F v1 v2 σ = some (r, σ')) : xM l yX4_seatTwo cX4_seatTwo 6 (some .boolean) ({ frames := 3, cells := 0, slots := 0, locals := 78 }) D (tyC cI cX) A (wC ad cI cX) [.ref (ad 2), .int v1, .int v2] σ (xQi D A (wC ad cI cX) r σ') := by
  refine xM_of (lv := [(0, .ref (ad 2)), (1, .int v1), (2, .int v2)]) [.ref (ad 2), .int v1, .int v2] (by decide) hD rfl (Nat.le_of_ble_eq_true rfl) ?_
  intro p e s m args below meth c X hr hl
  unfold mX4_seatTwo at h
  refine x_iconst (pc := 0) (v := 0) X dX4_seatTwo_0 (by decide) ?_
  refine x_istore_n (pc := 1) (lv' := [(3, .int 0), (0, .ref (ad 2)), (1, .int v1), (2, .int v2)]) X dX4_seatTwo_1 rfl (by decide) rfl ?_
  refine x_sub [1, 2, 3, 0] rfl ?_
  exact wX4_seatTwo_L2 X hr hl F F _ _ _ _ h
set_option maxRecDepth 100000 in
set_option maxHeartbeats 4000000 in
theorem wX4_seat_L69 {p : Program} {l : Launch} {e : Env} {s : State} {m : MethodId} {args : Array Value} {below : List Frame} {meth : Method} {c : Code} {D : va_G} {A : Nat → Prop} {ad : Nat → Nat} {cI cX : ClassId} {σ' : xSt} (X : xX p s m args c cX4_seat 4 RX4 D (tyC cI cX) A (wC ad cI cX)) (hr : meth.sig.returnType = none) (hl : meth.locks = false) (F : Nat) (σ : xSt) (h : mX4_seat_L69 F σ = some σ') : xG p l e ({ frames := 4, cells := 0, slots := 0, locals := 103 }) s m args below meth c (MQ below (xQv D A (wC ad cI cX) σ') args s 0 0 A) 4 D A (wC ad cI cX) σ 69 [] [] := by
  unfold mX4_seat_L69 at h
  exact x_vret (pc := 69) X hr hl h dX4_seat_69
set_option maxRecDepth 100000 in
set_option maxHeartbeats 4000000 in
theorem wX4_seat_L63 {p : Program} {l : Launch} {e : Env} {s : State} {m : MethodId} {args : Array Value} {below : List Frame} {meth : Method} {c : Code} {D : va_G} {A : Nat → Prop} {ad : Nat → Nat} {cI cX : ClassId} {σ' : xSt} {c2 : Int32 → Int32 → Int32 → xSt → Option (xSt)} (X : xX p s m args c cX4_seat 4 RX4 D (tyC cI cX) A (wC ad cI cX)) (hr : meth.sig.returnType = none) (hl : meth.locks = false) (F : Nat) (hc2 : ∀ (v1 : Int32) (v2 : Int32) (v3 : Int32) (σ : xSt), c2 v1 v2 v3 σ = some σ' → xG p l e ({ frames := 4, cells := 0, slots := 0, locals := 103 }) s m args below meth c (MQ below (xQv D A (wC ad cI cX) σ') args s 0 0 A) 4 D A (wC ad cI cX) σ 2 [(0, .ref (ad 2)), (1, .int v1), (2, .int v2), (3, .int v3)] []) (v1 : Int32) (v2 : Int32) (v3 : Int32) (σ : xSt) (h : mX4_seat_L63 F c2 v1 v2 v3 σ = some σ') : xG p l e ({ frames := 4, cells := 0, slots := 0, locals := 103 }) s m args below meth c (MQ below (xQv D A (wC ad cI cX) σ') args s 0 0 A) 4 D A (wC ad cI cX) σ 63 [(0, .ref (ad 2)), (1, .int v1), (2, .int v2), (3, .int v3)] [] := by
  unfold mX4_seat_L63 at h
  refine x_iinc (pc := 63) (v := (v3 + 1)) (lv' := [(3, .int (v3 + 1)), (0, .ref (ad 2)), (1, .int v1), (2, .int v2)]) X dX4_seat_63 3 rfl rfl (by decide) rfl ?_
  refine x_goto (pc := 66) X 2 dX4_seat_66 (by decide) ?_
  refine x_sub [1, 2, 3, 0] rfl ?_
  exact hc2 _ _ _ _ h
set_option maxRecDepth 100000 in
set_option maxHeartbeats 4000000 in
theorem wX4_seat_S2 {p : Program} {l : Launch} {e : Env} {s : State} {m : MethodId} {args : Array Value} {below : List Frame} {meth : Method} {c : Code} {D : va_G} {A : Nat → Prop} {ad : Nat → Nat} {cI cX : ClassId} {σ' : xSt} {c2 : Int32 → Int32 → Int32 → xSt → Option (xSt)} (X : xX p s m args c cX4_seat 4 RX4 D (tyC cI cX) A (wC ad cI cX)) (hr : meth.sig.returnType = none) (hl : meth.locks = false) (F : Nat) (hc2 : ∀ (v1 : Int32) (v2 : Int32) (v3 : Int32) (σ : xSt), c2 v1 v2 v3 σ = some σ' → xG p l e ({ frames := 4, cells := 0, slots := 0, locals := 103 }) s m args below meth c (MQ below (xQv D A (wC ad cI cX) σ') args s 0 0 A) 4 D A (wC ad cI cX) σ 2 [(0, .ref (ad 2)), (1, .int v1), (2, .int v2), (3, .int v3)] []) (v1 : Int32) (v2 : Int32) (v3 : Int32) (σ : xSt) (h : mX4_seat_S2 F c2 v1 v2 v3 σ = some σ') : xG p l e ({ frames := 4, cells := 0, slots := 0, locals := 103 }) s m args below meth c (MQ below (xQv D A (wC ad cI cX) σ') args s 0 0 A) 4 D A (wC ad cI cX) σ 2 [(0, .ref (ad 2)), (1, .int v1), (2, .int v2), (3, .int v3)] [] := by
  unfold mX4_seat_S2 at h
  refine x_iload_n (pc := 2) X dX4_seat_2 rfl 3 rfl ?_
  refine x_aload_n (pc := 3) X dX4_seat_3 rfl 0 rfl ?_
  refine gX4_37 (pc := 4) X dX4_seat_4 ?_
  refine gX4_41 (pc := 7) X dX4_seat_7 ?_
  refine gX4_47 (pc := 10) X 0 (by decide) dX4_seat_10 ?_
  refine x_icmp_ge (pc := 13) X 69 dX4_seat_13 (by decide) (fun hc => ?_) (fun hc => ?_)
  · have h := xit hc h
    refine x_sub [] rfl ?_
    exact wX4_seat_L69 X hr hl F _ h
  · have h := xif hc h
    refine x_aload_n (pc := 16) X dX4_seat_16 rfl 0 rfl ?_
    refine gX4_21 (pc := 17) X dX4_seat_17 ?_
    refine x_iconst (pc := 20) (v := (-1)) X dX4_seat_20 (by decide) ?_
    refine x_icmp_eq (pc := 21) X 69 dX4_seat_21 (by decide) (fun hc => ?_) (fun hc => ?_)
    · have h := xit hc h
      refine x_sub [] rfl ?_
      exact wX4_seat_L69 X hr hl F _ h
    · have h := xif hc h
      refine x_iload_n (pc := 24) X dX4_seat_24 rfl 1 rfl ?_
      refine x_iload_n (pc := 25) X dX4_seat_25 rfl 3 rfl ?_
      obtain ⟨r26, σ26, hq26, h⟩ := xb2_some h
      refine x_calliN (pc := 26) (As := [.int v1, .int v3]) (rest := []) X (kX8_holds l X.2.2.2.2.2.2.2 F _ _ _ _ _ hq26) kvX4_52 ⟨rfl, rfl, Nat.le_of_ble_eq_true rfl, Nat.le_of_ble_eq_true rfl⟩ rfl rfl (Nat.le_of_ble_eq_true rfl) dX4_seat_26 ?_
      refine x_if_eq (pc := 29) X 63 dX4_seat_29 (by decide) (fun hc => ?_) (fun hc => ?_)
      · have h := xit hc h
        refine x_sub [0, 1, 2, 3] rfl ?_
        exact wX4_seat_L63 X hr hl F hc2 _ _ _ _ h
      · have h := xif hc h
        refine x_aload_n (pc := 32) X dX4_seat_32 rfl 0 rfl ?_
        refine x_iload_n (pc := 33) X dX4_seat_33 rfl 3 rfl ?_
        obtain ⟨r34, σ34, hq34, h⟩ := xb2_some h
        refine x_calliV (pc := 34) (As := [.int v3]) (rest := []) X (kX4_comesOut l X.2.2.2.2.2.2.2 F _ _ _ _ hq34) kvX4_56 rfl (qX4) ⟨rfl, rfl, Nat.le_of_ble_eq_true rfl, Nat.le_of_ble_eq_true rfl⟩ rfl rfl (Nat.le_of_ble_eq_true rfl) dX4_seat_34 ?_
        refine x_if_ne (pc := 37) X 63 dX4_seat_37 (by decide) (fun hc => ?_) (fun hc => ?_)
        · have h := xif hc h
          refine x_sub [0, 1, 2, 3] rfl ?_
          exact wX4_seat_L63 X hr hl F hc2 _ _ _ _ h
        · have h := xit hc h
          refine x_aload_n (pc := 40) X dX4_seat_40 rfl 0 rfl ?_
          refine x_iload_n (pc := 41) X dX4_seat_41 rfl 3 rfl ?_
          refine x_iload_n (pc := 42) X dX4_seat_42 rfl 2 rfl ?_
          obtain ⟨r43, σ43, hq43, h⟩ := xb2_some h
          refine x_calliV (pc := 43) (As := [.int v3, .int v2]) (rest := []) X (kX4_seatOne l X.2.2.2.2.2.2.2 F _ _ _ _ _ hq43) kvX4_60 rfl (qX4) ⟨rfl, rfl, Nat.le_of_ble_eq_true rfl, Nat.le_of_ble_eq_true rfl⟩ rfl rfl (Nat.le_of_ble_eq_true rfl) dX4_seat_43 ?_
          refine x_if_ne (pc := 46) X 63 dX4_seat_46 (by decide) (fun hc => ?_) (fun hc => ?_)
          · have h := xif hc h
            refine x_sub [0, 1, 2, 3] rfl ?_
            exact wX4_seat_L63 X hr hl F hc2 _ _ _ _ h
          · have h := xit hc h
            refine x_aload_n (pc := 49) X dX4_seat_49 rfl 0 rfl ?_
            refine x_iload_n (pc := 50) X dX4_seat_50 rfl 3 rfl ?_
            refine x_iload_n (pc := 51) X dX4_seat_51 rfl 2 rfl ?_
            obtain ⟨r52, σ52, hq52, h⟩ := xb2_some h
            refine x_calliV (pc := 52) (As := [.int v3, .int v2]) (rest := []) X (kX4_seatTwo l X.2.2.2.2.2.2.2 F _ _ _ _ _ hq52) kvX4_63 rfl (qX4) ⟨rfl, rfl, Nat.le_of_ble_eq_true rfl, Nat.le_of_ble_eq_true rfl⟩ rfl rfl (Nat.le_of_ble_eq_true rfl) dX4_seat_52 ?_
            refine x_if_ne (pc := 55) X 63 dX4_seat_55 (by decide) (fun hc => ?_) (fun hc => ?_)
            · have h := xif hc h
              refine x_sub [0, 1, 2, 3] rfl ?_
              exact wX4_seat_L63 X hr hl F hc2 _ _ _ _ h
            · have h := xit hc h
              refine x_aload_n (pc := 58) X dX4_seat_58 rfl 0 rfl ?_
              refine x_iconst (pc := 59) (v := (-1)) X dX4_seat_59 (by decide) ?_
              refine uX4_21 (pc := 60) X dX4_seat_60 ?_
              refine x_sub [0, 1, 2, 3] rfl ?_
              exact wX4_seat_L63 X hr hl F hc2 _ _ _ _ h
theorem wX4_seat_L2 {p : Program} {l : Launch} {e : Env} {s : State} {m : MethodId} {args : Array Value} {below : List Frame} {meth : Method} {c : Code} {D : va_G} {A : Nat → Prop} {ad : Nat → Nat} {cI cX : ClassId} {σ' : xSt} (X : xX p s m args c cX4_seat 4 RX4 D (tyC cI cX) A (wC ad cI cX)) (hr : meth.sig.returnType = none) (hl : meth.locks = false) (F : Nat) : ∀ (n : Nat) (v1 : Int32) (v2 : Int32) (v3 : Int32) (σ : xSt), mX4_seat_L2 F n v1 v2 v3 σ = some σ' → xG p l e ({ frames := 4, cells := 0, slots := 0, locals := 103 }) s m args below meth c (MQ below (xQv D A (wC ad cI cX) σ') args s 0 0 A) 4 D A (wC ad cI cX) σ 2 [(0, .ref (ad 2)), (1, .int v1), (2, .int v2), (3, .int v3)] [] := by
  intro n
  induction n with
  | zero => intro v1 v2 v3 σ h; cases h
  | succ n ih => intro v1 v2 v3 σ h; exact wX4_seat_S2 X hr hl F ih v1 v2 v3 σ h
set_option maxRecDepth 100000 in
set_option maxHeartbeats 4000000 in
theorem kX4_seat (l : Launch) {D : va_G} {A : Nat → Prop} {ad : Nat → Nat} {cI cX : ClassId} (hD : ∀ σ, va_D A ((wC ad cI cX) σ)) (F : Nat) (v1 : Int32) (v2 : Int32) (σ : xSt) (σ' : xSt) (h : mX4_seat F v1 v2 σ = some σ') : xM l yX4_seat cX4_seat 4 none ({ frames := 4, cells := 0, slots := 0, locals := 103 }) D (tyC cI cX) A (wC ad cI cX) [.ref (ad 2), .int v1, .int v2] σ (xQv D A (wC ad cI cX) σ') := by
  refine xM_of (lv := [(0, .ref (ad 2)), (1, .int v1), (2, .int v2)]) [.ref (ad 2), .int v1, .int v2] (by decide) hD rfl (Nat.le_of_ble_eq_true rfl) ?_
  intro p e s m args below meth c X hr hl
  unfold mX4_seat at h
  refine x_iconst (pc := 0) (v := 0) X dX4_seat_0 (by decide) ?_
  refine x_istore_n (pc := 1) (lv' := [(3, .int 0), (0, .ref (ad 2)), (1, .int v1), (2, .int v2)]) X dX4_seat_1 rfl (by decide) rfl ?_
  refine x_sub [1, 2, 3, 0] rfl ?_
  exact wX4_seat_L2 X hr hl F F _ _ _ _ h
