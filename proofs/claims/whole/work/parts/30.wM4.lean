set_option maxRecDepth 100000 in
set_option maxHeartbeats 4000000 in
theorem wX9_sheet_L85 {p : Program} {l : Launch} {e : Env} {s : State} {m : MethodId} {args : Array Value} {below : List Frame} {meth : Method} {c : Code} {D : va_G} {A : Nat → Prop} {ad : Nat → Nat} {cI cX : ClassId} {r : Int32} {σ' : xSt} (X : xX p s m args c cX9_sheet 5 RX9 D (tyM cI cX) A (wM ad cI cX)) (hr : meth.sig.returnType = (some .int)) (hl : meth.locks = false) (F : Nat) (v3 : Int32) (σ : xSt) (h : mX9_sheet_L85 F v3 σ = some (r, σ')) : xG p l e ({ frames := 2, cells := 0, slots := 0, locals := 42 }) s m args below meth c (MQ below (xQi D A (wM ad cI cX) r σ') args s 0 0 A) 5 D A (wM ad cI cX) σ 85 [(3, .int v3)] [] := by
  unfold mX9_sheet_L85 at h
  refine x_iload_n (pc := 85) X dX9_sheet_85 rfl 0 rfl ?_
  exact x_iret (pc := 86) X hr hl h dX9_sheet_86
set_option maxRecDepth 100000 in
set_option maxHeartbeats 4000000 in
theorem wX9_sheet_S59 {p : Program} {l : Launch} {e : Env} {s : State} {m : MethodId} {args : Array Value} {below : List Frame} {meth : Method} {c : Code} {D : va_G} {A : Nat → Prop} {ad : Nat → Nat} {cI cX : ClassId} {r : Int32} {σ' : xSt} {c59 : Int32 → Int32 → Int32 → xSt → Option (Int32 × xSt)} (X : xX p s m args c cX9_sheet 5 RX9 D (tyM cI cX) A (wM ad cI cX)) (hr : meth.sig.returnType = (some .int)) (hl : meth.locks = false) (F : Nat) (hc59 : ∀ (v1 : Int32) (v3 : Int32) (v4 : Int32) (σ : xSt), c59 v1 v3 v4 σ = some (r, σ') → xG p l e ({ frames := 2, cells := 0, slots := 0, locals := 42 }) s m args below meth c (MQ below (xQi D A (wM ad cI cX) r σ') args s 0 0 A) 5 D A (wM ad cI cX) σ 59 [(0, .ref (ad 0)), (1, .int v1), (3, .int v3), (4, .int v4)] []) (v1 : Int32) (v3 : Int32) (v4 : Int32) (σ : xSt) (h : mX9_sheet_S59 F c59 v1 v3 v4 σ = some (r, σ')) : xG p l e ({ frames := 2, cells := 0, slots := 0, locals := 42 }) s m args below meth c (MQ below (xQi D A (wM ad cI cX) r σ') args s 0 0 A) 5 D A (wM ad cI cX) σ 59 [(0, .ref (ad 0)), (1, .int v1), (3, .int v3), (4, .int v4)] [] := by
  unfold mX9_sheet_S59 at h
  refine x_iload (pc := 59) X dX9_sheet_59 3 rfl ?_
  refine x_bipush (pc := 61) (v := 60) X dX9_sheet_61 (by decide) ?_
  refine x_icmp_ge (pc := 63) X 85 dX9_sheet_63 (by decide) (fun hc => ?_) (fun hc => ?_)
  · have h := xit hc h
    refine x_sub [2] rfl ?_
    exact wX9_sheet_L85 X hr hl F _ _ h
  · have h := xif hc h
    refine x_aload_n (pc := 66) X dX9_sheet_66 rfl 0 rfl ?_
    refine gX9_89 (pc := 67) X dX9_sheet_67 ?_
    refine x_bipush (pc := 70) (v := 60) X dX9_sheet_70 (by decide) ?_
    refine x_iload_n (pc := 72) X dX9_sheet_72 rfl 1 rfl ?_
    refine x_imul (pc := 73) X dX9_sheet_73 ?_
    refine x_iload (pc := 74) X dX9_sheet_74 3 rfl ?_
    refine x_iadd (pc := 76) X dX9_sheet_76 ?_
    refine x_iconst (pc := 77) (v := 0) X dX9_sheet_77 (by decide) ?_
    obtain ⟨hb78, h⟩ := xck_some h
    refine x_iast (pc := 78) (σ' := (xsA σ 35 (Int32.toNatClampNeg ((60 * v1) + v4)) 0)) X 27 0 (qaX9_items) rfl (saX9_items _) hb78 dX9_sheet_78 ?_
    refine x_iinc (pc := 79) (v := (v4 + 1)) (lv' := [(4, .int (v4 + 1)), (0, .ref (ad 0)), (1, .int v1), (3, .int v3)]) X dX9_sheet_79 3 rfl rfl (by decide) rfl ?_
    refine x_goto (pc := 82) X 59 dX9_sheet_82 (by decide) ?_
    refine x_sub [1, 2, 3, 0] rfl ?_
    exact hc59 _ _ _ _ h
theorem wX9_sheet_L59 {p : Program} {l : Launch} {e : Env} {s : State} {m : MethodId} {args : Array Value} {below : List Frame} {meth : Method} {c : Code} {D : va_G} {A : Nat → Prop} {ad : Nat → Nat} {cI cX : ClassId} {r : Int32} {σ' : xSt} (X : xX p s m args c cX9_sheet 5 RX9 D (tyM cI cX) A (wM ad cI cX)) (hr : meth.sig.returnType = (some .int)) (hl : meth.locks = false) (F : Nat) : ∀ (n : Nat) (v1 : Int32) (v3 : Int32) (v4 : Int32) (σ : xSt), mX9_sheet_L59 F n v1 v3 v4 σ = some (r, σ') → xG p l e ({ frames := 2, cells := 0, slots := 0, locals := 42 }) s m args below meth c (MQ below (xQi D A (wM ad cI cX) r σ') args s 0 0 A) 5 D A (wM ad cI cX) σ 59 [(0, .ref (ad 0)), (1, .int v1), (3, .int v3), (4, .int v4)] [] := by
  intro n
  induction n with
  | zero => intro v1 v3 v4 σ h; cases h
  | succ n ih => intro v1 v3 v4 σ h; exact wX9_sheet_S59 X hr hl F ih v1 v3 v4 σ h
set_option maxRecDepth 100000 in
set_option maxHeartbeats 4000000 in
theorem wX9_sheet_L22 {p : Program} {l : Launch} {e : Env} {s : State} {m : MethodId} {args : Array Value} {below : List Frame} {meth : Method} {c : Code} {D : va_G} {A : Nat → Prop} {ad : Nat → Nat} {cI cX : ClassId} {r : Int32} {σ' : xSt} (X : xX p s m args c cX9_sheet 5 RX9 D (tyM cI cX) A (wM ad cI cX)) (hr : meth.sig.returnType = (some .int)) (hl : meth.locks = false) (F : Nat) (σ : xSt) (h : mX9_sheet_L22 F σ = some (r, σ')) : xG p l e ({ frames := 2, cells := 0, slots := 0, locals := 42 }) s m args below meth c (MQ below (xQi D A (wM ad cI cX) r σ') args s 0 0 A) 5 D A (wM ad cI cX) σ 22 [] [] := by
  unfold mX9_sheet_L22 at h
  refine x_bipush (pc := 22) (v := (-2)) X dX9_sheet_22 (by decide) ?_
  exact x_iret (pc := 24) X hr hl h dX9_sheet_24
set_option maxRecDepth 100000 in
set_option maxHeartbeats 4000000 in
theorem kX9_sheet (l : Launch) {D : va_G} {A : Nat → Prop} {ad : Nat → Nat} {cI cX : ClassId} (hD : ∀ σ, va_D A ((wM ad cI cX) σ)) (F : Nat) (v1 : Int32) (v2 : Int32) (v3 : Int32) (σ : xSt) (r : Int32) (σ' : xSt) (h : mX9_sheet F v1 v2 v3 σ = some (r, σ')) : xM l yX9_sheet cX9_sheet 5 (some .int) ({ frames := 2, cells := 0, slots := 0, locals := 42 }) D (tyM cI cX) A (wM ad cI cX) [.ref (ad 0), .int v1, .int v2, .int v3] σ (xQi D A (wM ad cI cX) r σ') := by
  refine xM_of (lv := [(0, .ref (ad 0)), (1, .int v1), (2, .int v2), (3, .int v3)]) [.ref (ad 0), .int v1, .int v2, .int v3] (by decide) hD rfl (Nat.le_of_ble_eq_true rfl) ?_
  intro p e s m args below meth c X hr hl
  unfold mX9_sheet at h
  refine x_iload_n (pc := 0) X dX9_sheet_0 rfl 1 rfl ?_
  obtain ⟨r1, σ1, hq1, h⟩ := xb2_some h
  refine x_calliS (pc := 1) (As := [.int v1]) (rest := []) X (kX9_isSheet l X.2.2.2.2.2.2.2 F _ _ _ _ hq1) kvX9_161 ⟨rfl, rfl, Nat.le_of_ble_eq_true rfl, Nat.le_of_ble_eq_true rfl⟩ rfl rfl (Nat.le_of_ble_eq_true rfl) dX9_sheet_1 ?_
  refine x_if_eq (pc := 4) X 22 dX9_sheet_4 (by decide) (fun hc => ?_) (fun hc => ?_)
  · have h := xit hc h
    refine x_sub [] rfl ?_
    exact wX9_sheet_L22 X hr hl F _ h
  · have h := xif hc h
    refine x_iload_n (pc := 7) X dX9_sheet_7 rfl 2 rfl ?_
    refine x_iconst (pc := 8) (v := 0) X dX9_sheet_8 (by decide) ?_
    refine x_iconst (pc := 9) (v := 2) X dX9_sheet_9 (by decide) ?_
    obtain ⟨r10, σ10, hq10, h⟩ := xb2_some h
    refine x_calliS (pc := 10) (As := [.int v2, .int 0, .int 2]) (rest := []) X (kX9_in l X.2.2.2.2.2.2.2 F _ _ _ _ _ _ hq10) kvX9_97 ⟨rfl, rfl, Nat.le_of_ble_eq_true rfl, Nat.le_of_ble_eq_true rfl⟩ rfl rfl (Nat.le_of_ble_eq_true rfl) dX9_sheet_10 ?_
    refine x_if_eq (pc := 13) X 22 dX9_sheet_13 (by decide) (fun hc => ?_) (fun hc => ?_)
    · have h := xit hc h
      refine x_sub [] rfl ?_
      exact wX9_sheet_L22 X hr hl F _ h
    · have h := xif hc h
      refine x_iload_n (pc := 16) X dX9_sheet_16 rfl 3 rfl ?_
      refine x_bipush (pc := 17) (v := 60) X dX9_sheet_17 (by decide) ?_
      refine x_icmp_le (pc := 19) X 25 dX9_sheet_19 (by decide) (fun hc => ?_) (fun hc => ?_)
      · have h := xit hc h
        refine x_iload_n (pc := 25) X dX9_sheet_25 rfl 3 rfl ?_
        refine x_if_ge (pc := 26) X 35 dX9_sheet_26 (by decide) (fun hc => ?_) (fun hc => ?_)
        · have h := xit hc h
          refine x_aload_n (pc := 35) X dX9_sheet_35 rfl 0 rfl ?_
          refine gX9_80 (pc := 36) X dX9_sheet_36 ?_
          refine x_iload_n (pc := 39) X dX9_sheet_39 rfl 1 rfl ?_
          refine x_iconst (pc := 40) (v := 1) X dX9_sheet_40 (by decide) ?_
          obtain ⟨hb41, h⟩ := xck_some h
          obtain ⟨hz41, h⟩ := xck_some h
          refine x_zast (pc := 41) (σ' := (xsA σ10 32 (Int32.toNatClampNeg v1) 1)) X 24 1 (qaX9_isThere) rfl (saX9_isThere _) hb41 hz41 dX9_sheet_41 ?_
          refine x_aload_n (pc := 42) X dX9_sheet_42 rfl 0 rfl ?_
          refine gX9_83 (pc := 43) X dX9_sheet_43 ?_
          refine x_iload_n (pc := 46) X dX9_sheet_46 rfl 1 rfl ?_
          refine x_iload_n (pc := 47) X dX9_sheet_47 rfl 2 rfl ?_
          obtain ⟨hb48, h⟩ := xck_some h
          refine x_iast (pc := 48) (σ' := (xsA (xsA σ10 32 (Int32.toNatClampNeg v1) 1) 33 (Int32.toNatClampNeg v1) v2)) X 25 0 (qaX9_forms) rfl (saX9_forms _) hb48 dX9_sheet_48 ?_
          refine x_aload_n (pc := 49) X dX9_sheet_49 rfl 0 rfl ?_
          refine gX9_86 (pc := 50) X dX9_sheet_50 ?_
          refine x_iload_n (pc := 53) X dX9_sheet_53 rfl 1 rfl ?_
          refine x_iload_n (pc := 54) X dX9_sheet_54 rfl 3 rfl ?_
          obtain ⟨hb55, h⟩ := xck_some h
          refine x_iast (pc := 55) (σ' := (xsA (xsA (xsA σ10 32 (Int32.toNatClampNeg v1) 1) 33 (Int32.toNatClampNeg v1) v2) 34 (Int32.toNatClampNeg v1) v3)) X 26 0 (qaX9_sizes) rfl (saX9_sizes _) hb55 dX9_sheet_55 ?_
          refine x_iconst (pc := 56) (v := 0) X dX9_sheet_56 (by decide) ?_
          refine x_istore (pc := 57) (lv' := [(4, .int 0), (0, .ref (ad 0)), (1, .int v1), (2, .int v2), (3, .int v3)]) X dX9_sheet_57 (by decide) rfl ?_
          refine x_sub [1, 2, 4, 0] rfl ?_
          exact wX9_sheet_L59 X hr hl F F _ _ _ _ h
        · have h := xif hc h
          refine x_aload_n (pc := 29) X dX9_sheet_29 rfl 0 rfl ?_
          refine x_iconst (pc := 30) (v := 5) X dX9_sheet_30 (by decide) ?_
          obtain ⟨r31, σ31, hq31, h⟩ := xb2_some h
          refine x_calliV (pc := 31) (As := [.int 5]) (rest := []) X (kX9_meets l X.2.2.2.2.2.2.2 F _ _ _ _ hq31) kvX9_164 rfl (qX9) ⟨rfl, rfl, Nat.le_of_ble_eq_true rfl, Nat.le_of_ble_eq_true rfl⟩ rfl rfl (Nat.le_of_ble_eq_true rfl) dX9_sheet_31 ?_
          exact x_iret (pc := 34) X hr hl h dX9_sheet_34
      · have h := xif hc h
        refine x_sub [] rfl ?_
        exact wX9_sheet_L22 X hr hl F _ h
set_option maxRecDepth 100000 in
set_option maxHeartbeats 4000000 in
theorem kX9_lose (l : Launch) {D : va_G} {A : Nat → Prop} {ad : Nat → Nat} {cI cX : ClassId} (hD : ∀ σ, va_D A ((wM ad cI cX) σ)) (F : Nat) (v1 : Int32) (σ : xSt) (r : Int32) (σ' : xSt) (h : mX9_lose F v1 σ = some (r, σ')) : xM l yX9_lose cX9_lose 2 (some .int) ({ frames := 2, cells := 0, slots := 0, locals := 42 }) D (tyM cI cX) A (wM ad cI cX) [.ref (ad 0), .int v1] σ (xQi D A (wM ad cI cX) r σ') := by
  refine xM_of (lv := [(0, .ref (ad 0)), (1, .int v1)]) [.ref (ad 0), .int v1] (by decide) hD rfl (Nat.le_of_ble_eq_true rfl) ?_
  intro p e s m args below meth c X hr hl
  unfold mX9_lose at h
  refine x_iload_n (pc := 0) X dX9_lose_0 rfl 1 rfl ?_
  obtain ⟨r1, σ1, hq1, h⟩ := xb2_some h
  refine x_calliS (pc := 1) (As := [.int v1]) (rest := []) X (kX9_isSheet l X.2.2.2.2.2.2.2 F _ _ _ _ hq1) kvX9_161 ⟨rfl, rfl, Nat.le_of_ble_eq_true rfl, Nat.le_of_ble_eq_true rfl⟩ rfl rfl (Nat.le_of_ble_eq_true rfl) dX9_lose_1 ?_
  refine x_if_ne (pc := 4) X 10 dX9_lose_4 (by decide) (fun hc => ?_) (fun hc => ?_)
  · have h := xif hc h
    refine x_aload_n (pc := 10) X dX9_lose_10 rfl 0 rfl ?_
    refine gX9_80 (pc := 11) X dX9_lose_11 ?_
    refine x_iload_n (pc := 14) X dX9_lose_14 rfl 1 rfl ?_
    obtain ⟨hb15, h⟩ := xck_some h
    refine x_zald (pc := 15) X 24 1 (qaX9_isThere) rfl hb15 dX9_lose_15 ?_
    refine x_if_ne (pc := 16) X 25 dX9_lose_16 (by decide) (fun hc => ?_) (fun hc => ?_)
    · have h := xif hc h
      refine x_aload_n (pc := 25) X dX9_lose_25 rfl 0 rfl ?_
      refine gX9_80 (pc := 26) X dX9_lose_26 ?_
      refine x_iload_n (pc := 29) X dX9_lose_29 rfl 1 rfl ?_
      refine x_iconst (pc := 30) (v := 0) X dX9_lose_30 (by decide) ?_
      obtain ⟨hb31, h⟩ := xck_some h
      obtain ⟨hz31, h⟩ := xck_some h
      refine x_zast (pc := 31) (σ' := (xsA σ1 32 (Int32.toNatClampNeg v1) 0)) X 24 1 (qaX9_isThere) rfl (saX9_isThere _) hb31 hz31 dX9_lose_31 ?_
      refine x_aload_n (pc := 32) X dX9_lose_32 rfl 0 rfl ?_
      refine gX9_86 (pc := 33) X dX9_lose_33 ?_
      refine x_iload_n (pc := 36) X dX9_lose_36 rfl 1 rfl ?_
      obtain ⟨hb37, h⟩ := xck_some h
      refine x_iald (pc := 37) X 26 0 (qaX9_sizes) rfl hb37 dX9_lose_37 ?_
      exact x_iret (pc := 38) X hr hl h dX9_lose_38
    · have h := xit hc h
      refine x_aload_n (pc := 19) X dX9_lose_19 rfl 0 rfl ?_
      refine x_iconst (pc := 20) (v := 1) X dX9_lose_20 (by decide) ?_
      obtain ⟨r21, σ21, hq21, h⟩ := xb2_some h
      refine x_calliV (pc := 21) (As := [.int 1]) (rest := []) X (kX9_meets l X.2.2.2.2.2.2.2 F _ _ _ _ hq21) kvX9_164 rfl (qX9) ⟨rfl, rfl, Nat.le_of_ble_eq_true rfl, Nat.le_of_ble_eq_true rfl⟩ rfl rfl (Nat.le_of_ble_eq_true rfl) dX9_lose_21 ?_
      exact x_iret (pc := 24) X hr hl h dX9_lose_24
  · have h := xit hc h
    refine x_bipush (pc := 7) (v := (-2)) X dX9_lose_7 (by decide) ?_
    exact x_iret (pc := 9) X hr hl h dX9_lose_9
set_option maxRecDepth 100000 in
set_option maxHeartbeats 4000000 in
theorem wX9_lacks_L48 {p : Program} {l : Launch} {e : Env} {s : State} {m : MethodId} {args : Array Value} {below : List Frame} {meth : Method} {c : Code} {D : va_G} {A : Nat → Prop} {ad : Nat → Nat} {cI cX : ClassId} {r : Int32} {σ' : xSt} (X : xX p s m args c cX9_lacks 4 RX9 D (tyM cI cX) A (wM ad cI cX)) (hr : meth.sig.returnType = (some .int)) (hl : meth.locks = false) (F : Nat) (t0 : Int32) (σ : xSt) (h : mX9_lacks_L48 F t0 σ = some (r, σ')) : xG p l e ({ frames := 1, cells := 0, slots := 0, locals := 22 }) s m args below meth c (MQ below (xQi D A (wM ad cI cX) r σ') args s 0 0 A) 4 D A (wM ad cI cX) σ 48 [] [.int t0] := by
  unfold mX9_lacks_L48 at h
  exact x_iret (pc := 48) X hr hl h dX9_lacks_48
set_option maxRecDepth 100000 in
set_option maxHeartbeats 4000000 in
theorem kX9_lacks (l : Launch) {D : va_G} {A : Nat → Prop} {ad : Nat → Nat} {cI cX : ClassId} (hD : ∀ σ, va_D A ((wM ad cI cX) σ)) (F : Nat) (v1 : Int32) (v2 : Int32) (v3 : Int32) (σ : xSt) (r : Int32) (σ' : xSt) (h : mX9_lacks F v1 v2 v3 σ = some (r, σ')) : xM l yX9_lacks cX9_lacks 4 (some .int) ({ frames := 1, cells := 0, slots := 0, locals := 22 }) D (tyM cI cX) A (wM ad cI cX) [.ref (ad 0), .int v1, .int v2, .int v3] σ (xQi D A (wM ad cI cX) r σ') := by
  refine xM_of (lv := [(0, .ref (ad 0)), (1, .int v1), (2, .int v2), (3, .int v3)]) [.ref (ad 0), .int v1, .int v2, .int v3] (by decide) hD rfl (Nat.le_of_ble_eq_true rfl) ?_
  intro p e s m args below meth c X hr hl
  unfold mX9_lacks at h
  refine x_aload_n (pc := 0) X dX9_lacks_0 rfl 0 rfl ?_
  refine gX9_80 (pc := 1) X dX9_lacks_1 ?_
  refine x_iload_n (pc := 4) X dX9_lacks_4 rfl 1 rfl ?_
  obtain ⟨hb5, h⟩ := xck_some h
  refine x_zald (pc := 5) X 24 1 (qaX9_isThere) rfl hb5 dX9_lacks_5 ?_
  refine x_if_ne (pc := 6) X 13 dX9_lacks_6 (by decide) (fun hc => ?_) (fun hc => ?_)
  · have h := xif hc h
    refine x_aload_n (pc := 13) X dX9_lacks_13 rfl 0 rfl ?_
    refine gX9_83 (pc := 14) X dX9_lacks_14 ?_
    refine x_iload_n (pc := 17) X dX9_lacks_17 rfl 1 rfl ?_
    obtain ⟨hb18, h⟩ := xck_some h
    refine x_iald (pc := 18) X 25 0 (qaX9_forms) rfl hb18 dX9_lacks_18 ?_
    refine x_iload_n (pc := 19) X dX9_lacks_19 rfl 2 rfl ?_
    refine x_icmp_eq (pc := 20) X 27 dX9_lacks_20 (by decide) (fun hc => ?_) (fun hc => ?_)
    · have h := xit hc h
      refine x_iload_n (pc := 27) X dX9_lacks_27 rfl 3 rfl ?_
      refine x_iconst (pc := 28) (v := 0) X dX9_lacks_28 (by decide) ?_
      refine x_aload_n (pc := 29) X dX9_lacks_29 rfl 0 rfl ?_
      refine gX9_86 (pc := 30) X dX9_lacks_30 ?_
      refine x_iload_n (pc := 33) X dX9_lacks_33 rfl 1 rfl ?_
      obtain ⟨hb34, h⟩ := xck_some h
      refine x_iald (pc := 34) X 26 0 (qaX9_sizes) rfl hb34 dX9_lacks_34 ?_
      refine x_iconst (pc := 35) (v := 1) X dX9_lacks_35 (by decide) ?_
      refine x_isub (pc := 36) X dX9_lacks_36 ?_
      obtain ⟨r37, σ37, hq37, h⟩ := xb2_some h
      refine x_calliS (pc := 37) (As := [.int v3, .int 0, .int ((xA σ 34 (Int32.toNatClampNeg v1)) - 1)]) (rest := []) X (kX9_in l X.2.2.2.2.2.2.2 F _ _ _ _ _ _ hq37) kvX9_97 ⟨rfl, rfl, Nat.le_of_ble_eq_true rfl, Nat.le_of_ble_eq_true rfl⟩ rfl rfl (Nat.le_of_ble_eq_true rfl) dX9_lacks_37 ?_
      refine x_if_eq (pc := 40) X 47 dX9_lacks_40 (by decide) (fun hc => ?_) (fun hc => ?_)
      · have h := xit hc h
        refine x_iconst (pc := 47) (v := 2) X dX9_lacks_47 (by decide) ?_
        refine x_sub [] rfl ?_
        exact wX9_lacks_L48 X hr hl F _ _ h
      · have h := xif hc h
        refine x_iconst (pc := 43) (v := 0) X dX9_lacks_43 (by decide) ?_
        refine x_goto (pc := 44) X 48 dX9_lacks_44 (by decide) ?_
        refine x_sub [] rfl ?_
        exact wX9_lacks_L48 X hr hl F _ _ h
    · have h := xif hc h
      refine x_iconst (pc := 23) (v := 3) X dX9_lacks_23 (by decide) ?_
      refine x_goto (pc := 24) X 48 dX9_lacks_24 (by decide) ?_
      refine x_sub [] rfl ?_
      exact wX9_lacks_L48 X hr hl F _ _ h
  · have h := xit hc h
    refine x_iconst (pc := 9) (v := 1) X dX9_lacks_9 (by decide) ?_
    refine x_goto (pc := 10) X 48 dX9_lacks_10 (by decide) ?_
    refine x_sub [] rfl ?_
    exact wX9_lacks_L48 X hr hl F _ _ h
set_option maxRecDepth 100000 in
set_option maxHeartbeats 4000000 in
theorem wX9_keep_L40 {p : Program} {l : Launch} {e : Env} {s : State} {m : MethodId} {args : Array Value} {below : List Frame} {meth : Method} {c : Code} {D : va_G} {A : Nat → Prop} {ad : Nat → Nat} {cI cX : ClassId} {σ' : xSt} (X : xX p s m args c cX9_keep 4 RX9 D (tyM cI cX) A (wM ad cI cX)) (hr : meth.sig.returnType = none) (hl : meth.locks = false) (F : Nat) (t1 : Int32) (t2 : Int32) (σ : xSt) (h : mX9_keep_L40 F t1 t2 σ = some σ') : xG p l e ({ frames := 0, cells := 0, slots := 0, locals := 0 }) s m args below meth c (MQ below (xQv D A (wM ad cI cX) σ') args s 0 0 A) 4 D A (wM ad cI cX) σ 40 [] [.int t2, .int t1, .ref (ad 27)] := by
  unfold mX9_keep_L40 at h
  obtain ⟨hb40, h⟩ := xck_some h
  refine x_iast (pc := 40) (σ' := (xsA σ 35 (Int32.toNatClampNeg t1) t2)) X 27 0 (qaX9_items) rfl (saX9_items _) hb40 dX9_keep_40 ?_
  exact x_vret (pc := 41) X hr hl h dX9_keep_41
set_option maxRecDepth 100000 in
set_option maxHeartbeats 4000000 in
theorem kX9_keep (l : Launch) {D : va_G} {A : Nat → Prop} {ad : Nat → Nat} {cI cX : ClassId} (hD : ∀ σ, va_D A ((wM ad cI cX) σ)) (F : Nat) (v1 : Int32) (v2 : Int32) (v3 : Int32) (σ : xSt) (σ' : xSt) (h : mX9_keep F v1 v2 v3 σ = some σ') : xM l yX9_keep cX9_keep 4 none ({ frames := 0, cells := 0, slots := 0, locals := 0 }) D (tyM cI cX) A (wM ad cI cX) [.ref (ad 0), .int v1, .int v2, .int v3] σ (xQv D A (wM ad cI cX) σ') := by
  refine xM_of (lv := [(0, .ref (ad 0)), (1, .int v1), (2, .int v2), (3, .int v3)]) [.ref (ad 0), .int v1, .int v2, .int v3] (by decide) hD rfl (Nat.le_of_ble_eq_true rfl) ?_
  intro p e s m args below meth c X hr hl
  unfold mX9_keep at h
  refine x_aload_n (pc := 0) X dX9_keep_0 rfl 0 rfl ?_
  refine gX9_89 (pc := 1) X dX9_keep_1 ?_
  refine x_bipush (pc := 4) (v := 60) X dX9_keep_4 (by decide) ?_
  refine x_iload_n (pc := 6) X dX9_keep_6 rfl 1 rfl ?_
  refine x_imul (pc := 7) X dX9_keep_7 ?_
  refine x_iload_n (pc := 8) X dX9_keep_8 rfl 2 rfl ?_
  refine x_iadd (pc := 9) X dX9_keep_9 ?_
  refine x_aload_n (pc := 10) X dX9_keep_10 rfl 0 rfl ?_
  refine gX9_83 (pc := 11) X dX9_keep_11 ?_
  refine x_iload_n (pc := 14) X dX9_keep_14 rfl 1 rfl ?_
  obtain ⟨hb15, h⟩ := xck_some h
  refine x_iald (pc := 15) X 25 0 (qaX9_forms) rfl hb15 dX9_keep_15 ?_
  refine x_if_ne (pc := 16) X 24 dX9_keep_16 (by decide) (fun hc => ?_) (fun hc => ?_)
  · have h := xif hc h
    refine x_aload_n (pc := 24) X dX9_keep_24 rfl 0 rfl ?_
    refine gX9_83 (pc := 25) X dX9_keep_25 ?_
    refine x_iload_n (pc := 28) X dX9_keep_28 rfl 1 rfl ?_
    obtain ⟨hb29, h⟩ := xck_some h
    refine x_iald (pc := 29) X 25 0 (qaX9_forms) rfl hb29 dX9_keep_29 ?_
    refine x_iconst (pc := 30) (v := 1) X dX9_keep_30 (by decide) ?_
    refine x_icmp_ne (pc := 31) X 39 dX9_keep_31 (by decide) (fun hc => ?_) (fun hc => ?_)
    · have h := xif hc h
      refine x_iload_n (pc := 39) X dX9_keep_39 rfl 3 rfl ?_
      refine x_sub [] rfl ?_
      exact wX9_keep_L40 X hr hl F _ _ _ h
    · have h := xit hc h
      refine x_iload_n (pc := 34) X dX9_keep_34 rfl 3 rfl ?_
      refine x_i2s (pc := 35) X dX9_keep_35 ?_
      refine x_goto (pc := 36) X 40 dX9_keep_36 (by decide) ?_
      refine x_sub [] rfl ?_
      exact wX9_keep_L40 X hr hl F _ _ _ h
  · have h := xit hc h
    refine x_iload_n (pc := 19) X dX9_keep_19 rfl 3 rfl ?_
    refine x_i2b (pc := 20) X dX9_keep_20 ?_
    refine x_goto (pc := 21) X 40 dX9_keep_21 (by decide) ?_
    refine x_sub [] rfl ?_
    exact wX9_keep_L40 X hr hl F _ _ _ h
set_option maxRecDepth 100000 in
set_option maxHeartbeats 4000000 in
theorem wX9_put_L16 {p : Program} {l : Launch} {e : Env} {s : State} {m : MethodId} {args : Array Value} {below : List Frame} {meth : Method} {c : Code} {D : va_G} {A : Nat → Prop} {ad : Nat → Nat} {cI cX : ClassId} {r : Int32} {σ' : xSt} (X : xX p s m args c cX9_put 6 RX9 D (tyM cI cX) A (wM ad cI cX)) (hr : meth.sig.returnType = (some .int)) (hl : meth.locks = false) (F : Nat) (σ : xSt) (h : mX9_put_L16 F σ = some (r, σ')) : xG p l e ({ frames := 2, cells := 0, slots := 0, locals := 45 }) s m args below meth c (MQ below (xQi D A (wM ad cI cX) r σ') args s 0 0 A) 6 D A (wM ad cI cX) σ 16 [] [] := by
  unfold mX9_put_L16 at h
  refine x_bipush (pc := 16) (v := (-2)) X dX9_put_16 (by decide) ?_
  exact x_iret (pc := 18) X hr hl h dX9_put_18
set_option maxRecDepth 100000 in
set_option maxHeartbeats 4000000 in
theorem kX9_put (l : Launch) {D : va_G} {A : Nat → Prop} {ad : Nat → Nat} {cI cX : ClassId} (hD : ∀ σ, va_D A ((wM ad cI cX) σ)) (F : Nat) (v1 : Int32) (v2 : Int32) (v3 : Int32) (v4 : Int32) (σ : xSt) (r : Int32) (σ' : xSt) (h : mX9_put F v1 v2 v3 v4 σ = some (r, σ')) : xM l yX9_put cX9_put 6 (some .int) ({ frames := 2, cells := 0, slots := 0, locals := 45 }) D (tyM cI cX) A (wM ad cI cX) [.ref (ad 0), .int v1, .int v2, .int v3, .int v4] σ (xQi D A (wM ad cI cX) r σ') := by
  refine xM_of (lv := [(0, .ref (ad 0)), (1, .int v1), (2, .int v2), (3, .int v3), (4, .int v4)]) [.ref (ad 0), .int v1, .int v2, .int v3, .int v4] (by decide) hD rfl (Nat.le_of_ble_eq_true rfl) ?_
  intro p e s m args below meth c X hr hl
  unfold mX9_put at h
  refine x_iload_n (pc := 0) X dX9_put_0 rfl 1 rfl ?_
  obtain ⟨r1, σ1, hq1, h⟩ := xb2_some h
  refine x_calliS (pc := 1) (As := [.int v1]) (rest := []) X (kX9_isSheet l X.2.2.2.2.2.2.2 F _ _ _ _ hq1) kvX9_161 ⟨rfl, rfl, Nat.le_of_ble_eq_true rfl, Nat.le_of_ble_eq_true rfl⟩ rfl rfl (Nat.le_of_ble_eq_true rfl) dX9_put_1 ?_
  refine x_if_eq (pc := 4) X 16 dX9_put_4 (by decide) (fun hc => ?_) (fun hc => ?_)
  · have h := xit hc h
    refine x_sub [] rfl ?_
    exact wX9_put_L16 X hr hl F _ h
  · have h := xif hc h
    refine x_iload_n (pc := 7) X dX9_put_7 rfl 2 rfl ?_
    refine x_iconst (pc := 8) (v := 0) X dX9_put_8 (by decide) ?_
    refine x_iconst (pc := 9) (v := 2) X dX9_put_9 (by decide) ?_
    obtain ⟨r10, σ10, hq10, h⟩ := xb2_some h
    refine x_calliS (pc := 10) (As := [.int v2, .int 0, .int 2]) (rest := []) X (kX9_in l X.2.2.2.2.2.2.2 F _ _ _ _ _ _ hq10) kvX9_97 ⟨rfl, rfl, Nat.le_of_ble_eq_true rfl, Nat.le_of_ble_eq_true rfl⟩ rfl rfl (Nat.le_of_ble_eq_true rfl) dX9_put_10 ?_
    refine x_if_ne (pc := 13) X 19 dX9_put_13 (by decide) (fun hc => ?_) (fun hc => ?_)
    · have h := xif hc h
      refine x_aload_n (pc := 19) X dX9_put_19 rfl 0 rfl ?_
      refine x_iload_n (pc := 20) X dX9_put_20 rfl 1 rfl ?_
      refine x_iload_n (pc := 21) X dX9_put_21 rfl 2 rfl ?_
      refine x_iload_n (pc := 22) X dX9_put_22 rfl 3 rfl ?_
      obtain ⟨r23, σ23, hq23, h⟩ := xb2_some h
      refine x_calliV (pc := 23) (As := [.int v1, .int v2, .int v3]) (rest := []) X (kX9_lacks l X.2.2.2.2.2.2.2 F _ _ _ _ _ _ hq23) kvX9_325 rfl (qX9) ⟨rfl, rfl, Nat.le_of_ble_eq_true rfl, Nat.le_of_ble_eq_true rfl⟩ rfl rfl (Nat.le_of_ble_eq_true rfl) dX9_put_23 ?_
      refine x_istore (pc := 26) (lv' := [(5, .int r23), (0, .ref (ad 0)), (1, .int v1), (2, .int v2), (3, .int v3), (4, .int v4)]) X dX9_put_26 (by decide) rfl ?_
      refine x_iload (pc := 28) X dX9_put_28 0 rfl ?_
      refine x_if_le (pc := 30) X 40 dX9_put_30 (by decide) (fun hc => ?_) (fun hc => ?_)
      · have h := xit hc h
        refine x_aload_n (pc := 40) X dX9_put_40 rfl 1 rfl ?_
        refine x_iload_n (pc := 41) X dX9_put_41 rfl 2 rfl ?_
        refine x_iload_n (pc := 42) X dX9_put_42 rfl 4 rfl ?_
        refine x_iload (pc := 43) X dX9_put_43 5 rfl ?_
        obtain ⟨σ45, hq45, h⟩ := xb1_some h
        refine x_callvV (pc := 45) (As := [.int v1, .int v3, .int v4]) (rest := []) X (kX9_keep l X.2.2.2.2.2.2.2 F _ _ _ _ _ hq45) kvX9_328 rfl (qX9) ⟨rfl, rfl, Nat.le_of_ble_eq_true rfl, Nat.le_of_ble_eq_true rfl⟩ rfl rfl (Nat.le_of_ble_eq_true rfl) dX9_put_45 ?_
        refine x_iconst (pc := 48) (v := 1) X dX9_put_48 (by decide) ?_
        exact x_iret (pc := 49) X hr hl h dX9_put_49
      · have h := xif hc h
        refine x_aload_n (pc := 33) X dX9_put_33 rfl 1 rfl ?_
        refine x_iload (pc := 34) X dX9_put_34 0 rfl ?_
        obtain ⟨r36, σ36, hq36, h⟩ := xb2_some h
        refine x_calliV (pc := 36) (As := [.int r23]) (rest := []) X (kX9_meets l X.2.2.2.2.2.2.2 F _ _ _ _ hq36) kvX9_164 rfl (qX9) ⟨rfl, rfl, Nat.le_of_ble_eq_true rfl, Nat.le_of_ble_eq_true rfl⟩ rfl rfl (Nat.le_of_ble_eq_true rfl) dX9_put_36 ?_
        exact x_iret (pc := 39) X hr hl h dX9_put_39
    · have h := xit hc h
      refine x_sub [] rfl ?_
      exact wX9_put_L16 X hr hl F _ h
set_option maxRecDepth 100000 in
set_option maxHeartbeats 4000000 in
theorem wX9_get_L16 {p : Program} {l : Launch} {e : Env} {s : State} {m : MethodId} {args : Array Value} {below : List Frame} {meth : Method} {c : Code} {D : va_G} {A : Nat → Prop} {ad : Nat → Nat} {cI cX : ClassId} {r : Int32} {σ' : xSt} (X : xX p s m args c cX9_get 5 RX9 D (tyM cI cX) A (wM ad cI cX)) (hr : meth.sig.returnType = (some .int)) (hl : meth.locks = false) (F : Nat) (σ : xSt) (h : mX9_get_L16 F σ = some (r, σ')) : xG p l e ({ frames := 2, cells := 0, slots := 0, locals := 45 }) s m args below meth c (MQ below (xQi D A (wM ad cI cX) r σ') args s 0 0 A) 5 D A (wM ad cI cX) σ 16 [] [] := by
  unfold mX9_get_L16 at h
  refine x_ldcw (pc := 16) X kcX9_332 dX9_get_16 ?_
  exact x_iret (pc := 19) X hr hl h dX9_get_19
set_option maxRecDepth 100000 in
set_option maxHeartbeats 4000000 in
theorem kX9_get (l : Launch) {D : va_G} {A : Nat → Prop} {ad : Nat → Nat} {cI cX : ClassId} (hD : ∀ σ, va_D A ((wM ad cI cX) σ)) (F : Nat) (v1 : Int32) (v2 : Int32) (v3 : Int32) (σ : xSt) (r : Int32) (σ' : xSt) (h : mX9_get F v1 v2 v3 σ = some (r, σ')) : xM l yX9_get cX9_get 5 (some .int) ({ frames := 2, cells := 0, slots := 0, locals := 45 }) D (tyM cI cX) A (wM ad cI cX) [.ref (ad 0), .int v1, .int v2, .int v3] σ (xQi D A (wM ad cI cX) r σ') := by
  refine xM_of (lv := [(0, .ref (ad 0)), (1, .int v1), (2, .int v2), (3, .int v3)]) [.ref (ad 0), .int v1, .int v2, .int v3] (by decide) hD rfl (Nat.le_of_ble_eq_true rfl) ?_
  intro p e s m args below meth c X hr hl
  unfold mX9_get at h
  refine x_iload_n (pc := 0) X dX9_get_0 rfl 1 rfl ?_
  obtain ⟨r1, σ1, hq1, h⟩ := xb2_some h
  refine x_calliS (pc := 1) (As := [.int v1]) (rest := []) X (kX9_isSheet l X.2.2.2.2.2.2.2 F _ _ _ _ hq1) kvX9_161 ⟨rfl, rfl, Nat.le_of_ble_eq_true rfl, Nat.le_of_ble_eq_true rfl⟩ rfl rfl (Nat.le_of_ble_eq_true rfl) dX9_get_1 ?_
  refine x_if_eq (pc := 4) X 16 dX9_get_4 (by decide) (fun hc => ?_) (fun hc => ?_)
  · have h := xit hc h
    refine x_sub [] rfl ?_
    exact wX9_get_L16 X hr hl F _ h
  · have h := xif hc h
    refine x_iload_n (pc := 7) X dX9_get_7 rfl 2 rfl ?_
    refine x_iconst (pc := 8) (v := 0) X dX9_get_8 (by decide) ?_
    refine x_iconst (pc := 9) (v := 2) X dX9_get_9 (by decide) ?_
    obtain ⟨r10, σ10, hq10, h⟩ := xb2_some h
    refine x_calliS (pc := 10) (As := [.int v2, .int 0, .int 2]) (rest := []) X (kX9_in l X.2.2.2.2.2.2.2 F _ _ _ _ _ _ hq10) kvX9_97 ⟨rfl, rfl, Nat.le_of_ble_eq_true rfl, Nat.le_of_ble_eq_true rfl⟩ rfl rfl (Nat.le_of_ble_eq_true rfl) dX9_get_10 ?_
    refine x_if_ne (pc := 13) X 20 dX9_get_13 (by decide) (fun hc => ?_) (fun hc => ?_)
    · have h := xif hc h
      refine x_aload_n (pc := 20) X dX9_get_20 rfl 0 rfl ?_
      refine x_iload_n (pc := 21) X dX9_get_21 rfl 1 rfl ?_
      refine x_iload_n (pc := 22) X dX9_get_22 rfl 2 rfl ?_
      refine x_iload_n (pc := 23) X dX9_get_23 rfl 3 rfl ?_
      obtain ⟨r24, σ24, hq24, h⟩ := xb2_some h
      refine x_calliV (pc := 24) (As := [.int v1, .int v2, .int v3]) (rest := []) X (kX9_lacks l X.2.2.2.2.2.2.2 F _ _ _ _ _ _ hq24) kvX9_325 rfl (qX9) ⟨rfl, rfl, Nat.le_of_ble_eq_true rfl, Nat.le_of_ble_eq_true rfl⟩ rfl rfl (Nat.le_of_ble_eq_true rfl) dX9_get_24 ?_
      refine x_istore (pc := 27) (lv' := [(4, .int r24), (0, .ref (ad 0)), (1, .int v1), (2, .int v2), (3, .int v3)]) X dX9_get_27 (by decide) rfl ?_
      refine x_iload (pc := 29) X dX9_get_29 0 rfl ?_
      refine x_if_le (pc := 31) X 44 dX9_get_31 (by decide) (fun hc => ?_) (fun hc => ?_)
      · have h := xit hc h
        refine x_aload_n (pc := 44) X dX9_get_44 rfl 1 rfl ?_
        refine gX9_89 (pc := 45) X dX9_get_45 ?_
        refine x_bipush (pc := 48) (v := 60) X dX9_get_48 (by decide) ?_
        refine x_iload_n (pc := 50) X dX9_get_50 rfl 2 rfl ?_
        refine x_imul (pc := 51) X dX9_get_51 ?_
        refine x_iload_n (pc := 52) X dX9_get_52 rfl 4 rfl ?_
        refine x_iadd (pc := 53) X dX9_get_53 ?_
        obtain ⟨hb54, h⟩ := xck_some h
        refine x_iald (pc := 54) X 27 0 (qaX9_items) rfl hb54 dX9_get_54 ?_
        exact x_iret (pc := 55) X hr hl h dX9_get_55
      · have h := xif hc h
        refine x_aload_n (pc := 34) X dX9_get_34 rfl 1 rfl ?_
        refine x_iload (pc := 35) X dX9_get_35 0 rfl ?_
        refine uX9_322 (pc := 37) X dX9_get_37 ?_
        refine x_ldcw (pc := 40) X kcX9_332 dX9_get_40 ?_
        exact x_iret (pc := 43) X hr hl h dX9_get_43
    · have h := xit hc h
      refine x_sub [] rfl ?_
      exact wX9_get_L16 X hr hl F _ h
set_option maxRecDepth 100000 in
set_option maxHeartbeats 4000000 in
theorem wX9_copy_L192 {p : Program} {l : Launch} {e : Env} {s : State} {m : MethodId} {args : Array Value} {below : List Frame} {meth : Method} {c : Code} {D : va_G} {A : Nat → Prop} {ad : Nat → Nat} {cI cX : ClassId} {r : Int32} {σ' : xSt} (X : xX p s m args c cX9_copy 7 RX9 D (tyM cI cX) A (wM ad cI cX)) (hr : meth.sig.returnType = (some .int)) (hl : meth.locks = false) (F : Nat) (σ : xSt) (h : mX9_copy_L192 F σ = some (r, σ')) : xG p l e ({ frames := 2, cells := 0, slots := 0, locals := 42 }) s m args below meth c (MQ below (xQi D A (wM ad cI cX) r σ') args s 0 0 A) 7 D A (wM ad cI cX) σ 192 [] [] := by
  unfold mX9_copy_L192 at h
  refine x_iconst (pc := 192) (v := 1) X dX9_copy_192 (by decide) ?_
  exact x_iret (pc := 193) X hr hl h dX9_copy_193
set_option maxRecDepth 100000 in
set_option maxHeartbeats 4000000 in
theorem wX9_copy_S157 {p : Program} {l : Launch} {e : Env} {s : State} {m : MethodId} {args : Array Value} {below : List Frame} {meth : Method} {c : Code} {D : va_G} {A : Nat → Prop} {ad : Nat → Nat} {cI cX : ClassId} {r : Int32} {σ' : xSt} {c157 : Int32 → Int32 → Int32 → Int32 → xSt → Option (Int32 × xSt)} (X : xX p s m args c cX9_copy 7 RX9 D (tyM cI cX) A (wM ad cI cX)) (hr : meth.sig.returnType = (some .int)) (hl : meth.locks = false) (F : Nat) (hc157 : ∀ (v3 : Int32) (v4 : Int32) (v5 : Int32) (v6 : Int32) (σ : xSt), c157 v3 v4 v5 v6 σ = some (r, σ') → xG p l e ({ frames := 2, cells := 0, slots := 0, locals := 42 }) s m args below meth c (MQ below (xQi D A (wM ad cI cX) r σ') args s 0 0 A) 7 D A (wM ad cI cX) σ 157 [(0, .ref (ad 0)), (3, .int v3), (4, .int v4), (5, .int v5), (6, .int v6)] []) (v3 : Int32) (v4 : Int32) (v5 : Int32) (v6 : Int32) (σ : xSt) (h : mX9_copy_S157 F c157 v3 v4 v5 v6 σ = some (r, σ')) : xG p l e ({ frames := 2, cells := 0, slots := 0, locals := 42 }) s m args below meth c (MQ below (xQi D A (wM ad cI cX) r σ') args s 0 0 A) 7 D A (wM ad cI cX) σ 157 [(0, .ref (ad 0)), (3, .int v3), (4, .int v4), (5, .int v5), (6, .int v6)] [] := by
  unfold mX9_copy_S157 at h
  refine x_iload (pc := 157) X dX9_copy_157 4 rfl ?_
  refine x_iload (pc := 159) X dX9_copy_159 3 rfl ?_
  refine x_icmp_ge (pc := 161) X 192 dX9_copy_161 (by decide) (fun hc => ?_) (fun hc => ?_)
  · have h := xit hc h
    refine x_sub [] rfl ?_
    exact wX9_copy_L192 X hr hl F _ h
  · have h := xif hc h
    refine x_aload_n (pc := 164) X dX9_copy_164 rfl 0 rfl ?_
    refine gX9_89 (pc := 165) X dX9_copy_165 ?_
    refine x_bipush (pc := 168) (v := 60) X dX9_copy_168 (by decide) ?_
    refine x_iload_n (pc := 170) X dX9_copy_170 rfl 1 rfl ?_
    refine x_imul (pc := 171) X dX9_copy_171 ?_
    refine x_iload (pc := 172) X dX9_copy_172 2 rfl ?_
    refine x_iadd (pc := 174) X dX9_copy_174 ?_
    refine x_iload (pc := 175) X dX9_copy_175 4 rfl ?_
    refine x_iadd (pc := 177) X dX9_copy_177 ?_
    refine x_aload_n (pc := 178) X dX9_copy_178 rfl 0 rfl ?_
    refine gX9_92 (pc := 179) X dX9_copy_179 ?_
    refine x_iload (pc := 182) X dX9_copy_182 4 rfl ?_
    obtain ⟨hb184, h⟩ := xck_some h
    refine x_iald (pc := 184) X 28 0 (qaX9_moved) rfl hb184 dX9_copy_184 ?_
    obtain ⟨hb185, h⟩ := xck_some h
    refine x_iast (pc := 185) (σ' := (xsA σ 35 (Int32.toNatClampNeg (((60 * v3) + v4) + v6)) (xA σ 36 (Int32.toNatClampNeg v6)))) X 27 0 (qaX9_items) rfl (saX9_items _) hb185 dX9_copy_185 ?_
    refine x_iinc (pc := 186) (v := (v6 + 1)) (lv' := [(6, .int (v6 + 1)), (0, .ref (ad 0)), (3, .int v3), (4, .int v4), (5, .int v5)]) X dX9_copy_186 4 rfl rfl (by decide) rfl ?_
    refine x_goto (pc := 189) X 157 dX9_copy_189 (by decide) ?_
    refine x_sub [1, 2, 3, 4, 0] rfl ?_
    exact hc157 _ _ _ _ _ h
theorem wX9_copy_L157 {p : Program} {l : Launch} {e : Env} {s : State} {m : MethodId} {args : Array Value} {below : List Frame} {meth : Method} {c : Code} {D : va_G} {A : Nat → Prop} {ad : Nat → Nat} {cI cX : ClassId} {r : Int32} {σ' : xSt} (X : xX p s m args c cX9_copy 7 RX9 D (tyM cI cX) A (wM ad cI cX)) (hr : meth.sig.returnType = (some .int)) (hl : meth.locks = false) (F : Nat) : ∀ (n : Nat) (v3 : Int32) (v4 : Int32) (v5 : Int32) (v6 : Int32) (σ : xSt), mX9_copy_L157 F n v3 v4 v5 v6 σ = some (r, σ') → xG p l e ({ frames := 2, cells := 0, slots := 0, locals := 42 }) s m args below meth c (MQ below (xQi D A (wM ad cI cX) r σ') args s 0 0 A) 7 D A (wM ad cI cX) σ 157 [(0, .ref (ad 0)), (3, .int v3), (4, .int v4), (5, .int v5), (6, .int v6)] [] := by
  intro n
  induction n with
  | zero => intro v3 v4 v5 v6 σ h; cases h
  | succ n ih => intro v3 v4 v5 v6 σ h; exact wX9_copy_S157 X hr hl F ih v3 v4 v5 v6 σ h
set_option maxRecDepth 100000 in
set_option maxHeartbeats 4000000 in
theorem wX9_copy_L154 {p : Program} {l : Launch} {e : Env} {s : State} {m : MethodId} {args : Array Value} {below : List Frame} {meth : Method} {c : Code} {D : va_G} {A : Nat → Prop} {ad : Nat → Nat} {cI cX : ClassId} {r : Int32} {σ' : xSt} (X : xX p s m args c cX9_copy 7 RX9 D (tyM cI cX) A (wM ad cI cX)) (hr : meth.sig.returnType = (some .int)) (hl : meth.locks = false) (F : Nat) (v3 : Int32) (v4 : Int32) (v5 : Int32) (σ : xSt) (h : mX9_copy_L154 F v3 v4 v5 σ = some (r, σ')) : xG p l e ({ frames := 2, cells := 0, slots := 0, locals := 42 }) s m args below meth c (MQ below (xQi D A (wM ad cI cX) r σ') args s 0 0 A) 7 D A (wM ad cI cX) σ 154 [(0, .ref (ad 0)), (3, .int v3), (4, .int v4), (5, .int v5)] [] := by
  unfold mX9_copy_L154 at h
  refine x_iconst (pc := 154) (v := 0) X dX9_copy_154 (by decide) ?_
  refine x_istore (pc := 155) (lv' := [(6, .int 0), (0, .ref (ad 0)), (3, .int v3), (4, .int v4), (5, .int v5)]) X dX9_copy_155 (by decide) rfl ?_
  refine x_sub [1, 2, 3, 4, 0] rfl ?_
  exact wX9_copy_L157 X hr hl F F _ _ _ _ _ h
set_option maxRecDepth 100000 in
set_option maxHeartbeats 4000000 in
theorem wX9_copy_S120 {p : Program} {l : Launch} {e : Env} {s : State} {m : MethodId} {args : Array Value} {below : List Frame} {meth : Method} {c : Code} {D : va_G} {A : Nat → Prop} {ad : Nat → Nat} {cI cX : ClassId} {r : Int32} {σ' : xSt} {c120 : Int32 → Int32 → Int32 → Int32 → Int32 → Int32 → xSt → Option (Int32 × xSt)} (X : xX p s m args c cX9_copy 7 RX9 D (tyM cI cX) A (wM ad cI cX)) (hr : meth.sig.returnType = (some .int)) (hl : meth.locks = false) (F : Nat) (hc120 : ∀ (v1 : Int32) (v2 : Int32) (v3 : Int32) (v4 : Int32) (v5 : Int32) (v6 : Int32) (σ : xSt), c120 v1 v2 v3 v4 v5 v6 σ = some (r, σ') → xG p l e ({ frames := 2, cells := 0, slots := 0, locals := 42 }) s m args below meth c (MQ below (xQi D A (wM ad cI cX) r σ') args s 0 0 A) 7 D A (wM ad cI cX) σ 120 [(0, .ref (ad 0)), (1, .int v1), (2, .int v2), (3, .int v3), (4, .int v4), (5, .int v5), (6, .int v6)] []) (v1 : Int32) (v2 : Int32) (v3 : Int32) (v4 : Int32) (v5 : Int32) (v6 : Int32) (σ : xSt) (h : mX9_copy_S120 F c120 v1 v2 v3 v4 v5 v6 σ = some (r, σ')) : xG p l e ({ frames := 2, cells := 0, slots := 0, locals := 42 }) s m args below meth c (MQ below (xQi D A (wM ad cI cX) r σ') args s 0 0 A) 7 D A (wM ad cI cX) σ 120 [(0, .ref (ad 0)), (1, .int v1), (2, .int v2), (3, .int v3), (4, .int v4), (5, .int v5), (6, .int v6)] [] := by
  unfold mX9_copy_S120 at h
  refine x_iload (pc := 120) X dX9_copy_120 6 rfl ?_
  refine x_iload (pc := 122) X dX9_copy_122 5 rfl ?_
  refine x_icmp_ge (pc := 124) X 154 dX9_copy_124 (by decide) (fun hc => ?_) (fun hc => ?_)
  · have h := xit hc h
    refine x_sub [0, 3, 4, 5] rfl ?_
    exact wX9_copy_L154 X hr hl F _ _ _ _ h
  · have h := xif hc h
    refine x_aload_n (pc := 127) X dX9_copy_127 rfl 0 rfl ?_
    refine gX9_92 (pc := 128) X dX9_copy_128 ?_
    refine x_iload (pc := 131) X dX9_copy_131 6 rfl ?_
    refine x_aload_n (pc := 133) X dX9_copy_133 rfl 0 rfl ?_
    refine gX9_89 (pc := 134) X dX9_copy_134 ?_
    refine x_bipush (pc := 137) (v := 60) X dX9_copy_137 (by decide) ?_
    refine x_iload_n (pc := 139) X dX9_copy_139 rfl 1 rfl ?_
    refine x_imul (pc := 140) X dX9_copy_140 ?_
    refine x_iload_n (pc := 141) X dX9_copy_141 rfl 2 rfl ?_
    refine x_iadd (pc := 142) X dX9_copy_142 ?_
    refine x_iload (pc := 143) X dX9_copy_143 6 rfl ?_
    refine x_iadd (pc := 145) X dX9_copy_145 ?_
    obtain ⟨hb146, h⟩ := xck_some h
    refine x_iald (pc := 146) X 27 0 (qaX9_items) rfl hb146 dX9_copy_146 ?_
    obtain ⟨hb147, h⟩ := xck_some h
    refine x_iast (pc := 147) (σ' := (xsA σ 36 (Int32.toNatClampNeg v6) (xA σ 35 (Int32.toNatClampNeg (((60 * v1) + v2) + v6))))) X 28 0 (qaX9_moved) rfl (saX9_moved _) hb147 dX9_copy_147 ?_
    refine x_iinc (pc := 148) (v := (v6 + 1)) (lv' := [(6, .int (v6 + 1)), (0, .ref (ad 0)), (1, .int v1), (2, .int v2), (3, .int v3), (4, .int v4), (5, .int v5)]) X dX9_copy_148 6 rfl rfl (by decide) rfl ?_
    refine x_goto (pc := 151) X 120 dX9_copy_151 (by decide) ?_
    refine x_sub [1, 2, 3, 4, 5, 6, 0] rfl ?_
    exact hc120 _ _ _ _ _ _ _ h
theorem wX9_copy_L120 {p : Program} {l : Launch} {e : Env} {s : State} {m : MethodId} {args : Array Value} {below : List Frame} {meth : Method} {c : Code} {D : va_G} {A : Nat → Prop} {ad : Nat → Nat} {cI cX : ClassId} {r : Int32} {σ' : xSt} (X : xX p s m args c cX9_copy 7 RX9 D (tyM cI cX) A (wM ad cI cX)) (hr : meth.sig.returnType = (some .int)) (hl : meth.locks = false) (F : Nat) : ∀ (n : Nat) (v1 : Int32) (v2 : Int32) (v3 : Int32) (v4 : Int32) (v5 : Int32) (v6 : Int32) (σ : xSt), mX9_copy_L120 F n v1 v2 v3 v4 v5 v6 σ = some (r, σ') → xG p l e ({ frames := 2, cells := 0, slots := 0, locals := 42 }) s m args below meth c (MQ below (xQi D A (wM ad cI cX) r σ') args s 0 0 A) 7 D A (wM ad cI cX) σ 120 [(0, .ref (ad 0)), (1, .int v1), (2, .int v2), (3, .int v3), (4, .int v4), (5, .int v5), (6, .int v6)] [] := by
  intro n
  induction n with
  | zero => intro v1 v2 v3 v4 v5 v6 σ h; cases h
  | succ n ih => intro v1 v2 v3 v4 v5 v6 σ h; exact wX9_copy_S120 X hr hl F ih v1 v2 v3 v4 v5 v6 σ h
set_option maxRecDepth 100000 in
set_option maxHeartbeats 4000000 in
theorem wX9_copy_L111 {p : Program} {l : Launch} {e : Env} {s : State} {m : MethodId} {args : Array Value} {below : List Frame} {meth : Method} {c : Code} {D : va_G} {A : Nat → Prop} {ad : Nat → Nat} {cI cX : ClassId} {r : Int32} {σ' : xSt} (X : xX p s m args c cX9_copy 7 RX9 D (tyM cI cX) A (wM ad cI cX)) (hr : meth.sig.returnType = (some .int)) (hl : meth.locks = false) (F : Nat) (σ : xSt) (h : mX9_copy_L111 F σ = some (r, σ')) : xG p l e ({ frames := 2, cells := 0, slots := 0, locals := 42 }) s m args below meth c (MQ below (xQi D A (wM ad cI cX) r σ') args s 0 0 A) 7 D A (wM ad cI cX) σ 111 [(0, .ref (ad 0))] [] := by
  unfold mX9_copy_L111 at h
  refine x_aload_n (pc := 111) X dX9_copy_111 rfl 0 rfl ?_
  refine x_iconst (pc := 112) (v := 2) X dX9_copy_112 (by decide) ?_
  obtain ⟨r113, σ113, hq113, h⟩ := xb2_some h
  refine x_calliV (pc := 113) (As := [.int 2]) (rest := []) X (kX9_meets l X.2.2.2.2.2.2.2 F _ _ _ _ hq113) kvX9_164 rfl (qX9) ⟨rfl, rfl, Nat.le_of_ble_eq_true rfl, Nat.le_of_ble_eq_true rfl⟩ rfl rfl (Nat.le_of_ble_eq_true rfl) dX9_copy_113 ?_
  exact x_iret (pc := 116) X hr hl h dX9_copy_116
set_option maxRecDepth 100000 in
set_option maxHeartbeats 4000000 in
theorem wX9_copy_L35 {p : Program} {l : Launch} {e : Env} {s : State} {m : MethodId} {args : Array Value} {below : List Frame} {meth : Method} {c : Code} {D : va_G} {A : Nat → Prop} {ad : Nat → Nat} {cI cX : ClassId} {r : Int32} {σ' : xSt} (X : xX p s m args c cX9_copy 7 RX9 D (tyM cI cX) A (wM ad cI cX)) (hr : meth.sig.returnType = (some .int)) (hl : meth.locks = false) (F : Nat) (σ : xSt) (h : mX9_copy_L35 F σ = some (r, σ')) : xG p l e ({ frames := 2, cells := 0, slots := 0, locals := 42 }) s m args below meth c (MQ below (xQi D A (wM ad cI cX) r σ') args s 0 0 A) 7 D A (wM ad cI cX) σ 35 [(0, .ref (ad 0))] [] := by
  unfold mX9_copy_L35 at h
  refine x_aload_n (pc := 35) X dX9_copy_35 rfl 0 rfl ?_
  refine x_iconst (pc := 36) (v := 1) X dX9_copy_36 (by decide) ?_
  obtain ⟨r37, σ37, hq37, h⟩ := xb2_some h
  refine x_calliV (pc := 37) (As := [.int 1]) (rest := []) X (kX9_meets l X.2.2.2.2.2.2.2 F _ _ _ _ hq37) kvX9_164 rfl (qX9) ⟨rfl, rfl, Nat.le_of_ble_eq_true rfl, Nat.le_of_ble_eq_true rfl⟩ rfl rfl (Nat.le_of_ble_eq_true rfl) dX9_copy_37 ?_
  exact x_iret (pc := 40) X hr hl h dX9_copy_40
set_option maxRecDepth 100000 in
set_option maxHeartbeats 4000000 in
theorem wX9_copy_L14 {p : Program} {l : Launch} {e : Env} {s : State} {m : MethodId} {args : Array Value} {below : List Frame} {meth : Method} {c : Code} {D : va_G} {A : Nat → Prop} {ad : Nat → Nat} {cI cX : ClassId} {r : Int32} {σ' : xSt} (X : xX p s m args c cX9_copy 7 RX9 D (tyM cI cX) A (wM ad cI cX)) (hr : meth.sig.returnType = (some .int)) (hl : meth.locks = false) (F : Nat) (σ : xSt) (h : mX9_copy_L14 F σ = some (r, σ')) : xG p l e ({ frames := 2, cells := 0, slots := 0, locals := 42 }) s m args below meth c (MQ below (xQi D A (wM ad cI cX) r σ') args s 0 0 A) 7 D A (wM ad cI cX) σ 14 [] [] := by
  unfold mX9_copy_L14 at h
  refine x_bipush (pc := 14) (v := (-2)) X dX9_copy_14 (by decide) ?_
  exact x_iret (pc := 16) X hr hl h dX9_copy_16
set_option maxRecDepth 100000 in
set_option maxHeartbeats 4000000 in
theorem kX9_copy (l : Launch) {D : va_G} {A : Nat → Prop} {ad : Nat → Nat} {cI cX : ClassId} (hD : ∀ σ, va_D A ((wM ad cI cX) σ)) (F : Nat) (v1 : Int32) (v2 : Int32) (v3 : Int32) (v4 : Int32) (v5 : Int32) (σ : xSt) (r : Int32) (σ' : xSt) (h : mX9_copy F v1 v2 v3 v4 v5 σ = some (r, σ')) : xM l yX9_copy cX9_copy 7 (some .int) ({ frames := 2, cells := 0, slots := 0, locals := 42 }) D (tyM cI cX) A (wM ad cI cX) [.ref (ad 0), .int v1, .int v2, .int v3, .int v4, .int v5] σ (xQi D A (wM ad cI cX) r σ') := by
  refine xM_of (lv := [(0, .ref (ad 0)), (1, .int v1), (2, .int v2), (3, .int v3), (4, .int v4), (5, .int v5)]) [.ref (ad 0), .int v1, .int v2, .int v3, .int v4, .int v5] (by decide) hD rfl (Nat.le_of_ble_eq_true rfl) ?_
  intro p e s m args below meth c X hr hl
  unfold mX9_copy at h
  refine x_iload_n (pc := 0) X dX9_copy_0 rfl 1 rfl ?_
  obtain ⟨r1, σ1, hq1, h⟩ := xb2_some h
  refine x_calliS (pc := 1) (As := [.int v1]) (rest := []) X (kX9_isSheet l X.2.2.2.2.2.2.2 F _ _ _ _ hq1) kvX9_161 ⟨rfl, rfl, Nat.le_of_ble_eq_true rfl, Nat.le_of_ble_eq_true rfl⟩ rfl rfl (Nat.le_of_ble_eq_true rfl) dX9_copy_1 ?_
  refine x_if_eq (pc := 4) X 14 dX9_copy_4 (by decide) (fun hc => ?_) (fun hc => ?_)
  · have h := xit hc h
    refine x_sub [] rfl ?_
    exact wX9_copy_L14 X hr hl F _ h
  · have h := xif hc h
    refine x_iload_n (pc := 7) X dX9_copy_7 rfl 3 rfl ?_
    obtain ⟨r8, σ8, hq8, h⟩ := xb2_some h
    refine x_calliS (pc := 8) (As := [.int v3]) (rest := []) X (kX9_isSheet l X.2.2.2.2.2.2.2 F _ _ _ _ hq8) kvX9_161 ⟨rfl, rfl, Nat.le_of_ble_eq_true rfl, Nat.le_of_ble_eq_true rfl⟩ rfl rfl (Nat.le_of_ble_eq_true rfl) dX9_copy_8 ?_
    refine x_if_ne (pc := 11) X 17 dX9_copy_11 (by decide) (fun hc => ?_) (fun hc => ?_)
    · have h := xif hc h
      refine x_aload_n (pc := 17) X dX9_copy_17 rfl 0 rfl ?_
      refine gX9_80 (pc := 18) X dX9_copy_18 ?_
      refine x_iload_n (pc := 21) X dX9_copy_21 rfl 1 rfl ?_
      obtain ⟨hb22, h⟩ := xck_some h
      refine x_zald (pc := 22) X 24 1 (qaX9_isThere) rfl hb22 dX9_copy_22 ?_
      refine x_if_eq (pc := 23) X 35 dX9_copy_23 (by decide) (fun hc => ?_) (fun hc => ?_)
      · have h := xit hc h
        refine x_sub [0] rfl ?_
        exact wX9_copy_L35 X hr hl F _ h
      · have h := xif hc h
        refine x_aload_n (pc := 26) X dX9_copy_26 rfl 0 rfl ?_
        refine gX9_80 (pc := 27) X dX9_copy_27 ?_
        refine x_iload_n (pc := 30) X dX9_copy_30 rfl 3 rfl ?_
        obtain ⟨hb31, h⟩ := xck_some h
        refine x_zald (pc := 31) X 24 1 (qaX9_isThere) rfl hb31 dX9_copy_31 ?_
        refine x_if_ne (pc := 32) X 41 dX9_copy_32 (by decide) (fun hc => ?_) (fun hc => ?_)
        · have h := xif hc h
          refine x_aload_n (pc := 41) X dX9_copy_41 rfl 0 rfl ?_
          refine gX9_83 (pc := 42) X dX9_copy_42 ?_
          refine x_iload_n (pc := 45) X dX9_copy_45 rfl 1 rfl ?_
          obtain ⟨hb46, h⟩ := xck_some h
          refine x_iald (pc := 46) X 25 0 (qaX9_forms) rfl hb46 dX9_copy_46 ?_
          refine x_aload_n (pc := 47) X dX9_copy_47 rfl 0 rfl ?_
          refine gX9_83 (pc := 48) X dX9_copy_48 ?_
          refine x_iload_n (pc := 51) X dX9_copy_51 rfl 3 rfl ?_
          obtain ⟨hb52, h⟩ := xck_some h
          refine x_iald (pc := 52) X 25 0 (qaX9_forms) rfl hb52 dX9_copy_52 ?_
          refine x_icmp_eq (pc := 53) X 62 dX9_copy_53 (by decide) (fun hc => ?_) (fun hc => ?_)
          · have h := xit hc h
            refine x_iload_n (pc := 62) X dX9_copy_62 rfl 2 rfl ?_
            refine x_if_lt (pc := 63) X 111 dX9_copy_63 (by decide) (fun hc => ?_) (fun hc => ?_)
            · have h := xit hc h
              refine x_sub [0] rfl ?_
              exact wX9_copy_L111 X hr hl F _ h
            · have h := xif hc h
              refine x_iload (pc := 66) X dX9_copy_66 4 rfl ?_
              refine x_if_lt (pc := 68) X 111 dX9_copy_68 (by decide) (fun hc => ?_) (fun hc => ?_)
              · have h := xit hc h
                refine x_sub [0] rfl ?_
                exact wX9_copy_L111 X hr hl F _ h
              · have h := xif hc h
                refine x_iload (pc := 71) X dX9_copy_71 5 rfl ?_
                refine x_if_lt (pc := 73) X 111 dX9_copy_73 (by decide) (fun hc => ?_) (fun hc => ?_)
                · have h := xit hc h
                  refine x_sub [0] rfl ?_
                  exact wX9_copy_L111 X hr hl F _ h
                · have h := xif hc h
                  refine x_iload_n (pc := 76) X dX9_copy_76 rfl 2 rfl ?_
                  refine x_i2l (pc := 77) X dX9_copy_77 ?_
                  refine x_iload (pc := 78) X dX9_copy_78 5 rfl ?_
                  refine x_i2l (pc := 80) X dX9_copy_80 ?_
                  refine x_ladd (pc := 81) X dX9_copy_81 ?_
                  refine x_aload_n (pc := 82) X dX9_copy_82 rfl 0 rfl ?_
                  refine gX9_86 (pc := 83) X dX9_copy_83 ?_
                  refine x_iload_n (pc := 86) X dX9_copy_86 rfl 1 rfl ?_
                  obtain ⟨hb87, h⟩ := xck_some h
                  refine x_iald (pc := 87) X 26 0 (qaX9_sizes) rfl hb87 dX9_copy_87 ?_
                  refine x_i2l (pc := 88) X dX9_copy_88 ?_
                  refine x_lcmp (pc := 89) X dX9_copy_89 ?_
                  refine x_if_gt (pc := 90) X 111 dX9_copy_90 (by decide) (fun hc => ?_) (fun hc => ?_)
                  · have h := xit hc h
                    refine x_sub [0] rfl ?_
                    exact wX9_copy_L111 X hr hl F _ h
                  · have h := xif hc h
                    refine x_iload (pc := 93) X dX9_copy_93 4 rfl ?_
                    refine x_i2l (pc := 95) X dX9_copy_95 ?_
                    refine x_iload (pc := 96) X dX9_copy_96 5 rfl ?_
                    refine x_i2l (pc := 98) X dX9_copy_98 ?_
                    refine x_ladd (pc := 99) X dX9_copy_99 ?_
                    refine x_aload_n (pc := 100) X dX9_copy_100 rfl 0 rfl ?_
                    refine gX9_86 (pc := 101) X dX9_copy_101 ?_
                    refine x_iload_n (pc := 104) X dX9_copy_104 rfl 3 rfl ?_
                    obtain ⟨hb105, h⟩ := xck_some h
                    refine x_iald (pc := 105) X 26 0 (qaX9_sizes) rfl hb105 dX9_copy_105 ?_
                    refine x_i2l (pc := 106) X dX9_copy_106 ?_
                    refine x_lcmp (pc := 107) X dX9_copy_107 ?_
                    refine x_if_le (pc := 108) X 117 dX9_copy_108 (by decide) (fun hc => ?_) (fun hc => ?_)
                    · have h := xit hc h
                      refine x_iconst (pc := 117) (v := 0) X dX9_copy_117 (by decide) ?_
                      refine x_istore (pc := 118) (lv' := [(6, .int 0), (0, .ref (ad 0)), (1, .int v1), (2, .int v2), (3, .int v3), (4, .int v4), (5, .int v5)]) X dX9_copy_118 (by decide) rfl ?_
                      refine x_sub [1, 2, 3, 4, 5, 6, 0] rfl ?_
                      exact wX9_copy_L120 X hr hl F F _ _ _ _ _ _ _ h
                    · have h := xif hc h
                      refine x_sub [0] rfl ?_
                      exact wX9_copy_L111 X hr hl F _ h
          · have h := xif hc h
            refine x_aload_n (pc := 56) X dX9_copy_56 rfl 0 rfl ?_
            refine x_iconst (pc := 57) (v := 4) X dX9_copy_57 (by decide) ?_
            obtain ⟨r58, σ58, hq58, h⟩ := xb2_some h
            refine x_calliV (pc := 58) (As := [.int 4]) (rest := []) X (kX9_meets l X.2.2.2.2.2.2.2 F _ _ _ _ hq58) kvX9_164 rfl (qX9) ⟨rfl, rfl, Nat.le_of_ble_eq_true rfl, Nat.le_of_ble_eq_true rfl⟩ rfl rfl (Nat.le_of_ble_eq_true rfl) dX9_copy_58 ?_
            exact x_iret (pc := 61) X hr hl h dX9_copy_61
        · have h := xit hc h
          refine x_sub [0] rfl ?_
          exact wX9_copy_L35 X hr hl F _ h
    · have h := xit hc h
      refine x_sub [] rfl ?_
      exact wX9_copy_L14 X hr hl F _ h
set_option maxRecDepth 100000 in
set_option maxHeartbeats 4000000 in
theorem wX9_write_L69 {p : Program} {l : Launch} {e : Env} {s : State} {m : MethodId} {args : Array Value} {below : List Frame} {meth : Method} {c : Code} {D : va_G} {A : Nat → Prop} {ad : Nat → Nat} {cI cX : ClassId} {r : Int32} {σ' : xSt} (X : xX p s m args c cX9_write 4 RX9 D (tyM cI cX) A (wM ad cI cX)) (hr : meth.sig.returnType = (some .int)) (hl : meth.locks = false) (F : Nat) (v3 : Int32) (σ : xSt) (h : mX9_write_L69 F v3 σ = some (r, σ')) : xG p l e ({ frames := 7, cells := 0, slots := 0, locals := 160 }) s m args below meth c (MQ below (xQi D A (wM ad cI cX) r σ') args s 0 0 A) 4 D A (wM ad cI cX) σ 69 [(3, .int v3)] [] := by
  unfold mX9_write_L69 at h
  refine x_iload_n (pc := 69) X dX9_write_69 rfl 0 rfl ?_
  exact x_iret (pc := 70) X hr hl h dX9_write_70
set_option maxRecDepth 100000 in
set_option maxHeartbeats 4000000 in
theorem wX9_write_S35 {p : Program} {l : Launch} {e : Env} {s : State} {m : MethodId} {args : Array Value} {below : List Frame} {meth : Method} {c : Code} {D : va_G} {A : Nat → Prop} {ad : Nat → Nat} {cI cX : ClassId} {r : Int32} {σ' : xSt} {c35 : Int32 → Int32 → Int32 → xSt → Option (Int32 × xSt)} (X : xX p s m args c cX9_write 4 RX9 D (tyM cI cX) A (wM ad cI cX)) (hr : meth.sig.returnType = (some .int)) (hl : meth.locks = false) (F : Nat) (hc35 : ∀ (v1 : Int32) (v2 : Int32) (v3 : Int32) (σ : xSt), c35 v1 v2 v3 σ = some (r, σ') → xG p l e ({ frames := 7, cells := 0, slots := 0, locals := 160 }) s m args below meth c (MQ below (xQi D A (wM ad cI cX) r σ') args s 0 0 A) 4 D A (wM ad cI cX) σ 35 [(0, .ref (ad 0)), (1, .int v1), (2, .int v2), (3, .int v3)] []) (v1 : Int32) (v2 : Int32) (v3 : Int32) (σ : xSt) (h : mX9_write_S35 F c35 v1 v2 v3 σ = some (r, σ')) : xG p l e ({ frames := 7, cells := 0, slots := 0, locals := 160 }) s m args below meth c (MQ below (xQi D A (wM ad cI cX) r σ') args s 0 0 A) 4 D A (wM ad cI cX) σ 35 [(0, .ref (ad 0)), (1, .int v1), (2, .int v2), (3, .int v3)] [] := by
  unfold mX9_write_S35 at h
  refine x_iload_n (pc := 35) X dX9_write_35 rfl 3 rfl ?_
  refine x_aload_n (pc := 36) X dX9_write_36 rfl 0 rfl ?_
  refine gX9_86 (pc := 37) X dX9_write_37 ?_
  refine x_iload_n (pc := 40) X dX9_write_40 rfl 2 rfl ?_
  obtain ⟨hb41, h⟩ := xck_some h
  refine x_iald (pc := 41) X 26 0 (qaX9_sizes) rfl hb41 dX9_write_41 ?_
  refine x_icmp_ge (pc := 42) X 69 dX9_write_42 (by decide) (fun hc => ?_) (fun hc => ?_)
  · have h := xit hc h
    refine x_sub [3] rfl ?_
    exact wX9_write_L69 X hr hl F _ _ h
  · have h := xif hc h
    refine x_iload_n (pc := 45) X dX9_write_45 rfl 3 rfl ?_
    refine x_bipush (pc := 46) (v := 24) X dX9_write_46 (by decide) ?_
    refine x_icmp_ge (pc := 48) X 69 dX9_write_48 (by decide) (fun hc => ?_) (fun hc => ?_)
    · have h := xit hc h
      refine x_sub [3] rfl ?_
      exact wX9_write_L69 X hr hl F _ _ h
    · have h := xif hc h
      refine x_aload_n (pc := 51) X dX9_write_51 rfl 0 rfl ?_
      refine x_iload_n (pc := 52) X dX9_write_52 rfl 2 rfl ?_
      refine x_iload_n (pc := 53) X dX9_write_53 rfl 3 rfl ?_
      refine x_aload_n (pc := 54) X dX9_write_54 rfl 0 rfl ?_
      refine x_iload_n (pc := 55) X dX9_write_55 rfl 3 rfl ?_
      refine x_iload_n (pc := 56) X dX9_write_56 rfl 1 rfl ?_
      obtain ⟨r57, σ57, hq57, h⟩ := xb2_some h
      refine x_calliV (pc := 57) (As := [.int v3, .int v1]) (rest := [.int v3, .int v2, .ref (ad 0)]) X (kX9_tellsOf l X.2.2.2.2.2.2.2 F _ _ _ _ _ hq57) kvX9_231 rfl (qX9) ⟨rfl, rfl, Nat.le_of_ble_eq_true rfl, Nat.le_of_ble_eq_true rfl⟩ rfl rfl (Nat.le_of_ble_eq_true rfl) dX9_write_57 ?_
      obtain ⟨σ60, hq60, h⟩ := xb1_some h
      refine x_callvV (pc := 60) (As := [.int v2, .int v3, .int r57]) (rest := []) X (kX9_keep l X.2.2.2.2.2.2.2 F _ _ _ _ _ hq60) kvX9_328 rfl (qX9) ⟨rfl, rfl, Nat.le_of_ble_eq_true rfl, Nat.le_of_ble_eq_true rfl⟩ rfl rfl (Nat.le_of_ble_eq_true rfl) dX9_write_60 ?_
      refine x_iinc (pc := 63) (v := (v3 + 1)) (lv' := [(3, .int (v3 + 1)), (0, .ref (ad 0)), (1, .int v1), (2, .int v2)]) X dX9_write_63 3 rfl rfl (by decide) rfl ?_
      refine x_goto (pc := 66) X 35 dX9_write_66 (by decide) ?_
      refine x_sub [1, 2, 3, 0] rfl ?_
      exact hc35 _ _ _ _ h
theorem wX9_write_L35 {p : Program} {l : Launch} {e : Env} {s : State} {m : MethodId} {args : Array Value} {below : List Frame} {meth : Method} {c : Code} {D : va_G} {A : Nat → Prop} {ad : Nat → Nat} {cI cX : ClassId} {r : Int32} {σ' : xSt} (X : xX p s m args c cX9_write 4 RX9 D (tyM cI cX) A (wM ad cI cX)) (hr : meth.sig.returnType = (some .int)) (hl : meth.locks = false) (F : Nat) : ∀ (n : Nat) (v1 : Int32) (v2 : Int32) (v3 : Int32) (σ : xSt), mX9_write_L35 F n v1 v2 v3 σ = some (r, σ') → xG p l e ({ frames := 7, cells := 0, slots := 0, locals := 160 }) s m args below meth c (MQ below (xQi D A (wM ad cI cX) r σ') args s 0 0 A) 4 D A (wM ad cI cX) σ 35 [(0, .ref (ad 0)), (1, .int v1), (2, .int v2), (3, .int v3)] [] := by
  intro n
  induction n with
  | zero => intro v1 v2 v3 σ h; cases h
  | succ n ih => intro v1 v2 v3 σ h; exact wX9_write_S35 X hr hl F ih v1 v2 v3 σ h
set_option maxRecDepth 100000 in
set_option maxHeartbeats 4000000 in
theorem wX9_write_L15 {p : Program} {l : Launch} {e : Env} {s : State} {m : MethodId} {args : Array Value} {below : List Frame} {meth : Method} {c : Code} {D : va_G} {A : Nat → Prop} {ad : Nat → Nat} {cI cX : ClassId} {r : Int32} {σ' : xSt} (X : xX p s m args c cX9_write 4 RX9 D (tyM cI cX) A (wM ad cI cX)) (hr : meth.sig.returnType = (some .int)) (hl : meth.locks = false) (F : Nat) (σ : xSt) (h : mX9_write_L15 F σ = some (r, σ')) : xG p l e ({ frames := 7, cells := 0, slots := 0, locals := 160 }) s m args below meth c (MQ below (xQi D A (wM ad cI cX) r σ') args s 0 0 A) 4 D A (wM ad cI cX) σ 15 [] [] := by
  unfold mX9_write_L15 at h
  refine x_bipush (pc := 15) (v := (-2)) X dX9_write_15 (by decide) ?_
  exact x_iret (pc := 17) X hr hl h dX9_write_17
set_option maxRecDepth 100000 in
set_option maxHeartbeats 4000000 in
theorem kX9_write (l : Launch) {D : va_G} {A : Nat → Prop} {ad : Nat → Nat} {cI cX : ClassId} (hD : ∀ σ, va_D A ((wM ad cI cX) σ)) (F : Nat) (v1 : Int32) (v2 : Int32) (σ : xSt) (r : Int32) (σ' : xSt) (h : mX9_write F v1 v2 σ = some (r, σ')) : xM l yX9_write cX9_write 4 (some .int) ({ frames := 7, cells := 0, slots := 0, locals := 160 }) D (tyM cI cX) A (wM ad cI cX) [.ref (ad 0), .int v1, .int v2] σ (xQi D A (wM ad cI cX) r σ') := by
  refine xM_of (lv := [(0, .ref (ad 0)), (1, .int v1), (2, .int v2)]) [.ref (ad 0), .int v1, .int v2] (by decide) hD rfl (Nat.le_of_ble_eq_true rfl) ?_
  intro p e s m args below meth c X hr hl
  unfold mX9_write at h
  refine x_aload_n (pc := 0) X dX9_write_0 rfl 0 rfl ?_
  refine x_iload_n (pc := 1) X dX9_write_1 rfl 1 rfl ?_
  obtain ⟨r2, σ2, hq2, h⟩ := xb2_some h
  refine x_calliV (pc := 2) (As := [.int v1]) (rest := []) X (kX9_isThing l X.2.2.2.2.2.2.2 F _ _ _ _ hq2) kvX9_130 rfl (qX9) ⟨rfl, rfl, Nat.le_of_ble_eq_true rfl, Nat.le_of_ble_eq_true rfl⟩ rfl rfl (Nat.le_of_ble_eq_true rfl) dX9_write_2 ?_
  refine x_if_eq (pc := 5) X 15 dX9_write_5 (by decide) (fun hc => ?_) (fun hc => ?_)
  · have h := xit hc h
    refine x_sub [] rfl ?_
    exact wX9_write_L15 X hr hl F _ h
  · have h := xif hc h
    refine x_iload_n (pc := 8) X dX9_write_8 rfl 2 rfl ?_
    obtain ⟨r9, σ9, hq9, h⟩ := xb2_some h
    refine x_calliS (pc := 9) (As := [.int v2]) (rest := []) X (kX9_isSheet l X.2.2.2.2.2.2.2 F _ _ _ _ hq9) kvX9_161 ⟨rfl, rfl, Nat.le_of_ble_eq_true rfl, Nat.le_of_ble_eq_true rfl⟩ rfl rfl (Nat.le_of_ble_eq_true rfl) dX9_write_9 ?_
    refine x_if_ne (pc := 12) X 18 dX9_write_12 (by decide) (fun hc => ?_) (fun hc => ?_)
    · have h := xif hc h
      refine x_aload_n (pc := 18) X dX9_write_18 rfl 0 rfl ?_
      refine gX9_80 (pc := 19) X dX9_write_19 ?_
      refine x_iload_n (pc := 22) X dX9_write_22 rfl 2 rfl ?_
      obtain ⟨hb23, h⟩ := xck_some h
      refine x_zald (pc := 23) X 24 1 (qaX9_isThere) rfl hb23 dX9_write_23 ?_
      refine x_if_ne (pc := 24) X 33 dX9_write_24 (by decide) (fun hc => ?_) (fun hc => ?_)
      · have h := xif hc h
        refine x_iconst (pc := 33) (v := 0) X dX9_write_33 (by decide) ?_
        refine x_istore_n (pc := 34) (lv' := [(3, .int 0), (0, .ref (ad 0)), (1, .int v1), (2, .int v2)]) X dX9_write_34 rfl (by decide) rfl ?_
        refine x_sub [1, 2, 3, 0] rfl ?_
        exact wX9_write_L35 X hr hl F F _ _ _ _ h
      · have h := xit hc h
        refine x_aload_n (pc := 27) X dX9_write_27 rfl 0 rfl ?_
        refine x_iconst (pc := 28) (v := 1) X dX9_write_28 (by decide) ?_
        obtain ⟨r29, σ29, hq29, h⟩ := xb2_some h
        refine x_calliV (pc := 29) (As := [.int 1]) (rest := []) X (kX9_meets l X.2.2.2.2.2.2.2 F _ _ _ _ hq29) kvX9_164 rfl (qX9) ⟨rfl, rfl, Nat.le_of_ble_eq_true rfl, Nat.le_of_ble_eq_true rfl⟩ rfl rfl (Nat.le_of_ble_eq_true rfl) dX9_write_29 ?_
        exact x_iret (pc := 32) X hr hl h dX9_write_32
    · have h := xit hc h
      refine x_sub [] rfl ?_
      exact wX9_write_L15 X hr hl F _ h
set_option maxRecDepth 100000 in
set_option maxHeartbeats 4000000 in
theorem wX9_sumOf_L57 {p : Program} {l : Launch} {e : Env} {s : State} {m : MethodId} {args : Array Value} {below : List Frame} {meth : Method} {c : Code} {D : va_G} {A : Nat → Prop} {ad : Nat → Nat} {cI cX : ClassId} {r : Int32} {σ' : xSt} (X : xX p s m args c cX9_sumOf 4 RX9 D (tyM cI cX) A (wM ad cI cX)) (hr : meth.sig.returnType = (some .int)) (hl : meth.locks = false) (F : Nat) (t0 : Int32) (σ : xSt) (h : mX9_sumOf_L57 F t0 σ = some (r, σ')) : xG p l e ({ frames := 6, cells := 0, slots := 0, locals := 138 }) s m args below meth c (MQ below (xQi D A (wM ad cI cX) r σ') args s 0 0 A) 4 D A (wM ad cI cX) σ 57 [] [.int t0] := by
  unfold mX9_sumOf_L57 at h
  exact x_iret (pc := 57) X hr hl h dX9_sumOf_57
set_option maxRecDepth 100000 in
set_option maxHeartbeats 4000000 in
theorem wX9_sumOf_L33 {p : Program} {l : Launch} {e : Env} {s : State} {m : MethodId} {args : Array Value} {below : List Frame} {meth : Method} {c : Code} {D : va_G} {A : Nat → Prop} {ad : Nat → Nat} {cI cX : ClassId} {r : Int32} {σ' : xSt} (X : xX p s m args c cX9_sumOf 4 RX9 D (tyM cI cX) A (wM ad cI cX)) (hr : meth.sig.returnType = (some .int)) (hl : meth.locks = false) (F : Nat) (v1 : Int32) (v2 : Int32) (σ : xSt) (h : mX9_sumOf_L33 F v1 v2 σ = some (r, σ')) : xG p l e ({ frames := 6, cells := 0, slots := 0, locals := 138 }) s m args below meth c (MQ below (xQi D A (wM ad cI cX) r σ') args s 0 0 A) 4 D A (wM ad cI cX) σ 33 [(0, .ref (ad 0)), (1, .int v1), (2, .int v2)] [] := by
  unfold mX9_sumOf_L33 at h
  refine x_iload_n (pc := 33) X dX9_sumOf_33 rfl 1 rfl ?_
  refine x_if_ne (pc := 34) X 44 dX9_sumOf_34 (by decide) (fun hc => ?_) (fun hc => ?_)
  · have h := xif hc h
    refine x_iload_n (pc := 44) X dX9_sumOf_44 rfl 1 rfl ?_
    refine x_iconst (pc := 45) (v := 1) X dX9_sumOf_45 (by decide) ?_
    refine x_icmp_ne (pc := 46) X 56 dX9_sumOf_46 (by decide) (fun hc => ?_) (fun hc => ?_)
    · have h := xif hc h
      refine x_iload_n (pc := 56) X dX9_sumOf_56 rfl 2 rfl ?_
      refine x_sub [] rfl ?_
      exact wX9_sumOf_L57 X hr hl F _ _ h
    · have h := xit hc h
      refine x_aload_n (pc := 49) X dX9_sumOf_49 rfl 0 rfl ?_
      refine gX9_113 (pc := 50) X dX9_sumOf_50 ?_
      refine x_goto (pc := 53) X 57 dX9_sumOf_53 (by decide) ?_
      refine x_sub [] rfl ?_
      exact wX9_sumOf_L57 X hr hl F _ _ h
  · have h := xit hc h
    refine x_aload_n (pc := 37) X dX9_sumOf_37 rfl 0 rfl ?_
    refine gX9_109 (pc := 38) X dX9_sumOf_38 ?_
    refine x_goto (pc := 41) X 57 dX9_sumOf_41 (by decide) ?_
    refine x_sub [] rfl ?_
    exact wX9_sumOf_L57 X hr hl F _ _ h
set_option maxRecDepth 100000 in
set_option maxHeartbeats 4000000 in
theorem wX9_sumOf_S10 {p : Program} {l : Launch} {e : Env} {s : State} {m : MethodId} {args : Array Value} {below : List Frame} {meth : Method} {c : Code} {D : va_G} {A : Nat → Prop} {ad : Nat → Nat} {cI cX : ClassId} {r : Int32} {σ' : xSt} {c10 : Int32 → Int32 → Int32 → xSt → Option (Int32 × xSt)} (X : xX p s m args c cX9_sumOf 4 RX9 D (tyM cI cX) A (wM ad cI cX)) (hr : meth.sig.returnType = (some .int)) (hl : meth.locks = false) (F : Nat) (hc10 : ∀ (v1 : Int32) (v2 : Int32) (v3 : Int32) (σ : xSt), c10 v1 v2 v3 σ = some (r, σ') → xG p l e ({ frames := 6, cells := 0, slots := 0, locals := 138 }) s m args below meth c (MQ below (xQi D A (wM ad cI cX) r σ') args s 0 0 A) 4 D A (wM ad cI cX) σ 10 [(0, .ref (ad 0)), (1, .int v1), (2, .int v2), (3, .int v3)] []) (v1 : Int32) (v2 : Int32) (v3 : Int32) (σ : xSt) (h : mX9_sumOf_S10 F c10 v1 v2 v3 σ = some (r, σ')) : xG p l e ({ frames := 6, cells := 0, slots := 0, locals := 138 }) s m args below meth c (MQ below (xQi D A (wM ad cI cX) r σ') args s 0 0 A) 4 D A (wM ad cI cX) σ 10 [(0, .ref (ad 0)), (1, .int v1), (2, .int v2), (3, .int v3)] [] := by
  unfold mX9_sumOf_S10 at h
  refine x_iload_n (pc := 10) X dX9_sumOf_10 rfl 3 rfl ?_
  refine x_aload_n (pc := 11) X dX9_sumOf_11 rfl 0 rfl ?_
  refine gX9_109 (pc := 12) X dX9_sumOf_12 ?_
  refine x_icmp_ge (pc := 15) X 33 dX9_sumOf_15 (by decide) (fun hc => ?_) (fun hc => ?_)
  · have h := xit hc h
    refine x_sub [0, 1, 2] rfl ?_
    exact wX9_sumOf_L33 X hr hl F _ _ _ h
  · have h := xif hc h
    refine x_iload_n (pc := 18) X dX9_sumOf_18 rfl 2 rfl ?_
    refine x_aload_n (pc := 19) X dX9_sumOf_19 rfl 0 rfl ?_
    refine gX9_49 (pc := 20) X dX9_sumOf_20 ?_
    refine x_iload_n (pc := 23) X dX9_sumOf_23 rfl 3 rfl ?_
    obtain ⟨hb24, h⟩ := xck_some h
    refine x_iald (pc := 24) X 14 0 (qaX9_many) rfl hb24 dX9_sumOf_24 ?_
    refine x_iadd (pc := 25) X dX9_sumOf_25 ?_
    refine x_istore_n (pc := 26) (lv' := [(2, .int (v2 + (xA σ 17 (Int32.toNatClampNeg v3)))), (0, .ref (ad 0)), (1, .int v1), (3, .int v3)]) X dX9_sumOf_26 rfl (by decide) rfl ?_
    refine x_iinc (pc := 27) (v := (v3 + 1)) (lv' := [(3, .int (v3 + 1)), (2, .int (v2 + (xA σ 17 (Int32.toNatClampNeg v3)))), (0, .ref (ad 0)), (1, .int v1)]) X dX9_sumOf_27 3 rfl rfl (by decide) rfl ?_
    refine x_goto (pc := 30) X 10 dX9_sumOf_30 (by decide) ?_
    refine x_sub [2, 3, 1, 0] rfl ?_
    exact hc10 _ _ _ _ h
theorem wX9_sumOf_L10 {p : Program} {l : Launch} {e : Env} {s : State} {m : MethodId} {args : Array Value} {below : List Frame} {meth : Method} {c : Code} {D : va_G} {A : Nat → Prop} {ad : Nat → Nat} {cI cX : ClassId} {r : Int32} {σ' : xSt} (X : xX p s m args c cX9_sumOf 4 RX9 D (tyM cI cX) A (wM ad cI cX)) (hr : meth.sig.returnType = (some .int)) (hl : meth.locks = false) (F : Nat) : ∀ (n : Nat) (v1 : Int32) (v2 : Int32) (v3 : Int32) (σ : xSt), mX9_sumOf_L10 F n v1 v2 v3 σ = some (r, σ') → xG p l e ({ frames := 6, cells := 0, slots := 0, locals := 138 }) s m args below meth c (MQ below (xQi D A (wM ad cI cX) r σ') args s 0 0 A) 4 D A (wM ad cI cX) σ 10 [(0, .ref (ad 0)), (1, .int v1), (2, .int v2), (3, .int v3)] [] := by
  intro n
  induction n with
  | zero => intro v1 v2 v3 σ h; cases h
  | succ n ih => intro v1 v2 v3 σ h; exact wX9_sumOf_S10 X hr hl F ih v1 v2 v3 σ h
set_option maxRecDepth 100000 in
set_option maxHeartbeats 4000000 in
theorem kX9_sumOf (l : Launch) {D : va_G} {A : Nat → Prop} {ad : Nat → Nat} {cI cX : ClassId} (hD : ∀ σ, va_D A ((wM ad cI cX) σ)) (F : Nat) (v1 : Int32) (σ : xSt) (r : Int32) (σ' : xSt) (h : mX9_sumOf F v1 σ = some (r, σ')) : xM l yX9_sumOf cX9_sumOf 4 (some .int) ({ frames := 6, cells := 0, slots := 0, locals := 138 }) D (tyM cI cX) A (wM ad cI cX) [.ref (ad 0), .int v1] σ (xQi D A (wM ad cI cX) r σ') := by
  refine xM_of (lv := [(0, .ref (ad 0)), (1, .int v1)]) [.ref (ad 0), .int v1] (by decide) hD rfl (Nat.le_of_ble_eq_true rfl) ?_
  intro p e s m args below meth c X hr hl
  unfold mX9_sumOf at h
  refine x_aload_n (pc := 0) X dX9_sumOf_0 rfl 0 rfl ?_
  refine x_bipush (pc := 1) (v := 23) X dX9_sumOf_1 (by decide) ?_
  obtain ⟨σ3, hq3, h⟩ := xb1_some h
  refine x_callvV (pc := 3) (As := [.int 23]) (rest := []) X (kX9_runsTold l X.2.2.2.2.2.2.2 F _ _ _ hq3) kvX9_218 rfl (qX9) ⟨rfl, rfl, Nat.le_of_ble_eq_true rfl, Nat.le_of_ble_eq_true rfl⟩ rfl rfl (Nat.le_of_ble_eq_true rfl) dX9_sumOf_3 ?_
  refine x_iconst (pc := 6) (v := 0) X dX9_sumOf_6 (by decide) ?_
  refine x_istore_n (pc := 7) (lv' := [(2, .int 0), (0, .ref (ad 0)), (1, .int v1)]) X dX9_sumOf_7 rfl (by decide) rfl ?_
  refine x_iconst (pc := 8) (v := 0) X dX9_sumOf_8 (by decide) ?_
  refine x_istore_n (pc := 9) (lv' := [(3, .int 0), (2, .int 0), (0, .ref (ad 0)), (1, .int v1)]) X dX9_sumOf_9 rfl (by decide) rfl ?_
  refine x_sub [2, 3, 1, 0] rfl ?_
  exact wX9_sumOf_L10 X hr hl F F _ _ _ _ h
set_option maxRecDepth 100000 in
set_option maxHeartbeats 4000000 in
theorem wX9_count_L58 {p : Program} {l : Launch} {e : Env} {s : State} {m : MethodId} {args : Array Value} {below : List Frame} {meth : Method} {c : Code} {D : va_G} {A : Nat → Prop} {ad : Nat → Nat} {cI cX : ClassId} {r : Int32} {σ' : xSt} (X : xX p s m args c cX9_count 2 RX9 D (tyM cI cX) A (wM ad cI cX)) (hr : meth.sig.returnType = (some .int)) (hl : meth.locks = false) (F : Nat) (v1 : Int32) (σ : xSt) (h : mX9_count_L58 F v1 σ = some (r, σ')) : xG p l e ({ frames := 7, cells := 0, slots := 0, locals := 161 }) s m args below meth c (MQ below (xQi D A (wM ad cI cX) r σ') args s 0 0 A) 2 D A (wM ad cI cX) σ 58 [(0, .ref (ad 0)), (1, .int v1)] [] := by
  unfold mX9_count_L58 at h
  refine x_aload_n (pc := 58) X dX9_count_58 rfl 0 rfl ?_
  refine gX9_7 (pc := 59) X dX9_count_59 ?_
  refine x_iload_n (pc := 62) X dX9_count_62 rfl 1 rfl ?_
  refine x_iconst (pc := 63) (v := 2) X dX9_count_63 (by decide) ?_
  refine x_isub (pc := 64) X dX9_count_64 ?_
  obtain ⟨hb65, h⟩ := xck_some h
  refine x_iald (pc := 65) X 1 0 (qaX9_typed) rfl hb65 dX9_count_65 ?_
  exact x_iret (pc := 66) X hr hl h dX9_count_66
set_option maxRecDepth 100000 in
set_option maxHeartbeats 4000000 in
theorem wX9_count_L52 {p : Program} {l : Launch} {e : Env} {s : State} {m : MethodId} {args : Array Value} {below : List Frame} {meth : Method} {c : Code} {D : va_G} {A : Nat → Prop} {ad : Nat → Nat} {cI cX : ClassId} {r : Int32} {σ' : xSt} (X : xX p s m args c cX9_count 2 RX9 D (tyM cI cX) A (wM ad cI cX)) (hr : meth.sig.returnType = (some .int)) (hl : meth.locks = false) (F : Nat) (v1 : Int32) (σ : xSt) (h : mX9_count_L52 F v1 σ = some (r, σ')) : xG p l e ({ frames := 7, cells := 0, slots := 0, locals := 161 }) s m args below meth c (MQ below (xQi D A (wM ad cI cX) r σ') args s 0 0 A) 2 D A (wM ad cI cX) σ 52 [(0, .ref (ad 0)), (1, .int v1)] [] := by
  unfold mX9_count_L52 at h
  refine x_aload_n (pc := 52) X dX9_count_52 rfl 0 rfl ?_
  refine x_iload_n (pc := 53) X dX9_count_53 rfl 1 rfl ?_
  obtain ⟨r54, σ54, hq54, h⟩ := xb2_some h
  refine x_calliV (pc := 54) (As := [.int v1]) (rest := []) X (kX9_sumOf l X.2.2.2.2.2.2.2 F _ _ _ _ hq54) kvX9_333 rfl (qX9) ⟨rfl, rfl, Nat.le_of_ble_eq_true rfl, Nat.le_of_ble_eq_true rfl⟩ rfl rfl (Nat.le_of_ble_eq_true rfl) dX9_count_54 ?_
  exact x_iret (pc := 57) X hr hl h dX9_count_57
set_option maxRecDepth 100000 in
set_option maxHeartbeats 4000000 in
theorem kX9_count (l : Launch) {D : va_G} {A : Nat → Prop} {ad : Nat → Nat} {cI cX : ClassId} (hD : ∀ σ, va_D A ((wM ad cI cX) σ)) (F : Nat) (v1 : Int32) (σ : xSt) (r : Int32) (σ' : xSt) (h : mX9_count F v1 σ = some (r, σ')) : xM l yX9_count cX9_count 2 (some .int) ({ frames := 7, cells := 0, slots := 0, locals := 161 }) D (tyM cI cX) A (wM ad cI cX) [.ref (ad 0), .int v1] σ (xQi D A (wM ad cI cX) r σ') := by
  refine xM_of (lv := [(0, .ref (ad 0)), (1, .int v1)]) [.ref (ad 0), .int v1] (by decide) hD rfl (Nat.le_of_ble_eq_true rfl) ?_
  intro p e s m args below meth c X hr hl
  unfold mX9_count at h
  refine x_iload_n (pc := 0) X dX9_count_0 rfl 1 rfl ?_
  rcases Decidable.em (v1 = 0) with hs0 | hs0
  · have h := xit hs0 h
    refine x_tableIn (pc := 1) X 52 dX9_count_1 (by rw [hs0]; decide) (by rw [hs0]; decide) (by rw [hs0]; rfl) (by decide) ?_
    refine x_sub [0, 1] rfl ?_
    exact wX9_count_L52 X hr hl F _ _ h
  · have h := xif hs0 h
    rcases Decidable.em (v1 = 1) with hs1 | hs1
    · have h := xit hs1 h
      refine x_tableIn (pc := 1) X 52 dX9_count_1 (by rw [hs1]; decide) (by rw [hs1]; decide) (by rw [hs1]; rfl) (by decide) ?_
      refine x_sub [0, 1] rfl ?_
      exact wX9_count_L52 X hr hl F _ _ h
    · have h := xif hs1 h
      rcases Decidable.em (v1 = 2) with hs2 | hs2
      · have h := xit hs2 h
        refine x_tableIn (pc := 1) X 58 dX9_count_1 (by rw [hs2]; decide) (by rw [hs2]; decide) (by rw [hs2]; rfl) (by decide) ?_
        refine x_sub [0, 1] rfl ?_
        exact wX9_count_L58 X hr hl F _ _ h
      · have h := xif hs2 h
        rcases Decidable.em (v1 = 3) with hs3 | hs3
        · have h := xit hs3 h
          refine x_tableIn (pc := 1) X 58 dX9_count_1 (by rw [hs3]; decide) (by rw [hs3]; decide) (by rw [hs3]; rfl) (by decide) ?_
          refine x_sub [0, 1] rfl ?_
          exact wX9_count_L58 X hr hl F _ _ h
        · have h := xif hs3 h
          rcases Decidable.em (v1 = 4) with hs4 | hs4
          · have h := xit hs4 h
            refine x_tableIn (pc := 1) X 67 dX9_count_1 (by rw [hs4]; decide) (by rw [hs4]; decide) (by rw [hs4]; rfl) (by decide) ?_
            refine x_aload_n (pc := 67) X dX9_count_67 rfl 0 rfl ?_
            refine gX9_151 (pc := 68) X dX9_count_68 ?_
            exact x_iret (pc := 71) X hr hl h dX9_count_71
          · have h := xif hs4 h
            rcases Decidable.em (v1 = 5) with hs5 | hs5
            · have h := xit hs5 h
              refine x_tableIn (pc := 1) X 72 dX9_count_1 (by rw [hs5]; decide) (by rw [hs5]; decide) (by rw [hs5]; rfl) (by decide) ?_
              refine x_aload_n (pc := 72) X dX9_count_72 rfl 0 rfl ?_
              refine gX9_158 (pc := 73) X dX9_count_73 ?_
              exact x_iret (pc := 76) X hr hl h dX9_count_76
            · have h := xif hs5 h
              rcases Decidable.em (v1 = 6) with hs6 | hs6
              · have h := xit hs6 h
                refine x_tableIn (pc := 1) X 77 dX9_count_1 (by rw [hs6]; decide) (by rw [hs6]; decide) (by rw [hs6]; rfl) (by decide) ?_
                refine x_aload_n (pc := 77) X dX9_count_77 rfl 0 rfl ?_
                refine gX9_282 (pc := 78) X dX9_count_78 ?_
                exact x_iret (pc := 81) X hr hl h dX9_count_81
              · have h := xif hs6 h
                rcases Decidable.em (v1 = 7) with hs7 | hs7
                · have h := xit hs7 h
                  refine x_tableIn (pc := 1) X 52 dX9_count_1 (by rw [hs7]; decide) (by rw [hs7]; decide) (by rw [hs7]; rfl) (by decide) ?_
                  refine x_sub [0, 1] rfl ?_
                  exact wX9_count_L52 X hr hl F _ _ h
                · have h := xif hs7 h
                  rcases Decidable.em (v1 = 8) with hs8 | hs8
                  · have h := xit hs8 h
                    refine x_tableIn (pc := 1) X 82 dX9_count_1 (by rw [hs8]; decide) (by rw [hs8]; decide) (by rw [hs8]; rfl) (by decide) ?_
                    refine x_aload_n (pc := 82) X dX9_count_82 rfl 0 rfl ?_
                    refine gX9_322 (pc := 83) X dX9_count_83 ?_
                    exact x_iret (pc := 86) X hr hl h dX9_count_86
                  · have h := xif hs8 h
                    refine x_tableOut (pc := 1) X 87 dX9_count_1 (xsw9 hs0 hs1 hs2 hs3 hs4 hs5 hs6 hs7 hs8) (by decide) ?_
                    refine x_bipush (pc := 87) (v := (-2)) X dX9_count_87 (by decide) ?_
                    exact x_iret (pc := 89) X hr hl h dX9_count_89
set_option maxRecDepth 100000 in
set_option maxHeartbeats 4000000 in
theorem wX9_thingDigest_L35 {p : Program} {l : Launch} {e : Env} {s : State} {m : MethodId} {args : Array Value} {below : List Frame} {meth : Method} {c : Code} {D : va_G} {A : Nat → Prop} {ad : Nat → Nat} {cI cX : ClassId} {r : Int64} {σ' : xSt} (X : xX p s m args c cX9_thingDigest 7 RX9 D (tyM cI cX) A (wM ad cI cX)) (hr : meth.sig.returnType = (some .long)) (hl : meth.locks = false) (F : Nat) (v3 : Int32) (v4 : Int64) (σ : xSt) (h : mX9_thingDigest_L35 F v3 v4 σ = some (r, σ')) : xG p l e ({ frames := 7, cells := 0, slots := 0, locals := 174 }) s m args below meth c (MQ below (xQl D A (wM ad cI cX) r σ') args s 0 0 A) 7 D A (wM ad cI cX) σ 35 [(0, .ref (ad 0)), (3, .int v3), (4, .long v4)] [] := by
  unfold mX9_thingDigest_L35 at h
  refine x_ldc2 (pc := 35) X kcX9_336 dX9_thingDigest_35 ?_
  refine x_lload (pc := 38) X dX9_thingDigest_38 2 rfl ?_
  refine x_lmul (pc := 40) X dX9_thingDigest_40 ?_
  refine x_aload_n (pc := 41) X dX9_thingDigest_41 rfl 0 rfl ?_
  refine x_bipush (pc := 42) (v := 9) X dX9_thingDigest_42 (by decide) ?_
  refine x_iload_n (pc := 44) X dX9_thingDigest_44 rfl 1 rfl ?_
  refine x_iconst (pc := 45) (v := (-1)) X dX9_thingDigest_45 (by decide) ?_
  obtain ⟨r46, σ46, hq46, h⟩ := xb2_some h
  refine x_calliV (pc := 46) (As := [.int 9, .int v3, .int (-1)]) (rest := [.long (31 * v4)]) X (kX9_layersOf l X.2.2.2.2.2.2.2 F _ _ _ _ _ _ hq46) kvX9_221 rfl (qX9) ⟨rfl, rfl, Nat.le_of_ble_eq_true rfl, Nat.le_of_ble_eq_true rfl⟩ rfl rfl (Nat.le_of_ble_eq_true rfl) dX9_thingDigest_46 ?_
  refine x_i2l (pc := 49) X dX9_thingDigest_49 ?_
  refine x_ladd (pc := 50) X dX9_thingDigest_50 ?_
  refine x_lstore (pc := 51) (lv' := [(4, .long ((31 * v4) + (Int32.toInt64 r46))), (0, .ref (ad 0)), (3, .int v3)]) X dX9_thingDigest_51 (by decide) rfl ?_
  refine x_ldc2 (pc := 53) X kcX9_336 dX9_thingDigest_53 ?_
  refine x_lload (pc := 56) X dX9_thingDigest_56 0 rfl ?_
  refine x_lmul (pc := 58) X dX9_thingDigest_58 ?_
  refine x_aload_n (pc := 59) X dX9_thingDigest_59 rfl 1 rfl ?_
  refine x_bipush (pc := 60) (v := 9) X dX9_thingDigest_60 (by decide) ?_
  refine x_iload_n (pc := 62) X dX9_thingDigest_62 rfl 2 rfl ?_
  refine x_iconst (pc := 63) (v := 0) X dX9_thingDigest_63 (by decide) ?_
  obtain ⟨r64, σ64, hq64, h⟩ := xb2_some h
  refine x_calliV (pc := 64) (As := [.int 9, .int v3, .int 0]) (rest := [.long (31 * ((31 * v4) + (Int32.toInt64 r46)))]) X (kX9_layersOf l X.2.2.2.2.2.2.2 F _ _ _ _ _ _ hq64) kvX9_221 rfl (qX9) ⟨rfl, rfl, Nat.le_of_ble_eq_true rfl, Nat.le_of_ble_eq_true rfl⟩ rfl rfl (Nat.le_of_ble_eq_true rfl) dX9_thingDigest_64 ?_
  refine x_i2l (pc := 67) X dX9_thingDigest_67 ?_
  refine x_ladd (pc := 68) X dX9_thingDigest_68 ?_
  refine x_lstore (pc := 69) (lv' := [(4, .long ((31 * ((31 * v4) + (Int32.toInt64 r46))) + (Int32.toInt64 r64))), (0, .ref (ad 0)), (3, .int v3)]) X dX9_thingDigest_69 (by decide) rfl ?_
  refine x_ldc2 (pc := 71) X kcX9_336 dX9_thingDigest_71 ?_
  refine x_lload (pc := 74) X dX9_thingDigest_74 0 rfl ?_
  refine x_lmul (pc := 76) X dX9_thingDigest_76 ?_
  refine x_aload_n (pc := 77) X dX9_thingDigest_77 rfl 1 rfl ?_
  refine x_bipush (pc := 78) (v := 9) X dX9_thingDigest_78 (by decide) ?_
  refine x_iload_n (pc := 80) X dX9_thingDigest_80 rfl 2 rfl ?_
  refine x_iconst (pc := 81) (v := 0) X dX9_thingDigest_81 (by decide) ?_
  obtain ⟨r82, σ82, hq82, h⟩ := xb2_some h
  refine x_calliV (pc := 82) (As := [.int 9, .int v3, .int 0]) (rest := [.long (31 * ((31 * ((31 * v4) + (Int32.toInt64 r46))) + (Int32.toInt64 r64)))]) X (kX9_strongOf l X.2.2.2.2.2.2.2 F _ _ _ _ _ _ hq82) kvX9_224 rfl (qX9) ⟨rfl, rfl, Nat.le_of_ble_eq_true rfl, Nat.le_of_ble_eq_true rfl⟩ rfl rfl (Nat.le_of_ble_eq_true rfl) dX9_thingDigest_82 ?_
  refine x_i2l (pc := 85) X dX9_thingDigest_85 ?_
  refine x_ladd (pc := 86) X dX9_thingDigest_86 ?_
  refine x_lstore (pc := 87) (lv' := [(4, .long ((31 * ((31 * ((31 * v4) + (Int32.toInt64 r46))) + (Int32.toInt64 r64))) + (Int32.toInt64 r82))), (0, .ref (ad 0)), (3, .int v3)]) X dX9_thingDigest_87 (by decide) rfl ?_
  refine x_ldc2 (pc := 89) X kcX9_336 dX9_thingDigest_89 ?_
  refine x_lload (pc := 92) X dX9_thingDigest_92 0 rfl ?_
  refine x_lmul (pc := 94) X dX9_thingDigest_94 ?_
  refine x_aload_n (pc := 95) X dX9_thingDigest_95 rfl 1 rfl ?_
  refine x_iload_n (pc := 96) X dX9_thingDigest_96 rfl 2 rfl ?_
  refine x_iconst (pc := 97) (v := 0) X dX9_thingDigest_97 (by decide) ?_
  obtain ⟨r98, σ98, hq98, h⟩ := xb2_some h
  refine x_calliV (pc := 98) (As := [.int v3, .int 0]) (rest := [.long (31 * ((31 * ((31 * ((31 * v4) + (Int32.toInt64 r46))) + (Int32.toInt64 r64))) + (Int32.toInt64 r82)))]) X (kX9_last l X.2.2.2.2.2.2.2 F _ _ _ _ _ hq98) kvX9_341 rfl (qX9) ⟨rfl, rfl, Nat.le_of_ble_eq_true rfl, Nat.le_of_ble_eq_true rfl⟩ rfl rfl (Nat.le_of_ble_eq_true rfl) dX9_thingDigest_98 ?_
  refine x_i2l (pc := 101) X dX9_thingDigest_101 ?_
  refine x_ladd (pc := 102) X dX9_thingDigest_102 ?_
  refine x_lstore (pc := 103) (lv' := [(4, .long ((31 * ((31 * ((31 * ((31 * v4) + (Int32.toInt64 r46))) + (Int32.toInt64 r64))) + (Int32.toInt64 r82))) + (Int32.toInt64 r98))), (0, .ref (ad 0)), (3, .int v3)]) X dX9_thingDigest_103 (by decide) rfl ?_
  refine x_ldc2 (pc := 105) X kcX9_336 dX9_thingDigest_105 ?_
  refine x_lload (pc := 108) X dX9_thingDigest_108 0 rfl ?_
  refine x_lmul (pc := 110) X dX9_thingDigest_110 ?_
  refine x_aload_n (pc := 111) X dX9_thingDigest_111 rfl 1 rfl ?_
  refine x_iconst (pc := 112) (v := 5) X dX9_thingDigest_112 (by decide) ?_
  refine x_iload_n (pc := 113) X dX9_thingDigest_113 rfl 2 rfl ?_
  refine x_iconst (pc := 114) (v := 0) X dX9_thingDigest_114 (by decide) ?_
  refine x_iconst (pc := 115) (v := 4) X dX9_thingDigest_115 (by decide) ?_
  refine x_iconst (pc := 116) (v := 0) X dX9_thingDigest_116 (by decide) ?_
  obtain ⟨r117, σ117, hq117, h⟩ := xb2_some h
  refine x_calllV (pc := 117) (As := [.int 5, .int v3, .int 0, .int 4, .int 0]) (rest := [.long (31 * ((31 * ((31 * ((31 * ((31 * v4) + (Int32.toInt64 r46))) + (Int32.toInt64 r64))) + (Int32.toInt64 r82))) + (Int32.toInt64 r98)))]) X (kX9_draughts l X.2.2.2.2.2.2.2 F _ _ _ _ _ _ _ _ hq117) kvX9_344 rfl (qX9) ⟨rfl, rfl, Nat.le_of_ble_eq_true rfl, Nat.le_of_ble_eq_true rfl⟩ rfl rfl (Nat.le_of_ble_eq_true rfl) dX9_thingDigest_117 ?_
  refine x_ladd (pc := 120) X dX9_thingDigest_120 ?_
  refine x_lstore (pc := 121) (lv' := [(4, .long ((31 * ((31 * ((31 * ((31 * ((31 * v4) + (Int32.toInt64 r46))) + (Int32.toInt64 r64))) + (Int32.toInt64 r82))) + (Int32.toInt64 r98))) + r117)), (0, .ref (ad 0)), (3, .int v3)]) X dX9_thingDigest_121 (by decide) rfl ?_
  refine x_ldc2 (pc := 123) X kcX9_336 dX9_thingDigest_123 ?_
  refine x_lload (pc := 126) X dX9_thingDigest_126 0 rfl ?_
  refine x_lmul (pc := 128) X dX9_thingDigest_128 ?_
  refine x_aload_n (pc := 129) X dX9_thingDigest_129 rfl 1 rfl ?_
  refine x_iconst (pc := 130) (v := 5) X dX9_thingDigest_130 (by decide) ?_
  refine x_iload_n (pc := 131) X dX9_thingDigest_131 rfl 2 rfl ?_
  refine x_iconst (pc := 132) (v := 0) X dX9_thingDigest_132 (by decide) ?_
  refine x_iconst (pc := 133) (v := 4) X dX9_thingDigest_133 (by decide) ?_
  refine x_iconst (pc := 134) (v := 1) X dX9_thingDigest_134 (by decide) ?_
  obtain ⟨r135, σ135, hq135, h⟩ := xb2_some h
  refine x_calllV (pc := 135) (As := [.int 5, .int v3, .int 0, .int 4, .int 1]) (rest := [.long (31 * ((31 * ((31 * ((31 * ((31 * ((31 * v4) + (Int32.toInt64 r46))) + (Int32.toInt64 r64))) + (Int32.toInt64 r82))) + (Int32.toInt64 r98))) + r117))]) X (kX9_draughts l X.2.2.2.2.2.2.2 F _ _ _ _ _ _ _ _ hq135) kvX9_344 rfl (qX9) ⟨rfl, rfl, Nat.le_of_ble_eq_true rfl, Nat.le_of_ble_eq_true rfl⟩ rfl rfl (Nat.le_of_ble_eq_true rfl) dX9_thingDigest_135 ?_
  refine x_ladd (pc := 138) X dX9_thingDigest_138 ?_
  refine x_lstore (pc := 139) (lv' := [(4, .long ((31 * ((31 * ((31 * ((31 * ((31 * ((31 * v4) + (Int32.toInt64 r46))) + (Int32.toInt64 r64))) + (Int32.toInt64 r82))) + (Int32.toInt64 r98))) + r117)) + r135)), (0, .ref (ad 0)), (3, .int v3)]) X dX9_thingDigest_139 (by decide) rfl ?_
  refine x_ldc2 (pc := 141) X kcX9_336 dX9_thingDigest_141 ?_
  refine x_lload (pc := 144) X dX9_thingDigest_144 0 rfl ?_
  refine x_lmul (pc := 146) X dX9_thingDigest_146 ?_
  refine x_aload_n (pc := 147) X dX9_thingDigest_147 rfl 1 rfl ?_
  refine x_bipush (pc := 148) (v := 21) X dX9_thingDigest_148 (by decide) ?_
  refine x_iload_n (pc := 150) X dX9_thingDigest_150 rfl 2 rfl ?_
  refine x_iconst (pc := 151) (v := 1) X dX9_thingDigest_151 (by decide) ?_
  refine x_iconst (pc := 152) (v := 0) X dX9_thingDigest_152 (by decide) ?_
  obtain ⟨r153, σ153, hq153, h⟩ := xb2_some h
  refine x_calllV (pc := 153) (As := [.int 21, .int v3, .int 1, .int 0]) (rest := [.long (31 * ((31 * ((31 * ((31 * ((31 * ((31 * ((31 * v4) + (Int32.toInt64 r46))) + (Int32.toInt64 r64))) + (Int32.toInt64 r82))) + (Int32.toInt64 r98))) + r117)) + r135))]) X (kX9_found l X.2.2.2.2.2.2.2 F _ _ _ _ _ _ _ hq153) kvX9_347 rfl (qX9) ⟨rfl, rfl, Nat.le_of_ble_eq_true rfl, Nat.le_of_ble_eq_true rfl⟩ rfl rfl (Nat.le_of_ble_eq_true rfl) dX9_thingDigest_153 ?_
  refine x_ladd (pc := 156) X dX9_thingDigest_156 ?_
  refine x_lstore (pc := 157) (lv' := [(4, .long ((31 * ((31 * ((31 * ((31 * ((31 * ((31 * ((31 * v4) + (Int32.toInt64 r46))) + (Int32.toInt64 r64))) + (Int32.toInt64 r82))) + (Int32.toInt64 r98))) + r117)) + r135)) + r153)), (0, .ref (ad 0)), (3, .int v3)]) X dX9_thingDigest_157 (by decide) rfl ?_
  refine x_ldc2 (pc := 159) X kcX9_336 dX9_thingDigest_159 ?_
  refine x_lload (pc := 162) X dX9_thingDigest_162 0 rfl ?_
  refine x_lmul (pc := 164) X dX9_thingDigest_164 ?_
  refine x_aload_n (pc := 165) X dX9_thingDigest_165 rfl 1 rfl ?_
  refine x_bipush (pc := 166) (v := 21) X dX9_thingDigest_166 (by decide) ?_
  refine x_iload_n (pc := 168) X dX9_thingDigest_168 rfl 2 rfl ?_
  refine x_iconst (pc := 169) (v := 1) X dX9_thingDigest_169 (by decide) ?_
  refine x_iconst (pc := 170) (v := 1) X dX9_thingDigest_170 (by decide) ?_
  obtain ⟨r171, σ171, hq171, h⟩ := xb2_some h
  refine x_calllV (pc := 171) (As := [.int 21, .int v3, .int 1, .int 1]) (rest := [.long (31 * ((31 * ((31 * ((31 * ((31 * ((31 * ((31 * ((31 * v4) + (Int32.toInt64 r46))) + (Int32.toInt64 r64))) + (Int32.toInt64 r82))) + (Int32.toInt64 r98))) + r117)) + r135)) + r153))]) X (kX9_found l X.2.2.2.2.2.2.2 F _ _ _ _ _ _ _ hq171) kvX9_347 rfl (qX9) ⟨rfl, rfl, Nat.le_of_ble_eq_true rfl, Nat.le_of_ble_eq_true rfl⟩ rfl rfl (Nat.le_of_ble_eq_true rfl) dX9_thingDigest_171 ?_
  refine x_ladd (pc := 174) X dX9_thingDigest_174 ?_
  refine x_lstore (pc := 175) (lv' := [(4, .long ((31 * ((31 * ((31 * ((31 * ((31 * ((31 * ((31 * ((31 * v4) + (Int32.toInt64 r46))) + (Int32.toInt64 r64))) + (Int32.toInt64 r82))) + (Int32.toInt64 r98))) + r117)) + r135)) + r153)) + r171)), (0, .ref (ad 0)), (3, .int v3)]) X dX9_thingDigest_175 (by decide) rfl ?_
  refine x_ldc2 (pc := 177) X kcX9_336 dX9_thingDigest_177 ?_
  refine x_lload (pc := 180) X dX9_thingDigest_180 0 rfl ?_
  refine x_lmul (pc := 182) X dX9_thingDigest_182 ?_
  refine x_aload_n (pc := 183) X dX9_thingDigest_183 rfl 1 rfl ?_
  refine x_bipush (pc := 184) (v := 7) X dX9_thingDigest_184 (by decide) ?_
  refine x_bipush (pc := 186) (v := 12) X dX9_thingDigest_186 (by decide) ?_
  refine x_iload_n (pc := 188) X dX9_thingDigest_188 rfl 2 rfl ?_
  obtain ⟨r189, σ189, hq189, h⟩ := xb2_some h
  refine x_calliV (pc := 189) (As := [.int 7, .int 12, .int v3]) (rest := [.long (31 * ((31 * ((31 * ((31 * ((31 * ((31 * ((31 * ((31 * ((31 * v4) + (Int32.toInt64 r46))) + (Int32.toInt64 r64))) + (Int32.toInt64 r82))) + (Int32.toInt64 r98))) + r117)) + r135)) + r153)) + r171))]) X (kX9_dayOf l X.2.2.2.2.2.2.2 F _ _ _ _ _ _ hq189) kvX9_319 rfl (qX9) ⟨rfl, rfl, Nat.le_of_ble_eq_true rfl, Nat.le_of_ble_eq_true rfl⟩ rfl rfl (Nat.le_of_ble_eq_true rfl) dX9_thingDigest_189 ?_
  refine x_i2l (pc := 192) X dX9_thingDigest_192 ?_
  refine x_ladd (pc := 193) X dX9_thingDigest_193 ?_
  exact x_lret (pc := 194) X hr hl h dX9_thingDigest_194
set_option maxRecDepth 100000 in
set_option maxHeartbeats 4000000 in
theorem wX9_thingDigest_S6 {p : Program} {l : Launch} {e : Env} {s : State} {m : MethodId} {args : Array Value} {below : List Frame} {meth : Method} {c : Code} {D : va_G} {A : Nat → Prop} {ad : Nat → Nat} {cI cX : ClassId} {r : Int64} {σ' : xSt} {c6 : Int32 → Int64 → Int32 → xSt → Option (Int64 × xSt)} (X : xX p s m args c cX9_thingDigest 7 RX9 D (tyM cI cX) A (wM ad cI cX)) (hr : meth.sig.returnType = (some .long)) (hl : meth.locks = false) (F : Nat) (hc6 : ∀ (v3 : Int32) (v4 : Int64) (v6 : Int32) (σ : xSt), c6 v3 v4 v6 σ = some (r, σ') → xG p l e ({ frames := 7, cells := 0, slots := 0, locals := 174 }) s m args below meth c (MQ below (xQl D A (wM ad cI cX) r σ') args s 0 0 A) 7 D A (wM ad cI cX) σ 6 [(0, .ref (ad 0)), (3, .int v3), (4, .long v4), (6, .int v6)] []) (v3 : Int32) (v4 : Int64) (v6 : Int32) (σ : xSt) (h : mX9_thingDigest_S6 F c6 v3 v4 v6 σ = some (r, σ')) : xG p l e ({ frames := 7, cells := 0, slots := 0, locals := 174 }) s m args below meth c (MQ below (xQl D A (wM ad cI cX) r σ') args s 0 0 A) 7 D A (wM ad cI cX) σ 6 [(0, .ref (ad 0)), (3, .int v3), (4, .long v4), (6, .int v6)] [] := by
  unfold mX9_thingDigest_S6 at h
  refine x_iload (pc := 6) X dX9_thingDigest_6 3 rfl ?_
  refine x_iconst (pc := 8) (v := 3) X dX9_thingDigest_8 (by decide) ?_
  refine x_icmp_ge (pc := 9) X 35 dX9_thingDigest_9 (by decide) (fun hc => ?_) (fun hc => ?_)
  · have h := xit hc h
    refine x_sub [0, 1, 2] rfl ?_
    exact wX9_thingDigest_L35 X hr hl F _ _ _ h
  · have h := xif hc h
    refine x_ldc2 (pc := 12) X kcX9_336 dX9_thingDigest_12 ?_
    refine x_lload (pc := 15) X dX9_thingDigest_15 2 rfl ?_
    refine x_lmul (pc := 17) X dX9_thingDigest_17 ?_
    refine x_aload_n (pc := 18) X dX9_thingDigest_18 rfl 0 rfl ?_
    refine x_iload_n (pc := 19) X dX9_thingDigest_19 rfl 1 rfl ?_
    refine x_iload (pc := 20) X dX9_thingDigest_20 3 rfl ?_
    obtain ⟨r22, σ22, hq22, h⟩ := xb2_some h
    refine x_calliV (pc := 22) (As := [.int v3, .int v6]) (rest := [.long (31 * v4)]) X (kX9_thing l X.2.2.2.2.2.2.2 F _ _ _ _ _ hq22) kvX9_338 rfl (qX9) ⟨rfl, rfl, Nat.le_of_ble_eq_true rfl, Nat.le_of_ble_eq_true rfl⟩ rfl rfl (Nat.le_of_ble_eq_true rfl) dX9_thingDigest_22 ?_
    refine x_i2l (pc := 25) X dX9_thingDigest_25 ?_
    refine x_ladd (pc := 26) X dX9_thingDigest_26 ?_
    refine x_lstore (pc := 27) (lv' := [(4, .long ((31 * v4) + (Int32.toInt64 r22))), (0, .ref (ad 0)), (3, .int v3), (6, .int v6)]) X dX9_thingDigest_27 (by decide) rfl ?_
    refine x_iinc (pc := 29) (v := (v6 + 1)) (lv' := [(6, .int (v6 + 1)), (4, .long ((31 * v4) + (Int32.toInt64 r22))), (0, .ref (ad 0)), (3, .int v3)]) X dX9_thingDigest_29 3 rfl rfl (by decide) rfl ?_
    refine x_goto (pc := 32) X 6 dX9_thingDigest_32 (by decide) ?_
    refine x_sub [2, 3, 1, 0] rfl ?_
    exact hc6 _ _ _ _ h
theorem wX9_thingDigest_L6 {p : Program} {l : Launch} {e : Env} {s : State} {m : MethodId} {args : Array Value} {below : List Frame} {meth : Method} {c : Code} {D : va_G} {A : Nat → Prop} {ad : Nat → Nat} {cI cX : ClassId} {r : Int64} {σ' : xSt} (X : xX p s m args c cX9_thingDigest 7 RX9 D (tyM cI cX) A (wM ad cI cX)) (hr : meth.sig.returnType = (some .long)) (hl : meth.locks = false) (F : Nat) : ∀ (n : Nat) (v3 : Int32) (v4 : Int64) (v6 : Int32) (σ : xSt), mX9_thingDigest_L6 F n v3 v4 v6 σ = some (r, σ') → xG p l e ({ frames := 7, cells := 0, slots := 0, locals := 174 }) s m args below meth c (MQ below (xQl D A (wM ad cI cX) r σ') args s 0 0 A) 7 D A (wM ad cI cX) σ 6 [(0, .ref (ad 0)), (3, .int v3), (4, .long v4), (6, .int v6)] [] := by
  intro n
  induction n with
  | zero => intro v3 v4 v6 σ h; cases h
  | succ n ih => intro v3 v4 v6 σ h; exact wX9_thingDigest_S6 X hr hl F ih v3 v4 v6 σ h
set_option maxRecDepth 100000 in
set_option maxHeartbeats 4000000 in
theorem kX9_thingDigest (l : Launch) {D : va_G} {A : Nat → Prop} {ad : Nat → Nat} {cI cX : ClassId} (hD : ∀ σ, va_D A ((wM ad cI cX) σ)) (F : Nat) (v1 : Int64) (v3 : Int32) (σ : xSt) (r : Int64) (σ' : xSt) (h : mX9_thingDigest F v1 v3 σ = some (r, σ')) : xM l yX9_thingDigest cX9_thingDigest 7 (some .long) ({ frames := 7, cells := 0, slots := 0, locals := 174 }) D (tyM cI cX) A (wM ad cI cX) [.ref (ad 0), .long v1, .int v3] σ (xQl D A (wM ad cI cX) r σ') := by
  refine xM_of (lv := [(0, .ref (ad 0)), (1, .long v1), (3, .int v3)]) [.ref (ad 0), .long v1, .int v3] (by decide) hD rfl (Nat.le_of_ble_eq_true rfl) ?_
  intro p e s m args below meth c X hr hl
  unfold mX9_thingDigest at h
  refine x_lload_n (pc := 0) X dX9_thingDigest_0 rfl 1 rfl ?_
  refine x_lstore (pc := 1) (lv' := [(4, .long v1), (0, .ref (ad 0)), (1, .long v1), (3, .int v3)]) X dX9_thingDigest_1 (by decide) rfl ?_
  refine x_iconst (pc := 3) (v := 0) X dX9_thingDigest_3 (by decide) ?_
  refine x_istore (pc := 4) (lv' := [(6, .int 0), (4, .long v1), (0, .ref (ad 0)), (1, .long v1), (3, .int v3)]) X dX9_thingDigest_4 (by decide) rfl ?_
  refine x_sub [2, 4, 1, 0] rfl ?_
  exact wX9_thingDigest_L6 X hr hl F F _ _ _ _ h
set_option maxRecDepth 100000 in
set_option maxHeartbeats 4000000 in
theorem kX9_hourDigest (l : Launch) {D : va_G} {A : Nat → Prop} {ad : Nat → Nat} {cI cX : ClassId} (hD : ∀ σ, va_D A ((wM ad cI cX) σ)) (F : Nat) (v1 : Int64) (v3 : Int32) (σ : xSt) (r : Int64) (σ' : xSt) (h : mX9_hourDigest F v1 v3 σ = some (r, σ')) : xM l yX9_hourDigest cX9_hourDigest 6 (some .long) ({ frames := 7, cells := 0, slots := 0, locals := 164 }) D (tyM cI cX) A (wM ad cI cX) [.ref (ad 0), .long v1, .int v3] σ (xQl D A (wM ad cI cX) r σ') := by
  refine xM_of (lv := [(0, .ref (ad 0)), (1, .long v1), (3, .int v3)]) [.ref (ad 0), .long v1, .int v3] (by decide) hD rfl (Nat.le_of_ble_eq_true rfl) ?_
  intro p e s m args below meth c X hr hl
  unfold mX9_hourDigest at h
  refine x_ldc2 (pc := 0) X kcX9_336 dX9_hourDigest_0 ?_
  refine x_lload_n (pc := 3) X dX9_hourDigest_3 rfl 1 rfl ?_
  refine x_lmul (pc := 4) X dX9_hourDigest_4 ?_
  refine x_aload_n (pc := 5) X dX9_hourDigest_5 rfl 0 rfl ?_
  refine x_iload_n (pc := 6) X dX9_hourDigest_6 rfl 2 rfl ?_
  refine x_iconst (pc := 7) (v := (-1)) X dX9_hourDigest_7 (by decide) ?_
  obtain ⟨r8, σ8, hq8, h⟩ := xb2_some h
  refine x_calliV (pc := 8) (As := [.int v3, .int (-1)]) (rest := [.long (31 * v1)]) X (kX9_tellsOf l X.2.2.2.2.2.2.2 F _ _ _ _ _ hq8) kvX9_231 rfl (qX9) ⟨rfl, rfl, Nat.le_of_ble_eq_true rfl, Nat.le_of_ble_eq_true rfl⟩ rfl rfl (Nat.le_of_ble_eq_true rfl) dX9_hourDigest_8 ?_
  refine x_i2l (pc := 11) X dX9_hourDigest_11 ?_
  refine x_ladd (pc := 12) X dX9_hourDigest_12 ?_
  refine x_lstore (pc := 13) (lv' := [(4, .long ((31 * v1) + (Int32.toInt64 r8))), (0, .ref (ad 0)), (1, .long v1), (3, .int v3)]) X dX9_hourDigest_13 (by decide) rfl ?_
  refine x_ldc2 (pc := 15) X kcX9_336 dX9_hourDigest_15 ?_
  refine x_lload (pc := 18) X dX9_hourDigest_18 0 rfl ?_
  refine x_lmul (pc := 20) X dX9_hourDigest_20 ?_
  refine x_aload_n (pc := 21) X dX9_hourDigest_21 rfl 1 rfl ?_
  refine x_iload_n (pc := 22) X dX9_hourDigest_22 rfl 3 rfl ?_
  obtain ⟨r23, σ23, hq23, h⟩ := xb2_some h
  refine x_calliV (pc := 23) (As := [.int v3]) (rest := [.long (31 * ((31 * v1) + (Int32.toInt64 r8)))]) X (kX9_nowhereOf l X.2.2.2.2.2.2.2 F _ _ _ _ hq23) kvX9_234 rfl (qX9) ⟨rfl, rfl, Nat.le_of_ble_eq_true rfl, Nat.le_of_ble_eq_true rfl⟩ rfl rfl (Nat.le_of_ble_eq_true rfl) dX9_hourDigest_23 ?_
  refine x_i2l (pc := 26) X dX9_hourDigest_26 ?_
  refine x_ladd (pc := 27) X dX9_hourDigest_27 ?_
  refine x_lstore (pc := 28) (lv' := [(4, .long ((31 * ((31 * v1) + (Int32.toInt64 r8))) + (Int32.toInt64 r23))), (0, .ref (ad 0)), (1, .long v1), (3, .int v3)]) X dX9_hourDigest_28 (by decide) rfl ?_
  refine x_ldc2 (pc := 30) X kcX9_336 dX9_hourDigest_30 ?_
  refine x_lload (pc := 33) X dX9_hourDigest_33 0 rfl ?_
  refine x_lmul (pc := 35) X dX9_hourDigest_35 ?_
  refine x_aload_n (pc := 36) X dX9_hourDigest_36 rfl 1 rfl ?_
  refine x_iload_n (pc := 37) X dX9_hourDigest_37 rfl 3 rfl ?_
  obtain ⟨r38, σ38, hq38, h⟩ := xb2_some h
  refine x_calliV (pc := 38) (As := [.int v3]) (rest := [.long (31 * ((31 * ((31 * v1) + (Int32.toInt64 r8))) + (Int32.toInt64 r23)))]) X (kX9_knownOf l X.2.2.2.2.2.2.2 F _ _ _ _ hq38) kvX9_279 rfl (qX9) ⟨rfl, rfl, Nat.le_of_ble_eq_true rfl, Nat.le_of_ble_eq_true rfl⟩ rfl rfl (Nat.le_of_ble_eq_true rfl) dX9_hourDigest_38 ?_
  refine x_i2l (pc := 41) X dX9_hourDigest_41 ?_
  refine x_ladd (pc := 42) X dX9_hourDigest_42 ?_
  exact x_lret (pc := 43) X hr hl h dX9_hourDigest_43
