set_option maxRecDepth 100000 in
set_option maxHeartbeats 4000000 in
theorem wX9_read_L97 {p : Program} {l : Launch} {e : Env} {s : State} {m : MethodId} {args : Array Value} {below : List Frame} {meth : Method} {c : Code} {D : va_G} {A : Nat → Prop} {ad : Nat → Nat} {cI cX : ClassId} {r : Int32} {σ' : xSt} (X : xX p s m args c cX9_read 3 RX9 D (tyM cI cX) A (wM ad cI cX)) (hr : meth.sig.returnType = (some .int)) (hl : meth.locks = false) (F : Nat) (v2 : Int32) (σ : xSt) (h : mX9_read_L97 F v2 σ = some (r, σ')) : xG p l e ({ frames := 3, cells := 0, slots := 0, locals := 65 }) s m args below meth c (MQ below (xQi D A (wM ad cI cX) r σ') args s 0 0 A) 3 D A (wM ad cI cX) σ 97 [(2, .int v2)] [] := by
  unfold mX9_read_L97 at h
  refine x_iload_n (pc := 97) X dX9_read_97 rfl 0 rfl ?_
  exact x_iret (pc := 98) X hr hl h dX9_read_98
set_option maxRecDepth 100000 in
set_option maxHeartbeats 4000000 in
theorem wX9_read_S27 {p : Program} {l : Launch} {e : Env} {s : State} {m : MethodId} {args : Array Value} {below : List Frame} {meth : Method} {c : Code} {D : va_G} {A : Nat → Prop} {ad : Nat → Nat} {cI cX : ClassId} {r : Int32} {σ' : xSt} {c27 : Int32 → Int32 → xSt → Option (Int32 × xSt)} (X : xX p s m args c cX9_read 3 RX9 D (tyM cI cX) A (wM ad cI cX)) (hr : meth.sig.returnType = (some .int)) (hl : meth.locks = false) (F : Nat) (hc27 : ∀ (v1 : Int32) (v2 : Int32) (σ : xSt), c27 v1 v2 σ = some (r, σ') → xG p l e ({ frames := 3, cells := 0, slots := 0, locals := 65 }) s m args below meth c (MQ below (xQi D A (wM ad cI cX) r σ') args s 0 0 A) 3 D A (wM ad cI cX) σ 27 [(0, .ref (ad 0)), (1, .int v1), (2, .int v2)] []) (v1 : Int32) (v2 : Int32) (σ : xSt) (h : mX9_read_S27 F c27 v1 v2 σ = some (r, σ')) : xG p l e ({ frames := 3, cells := 0, slots := 0, locals := 65 }) s m args below meth c (MQ below (xQi D A (wM ad cI cX) r σ') args s 0 0 A) 3 D A (wM ad cI cX) σ 27 [(0, .ref (ad 0)), (1, .int v1), (2, .int v2)] [] := by
  unfold mX9_read_S27 at h
  refine x_iconst (pc := 27) (v := 3) X dX9_read_27 (by decide) ?_
  refine x_iload_n (pc := 28) X dX9_read_28 rfl 2 rfl ?_
  refine x_imul (pc := 29) X dX9_read_29 ?_
  refine x_iconst (pc := 30) (v := 2) X dX9_read_30 (by decide) ?_
  refine x_iadd (pc := 31) X dX9_read_31 ?_
  refine x_aload_n (pc := 32) X dX9_read_32 rfl 0 rfl ?_
  refine gX9_86 (pc := 33) X dX9_read_33 ?_
  refine x_iload_n (pc := 36) X dX9_read_36 rfl 1 rfl ?_
  obtain ⟨hb37, h⟩ := xck_some h
  refine x_iald (pc := 37) X 26 0 (qaX9_sizes) rfl hb37 dX9_read_37 ?_
  refine x_icmp_ge (pc := 38) X 97 dX9_read_38 (by decide) (fun hc => ?_) (fun hc => ?_)
  · have h := xit hc h
    refine x_sub [2] rfl ?_
    exact wX9_read_L97 X hr hl F _ _ h
  · have h := xif hc h
    refine x_aload_n (pc := 41) X dX9_read_41 rfl 0 rfl ?_
    refine x_aload_n (pc := 42) X dX9_read_42 rfl 0 rfl ?_
    refine gX9_89 (pc := 43) X dX9_read_43 ?_
    refine x_bipush (pc := 46) (v := 60) X dX9_read_46 (by decide) ?_
    refine x_iload_n (pc := 48) X dX9_read_48 rfl 1 rfl ?_
    refine x_imul (pc := 49) X dX9_read_49 ?_
    refine x_iconst (pc := 50) (v := 3) X dX9_read_50 (by decide) ?_
    refine x_iload_n (pc := 51) X dX9_read_51 rfl 2 rfl ?_
    refine x_imul (pc := 52) X dX9_read_52 ?_
    refine x_iadd (pc := 53) X dX9_read_53 ?_
    obtain ⟨hb54, h⟩ := xck_some h
    refine x_iald (pc := 54) X 27 0 (qaX9_items) rfl hb54 dX9_read_54 ?_
    refine x_aload_n (pc := 55) X dX9_read_55 rfl 0 rfl ?_
    refine gX9_89 (pc := 56) X dX9_read_56 ?_
    refine x_bipush (pc := 59) (v := 60) X dX9_read_59 (by decide) ?_
    refine x_iload_n (pc := 61) X dX9_read_61 rfl 1 rfl ?_
    refine x_imul (pc := 62) X dX9_read_62 ?_
    refine x_iconst (pc := 63) (v := 3) X dX9_read_63 (by decide) ?_
    refine x_iload_n (pc := 64) X dX9_read_64 rfl 2 rfl ?_
    refine x_imul (pc := 65) X dX9_read_65 ?_
    refine x_iadd (pc := 66) X dX9_read_66 ?_
    refine x_iconst (pc := 67) (v := 1) X dX9_read_67 (by decide) ?_
    refine x_iadd (pc := 68) X dX9_read_68 ?_
    obtain ⟨hb69, h⟩ := xck_some h
    refine x_iald (pc := 69) X 27 0 (qaX9_items) rfl hb69 dX9_read_69 ?_
    refine x_aload_n (pc := 70) X dX9_read_70 rfl 0 rfl ?_
    refine gX9_89 (pc := 71) X dX9_read_71 ?_
    refine x_bipush (pc := 74) (v := 60) X dX9_read_74 (by decide) ?_
    refine x_iload_n (pc := 76) X dX9_read_76 rfl 1 rfl ?_
    refine x_imul (pc := 77) X dX9_read_77 ?_
    refine x_iconst (pc := 78) (v := 3) X dX9_read_78 (by decide) ?_
    refine x_iload_n (pc := 79) X dX9_read_79 rfl 2 rfl ?_
    refine x_imul (pc := 80) X dX9_read_80 ?_
    refine x_iadd (pc := 81) X dX9_read_81 ?_
    refine x_iconst (pc := 82) (v := 2) X dX9_read_82 (by decide) ?_
    refine x_iadd (pc := 83) X dX9_read_83 ?_
    obtain ⟨hb84, h⟩ := xck_some h
    refine x_iald (pc := 84) X 27 0 (qaX9_items) rfl hb84 dX9_read_84 ?_
    obtain ⟨r85, σ85, hq85, h⟩ := xb2_some h
    refine x_calliV (pc := 85) (As := [.int (xA σ 35 (Int32.toNatClampNeg ((60 * v1) + (3 * v2)))), .int (xA σ 35 (Int32.toNatClampNeg (((60 * v1) + (3 * v2)) + 1))), .int (xA σ 35 (Int32.toNatClampNeg (((60 * v1) + (3 * v2)) + 2)))]) (rest := []) X (kX9_sit l X.2.2.2.2.2.2.2 F _ _ _ _ _ _ hq85) kvX9_167 rfl (qX9) ⟨rfl, rfl, Nat.le_of_ble_eq_true rfl, Nat.le_of_ble_eq_true rfl⟩ rfl rfl (Nat.le_of_ble_eq_true rfl) dX9_read_85 ?_
    refine x_if_le (pc := 88) X 97 dX9_read_88 (by decide) (fun hc => ?_) (fun hc => ?_)
    · have h := xit hc h
      refine x_sub [2] rfl ?_
      exact wX9_read_L97 X hr hl F _ _ h
    · have h := xif hc h
      refine x_iinc (pc := 91) (v := (v2 + 1)) (lv' := [(2, .int (v2 + 1)), (0, .ref (ad 0)), (1, .int v1)]) X dX9_read_91 2 rfl rfl (by decide) rfl ?_
      refine x_goto (pc := 94) X 27 dX9_read_94 (by decide) ?_
      refine x_sub [1, 2, 0] rfl ?_
      exact hc27 _ _ _ h
theorem wX9_read_L27 {p : Program} {l : Launch} {e : Env} {s : State} {m : MethodId} {args : Array Value} {below : List Frame} {meth : Method} {c : Code} {D : va_G} {A : Nat → Prop} {ad : Nat → Nat} {cI cX : ClassId} {r : Int32} {σ' : xSt} (X : xX p s m args c cX9_read 3 RX9 D (tyM cI cX) A (wM ad cI cX)) (hr : meth.sig.returnType = (some .int)) (hl : meth.locks = false) (F : Nat) : ∀ (n : Nat) (v1 : Int32) (v2 : Int32) (σ : xSt), mX9_read_L27 F n v1 v2 σ = some (r, σ') → xG p l e ({ frames := 3, cells := 0, slots := 0, locals := 65 }) s m args below meth c (MQ below (xQi D A (wM ad cI cX) r σ') args s 0 0 A) 3 D A (wM ad cI cX) σ 27 [(0, .ref (ad 0)), (1, .int v1), (2, .int v2)] [] := by
  intro n
  induction n with
  | zero => intro v1 v2 σ h; cases h
  | succ n ih => intro v1 v2 σ h; exact wX9_read_S27 X hr hl F ih v1 v2 σ h
set_option maxRecDepth 100000 in
set_option maxHeartbeats 4000000 in
theorem kX9_read (l : Launch) {D : va_G} {A : Nat → Prop} {ad : Nat → Nat} {cI cX : ClassId} (hD : ∀ σ, va_D A ((wM ad cI cX) σ)) (F : Nat) (v1 : Int32) (σ : xSt) (r : Int32) (σ' : xSt) (h : mX9_read F v1 σ = some (r, σ')) : xM l yX9_read cX9_read 3 (some .int) ({ frames := 3, cells := 0, slots := 0, locals := 65 }) D (tyM cI cX) A (wM ad cI cX) [.ref (ad 0), .int v1] σ (xQi D A (wM ad cI cX) r σ') := by
  refine xM_of (lv := [(0, .ref (ad 0)), (1, .int v1)]) [.ref (ad 0), .int v1] (by decide) hD rfl (Nat.le_of_ble_eq_true rfl) ?_
  intro p e s m args below meth c X hr hl
  unfold mX9_read at h
  refine x_iload_n (pc := 0) X dX9_read_0 rfl 1 rfl ?_
  obtain ⟨r1, σ1, hq1, h⟩ := xb2_some h
  refine x_calliS (pc := 1) (As := [.int v1]) (rest := []) X (kX9_isSheet l X.2.2.2.2.2.2.2 F _ _ _ _ hq1) kvX9_161 ⟨rfl, rfl, Nat.le_of_ble_eq_true rfl, Nat.le_of_ble_eq_true rfl⟩ rfl rfl (Nat.le_of_ble_eq_true rfl) dX9_read_1 ?_
  refine x_if_ne (pc := 4) X 10 dX9_read_4 (by decide) (fun hc => ?_) (fun hc => ?_)
  · have h := xif hc h
    refine x_aload_n (pc := 10) X dX9_read_10 rfl 0 rfl ?_
    refine gX9_80 (pc := 11) X dX9_read_11 ?_
    refine x_iload_n (pc := 14) X dX9_read_14 rfl 1 rfl ?_
    obtain ⟨hb15, h⟩ := xck_some h
    refine x_zald (pc := 15) X 24 1 (qaX9_isThere) rfl hb15 dX9_read_15 ?_
    refine x_if_ne (pc := 16) X 25 dX9_read_16 (by decide) (fun hc => ?_) (fun hc => ?_)
    · have h := xif hc h
      refine x_iconst (pc := 25) (v := 0) X dX9_read_25 (by decide) ?_
      refine x_istore_n (pc := 26) (lv' := [(2, .int 0), (0, .ref (ad 0)), (1, .int v1)]) X dX9_read_26 rfl (by decide) rfl ?_
      refine x_sub [1, 2, 0] rfl ?_
      exact wX9_read_L27 X hr hl F F _ _ _ h
    · have h := xit hc h
      refine x_aload_n (pc := 19) X dX9_read_19 rfl 0 rfl ?_
      refine x_iconst (pc := 20) (v := 1) X dX9_read_20 (by decide) ?_
      obtain ⟨r21, σ21, hq21, h⟩ := xb2_some h
      refine x_calliV (pc := 21) (As := [.int 1]) (rest := []) X (kX9_meets l X.2.2.2.2.2.2.2 F _ _ _ _ hq21) kvX9_164 rfl (qX9) ⟨rfl, rfl, Nat.le_of_ble_eq_true rfl, Nat.le_of_ble_eq_true rfl⟩ rfl rfl (Nat.le_of_ble_eq_true rfl) dX9_read_21 ?_
      exact x_iret (pc := 24) X hr hl h dX9_read_24
  · have h := xit hc h
    refine x_bipush (pc := 7) (v := (-2)) X dX9_read_7 (by decide) ?_
    exact x_iret (pc := 9) X hr hl h dX9_read_9
set_option maxRecDepth 100000 in
set_option maxHeartbeats 4000000 in
theorem kX9_asTold (l : Launch) {D : va_G} {A : Nat → Prop} {ad : Nat → Nat} {cI cX : ClassId} (hD : ∀ σ, va_D A ((wM ad cI cX) σ)) (F : Nat) (σ : xSt) (σ' : xSt) (h : mX9_asTold F σ = some σ') : xM l yX9_asTold cX9_asTold 1 none ({ frames := 0, cells := 0, slots := 0, locals := 0 }) D (tyM cI cX) A (wM ad cI cX) [.ref (ad 0)] σ (xQv D A (wM ad cI cX) σ') := by
  refine xM_of (lv := [(0, .ref (ad 0))]) [.ref (ad 0)] (by decide) hD rfl (Nat.le_of_ble_eq_true rfl) ?_
  intro p e s m args below meth c X hr hl
  unfold mX9_asTold at h
  refine x_aload_n (pc := 0) X dX9_asTold_0 rfl 0 rfl ?_
  refine x_aload_n (pc := 1) X dX9_asTold_1 rfl 0 rfl ?_
  refine gX9_151 (pc := 2) X dX9_asTold_2 ?_
  refine uX9_170 (pc := 5) X dX9_asTold_5 ?_
  refine x_aload_n (pc := 8) X dX9_asTold_8 rfl 0 rfl ?_
  refine x_aload_n (pc := 9) X dX9_asTold_9 rfl 0 rfl ?_
  refine gX9_158 (pc := 10) X dX9_asTold_10 ?_
  refine uX9_173 (pc := 13) X dX9_asTold_13 ?_
  refine x_aload_n (pc := 16) X dX9_asTold_16 rfl 0 rfl ?_
  refine x_iconst (pc := 17) (v := 0) X dX9_asTold_17 (by decide) ?_
  refine uX9_176 (pc := 18) X dX9_asTold_18 ?_
  refine x_aload_n (pc := 21) X dX9_asTold_21 rfl 0 rfl ?_
  refine x_iconst (pc := 22) (v := 0) X dX9_asTold_22 (by decide) ?_
  refine uX9_179 (pc := 23) X dX9_asTold_23 ?_
  exact x_vret (pc := 26) X hr hl h dX9_asTold_26
set_option maxRecDepth 100000 in
set_option maxHeartbeats 4000000 in
theorem wX9_takesOut_L68 {p : Program} {l : Launch} {e : Env} {s : State} {m : MethodId} {args : Array Value} {below : List Frame} {meth : Method} {c : Code} {D : va_G} {A : Nat → Prop} {ad : Nat → Nat} {cI cX : ClassId} {σ' : xSt} (X : xX p s m args c cX9_takesOut 4 RX9 D (tyM cI cX) A (wM ad cI cX)) (hr : meth.sig.returnType = none) (hl : meth.locks = false) (F : Nat) (v1 : Int32) (σ : xSt) (h : mX9_takesOut_L68 F v1 σ = some σ') : xG p l e ({ frames := 0, cells := 0, slots := 0, locals := 0 }) s m args below meth c (MQ below (xQv D A (wM ad cI cX) σ') args s 0 0 A) 4 D A (wM ad cI cX) σ 68 [(0, .ref (ad 0)), (1, .int v1)] [] := by
  unfold mX9_takesOut_L68 at h
  refine x_aload_n (pc := 68) X dX9_takesOut_68 rfl 0 rfl ?_
  refine gX9_49 (pc := 69) X dX9_takesOut_69 ?_
  refine x_iload_n (pc := 72) X dX9_takesOut_72 rfl 1 rfl ?_
  refine x_dup2 (pc := 73) X dX9_takesOut_73 rfl rfl ?_
  obtain ⟨hb74, h⟩ := xck_some h
  refine x_iald (pc := 74) X 14 0 (qaX9_many) rfl hb74 dX9_takesOut_74 ?_
  refine x_iconst (pc := 75) (v := 1) X dX9_takesOut_75 (by decide) ?_
  refine x_isub (pc := 76) X dX9_takesOut_76 ?_
  obtain ⟨hb77, h⟩ := xck_some h
  refine x_iast (pc := 77) (σ' := (xsA σ 17 (Int32.toNatClampNeg v1) ((xA σ 17 (Int32.toNatClampNeg v1)) - 1))) X 14 0 (qaX9_many) rfl (saX9_many _) hb77 dX9_takesOut_77 ?_
  exact x_vret (pc := 78) X hr hl h dX9_takesOut_78
set_option maxRecDepth 100000 in
set_option maxHeartbeats 4000000 in
theorem wX9_takesOut_S2 {p : Program} {l : Launch} {e : Env} {s : State} {m : MethodId} {args : Array Value} {below : List Frame} {meth : Method} {c : Code} {D : va_G} {A : Nat → Prop} {ad : Nat → Nat} {cI cX : ClassId} {σ' : xSt} {c2 : Int32 → Int32 → xSt → Option (xSt)} (X : xX p s m args c cX9_takesOut 4 RX9 D (tyM cI cX) A (wM ad cI cX)) (hr : meth.sig.returnType = none) (hl : meth.locks = false) (F : Nat) (hc2 : ∀ (v1 : Int32) (v3 : Int32) (σ : xSt), c2 v1 v3 σ = some σ' → xG p l e ({ frames := 0, cells := 0, slots := 0, locals := 0 }) s m args below meth c (MQ below (xQv D A (wM ad cI cX) σ') args s 0 0 A) 4 D A (wM ad cI cX) σ 2 [(0, .ref (ad 0)), (1, .int v1), (3, .int v3)] []) (v1 : Int32) (v3 : Int32) (σ : xSt) (h : mX9_takesOut_S2 F c2 v1 v3 σ = some σ') : xG p l e ({ frames := 0, cells := 0, slots := 0, locals := 0 }) s m args below meth c (MQ below (xQv D A (wM ad cI cX) σ') args s 0 0 A) 4 D A (wM ad cI cX) σ 2 [(0, .ref (ad 0)), (1, .int v1), (3, .int v3)] [] := by
  unfold mX9_takesOut_S2 at h
  refine x_iload_n (pc := 2) X dX9_takesOut_2 rfl 2 rfl ?_
  refine x_aload_n (pc := 3) X dX9_takesOut_3 rfl 0 rfl ?_
  refine gX9_49 (pc := 4) X dX9_takesOut_4 ?_
  refine x_iload_n (pc := 7) X dX9_takesOut_7 rfl 1 rfl ?_
  obtain ⟨hb8, h⟩ := xck_some h
  refine x_iald (pc := 8) X 14 0 (qaX9_many) rfl hb8 dX9_takesOut_8 ?_
  refine x_iconst (pc := 9) (v := 1) X dX9_takesOut_9 (by decide) ?_
  refine x_isub (pc := 10) X dX9_takesOut_10 ?_
  refine x_icmp_ge (pc := 11) X 68 dX9_takesOut_11 (by decide) (fun hc => ?_) (fun hc => ?_)
  · have h := xit hc h
    refine x_sub [0, 1] rfl ?_
    exact wX9_takesOut_L68 X hr hl F _ _ h
  · have h := xif hc h
    refine x_aload_n (pc := 14) X dX9_takesOut_14 rfl 0 rfl ?_
    refine gX9_52 (pc := 15) X dX9_takesOut_15 ?_
    refine x_bipush (pc := 18) (v := 6) X dX9_takesOut_18 (by decide) ?_
    refine x_iload_n (pc := 20) X dX9_takesOut_20 rfl 1 rfl ?_
    refine x_imul (pc := 21) X dX9_takesOut_21 ?_
    refine x_iload_n (pc := 22) X dX9_takesOut_22 rfl 2 rfl ?_
    refine x_iadd (pc := 23) X dX9_takesOut_23 ?_
    refine x_aload_n (pc := 24) X dX9_takesOut_24 rfl 0 rfl ?_
    refine gX9_52 (pc := 25) X dX9_takesOut_25 ?_
    refine x_bipush (pc := 28) (v := 6) X dX9_takesOut_28 (by decide) ?_
    refine x_iload_n (pc := 30) X dX9_takesOut_30 rfl 1 rfl ?_
    refine x_imul (pc := 31) X dX9_takesOut_31 ?_
    refine x_iload_n (pc := 32) X dX9_takesOut_32 rfl 2 rfl ?_
    refine x_iadd (pc := 33) X dX9_takesOut_33 ?_
    refine x_iconst (pc := 34) (v := 1) X dX9_takesOut_34 (by decide) ?_
    refine x_iadd (pc := 35) X dX9_takesOut_35 ?_
    obtain ⟨hb36, h⟩ := xck_some h
    refine x_iald (pc := 36) X 15 0 (qaX9_ofWhom) rfl hb36 dX9_takesOut_36 ?_
    obtain ⟨hb37, h⟩ := xck_some h
    refine x_iast (pc := 37) (σ' := (xsA σ 18 (Int32.toNatClampNeg ((6 * v1) + v3)) (xA σ 18 (Int32.toNatClampNeg (((6 * v1) + v3) + 1))))) X 15 0 (qaX9_ofWhom) rfl (saX9_ofWhom _) hb37 dX9_takesOut_37 ?_
    refine x_aload_n (pc := 38) X dX9_takesOut_38 rfl 0 rfl ?_
    refine gX9_55 (pc := 39) X dX9_takesOut_39 ?_
    refine x_bipush (pc := 42) (v := 6) X dX9_takesOut_42 (by decide) ?_
    refine x_iload_n (pc := 44) X dX9_takesOut_44 rfl 1 rfl ?_
    refine x_imul (pc := 45) X dX9_takesOut_45 ?_
    refine x_iload_n (pc := 46) X dX9_takesOut_46 rfl 2 rfl ?_
    refine x_iadd (pc := 47) X dX9_takesOut_47 ?_
    refine x_aload_n (pc := 48) X dX9_takesOut_48 rfl 0 rfl ?_
    refine gX9_55 (pc := 49) X dX9_takesOut_49 ?_
    refine x_bipush (pc := 52) (v := 6) X dX9_takesOut_52 (by decide) ?_
    refine x_iload_n (pc := 54) X dX9_takesOut_54 rfl 1 rfl ?_
    refine x_imul (pc := 55) X dX9_takesOut_55 ?_
    refine x_iload_n (pc := 56) X dX9_takesOut_56 rfl 2 rfl ?_
    refine x_iadd (pc := 57) X dX9_takesOut_57 ?_
    refine x_iconst (pc := 58) (v := 1) X dX9_takesOut_58 (by decide) ?_
    refine x_iadd (pc := 59) X dX9_takesOut_59 ?_
    obtain ⟨hb60, h⟩ := xck_some h
    refine x_iald (pc := 60) X 16 0 (qaX9_howStrong) rfl hb60 dX9_takesOut_60 ?_
    obtain ⟨hb61, h⟩ := xck_some h
    refine x_iast (pc := 61) (σ' := (xsA (xsA σ 18 (Int32.toNatClampNeg ((6 * v1) + v3)) (xA σ 18 (Int32.toNatClampNeg (((6 * v1) + v3) + 1)))) 19 (Int32.toNatClampNeg ((6 * v1) + v3)) (xA (xsA σ 18 (Int32.toNatClampNeg ((6 * v1) + v3)) (xA σ 18 (Int32.toNatClampNeg (((6 * v1) + v3) + 1)))) 19 (Int32.toNatClampNeg (((6 * v1) + v3) + 1))))) X 16 0 (qaX9_howStrong) rfl (saX9_howStrong _) hb61 dX9_takesOut_61 ?_
    refine x_iinc (pc := 62) (v := (v3 + 1)) (lv' := [(3, .int (v3 + 1)), (0, .ref (ad 0)), (1, .int v1)]) X dX9_takesOut_62 2 rfl rfl (by decide) rfl ?_
    refine x_goto (pc := 65) X 2 dX9_takesOut_65 (by decide) ?_
    refine x_sub [1, 2, 0] rfl ?_
    exact hc2 _ _ _ h
theorem wX9_takesOut_L2 {p : Program} {l : Launch} {e : Env} {s : State} {m : MethodId} {args : Array Value} {below : List Frame} {meth : Method} {c : Code} {D : va_G} {A : Nat → Prop} {ad : Nat → Nat} {cI cX : ClassId} {σ' : xSt} (X : xX p s m args c cX9_takesOut 4 RX9 D (tyM cI cX) A (wM ad cI cX)) (hr : meth.sig.returnType = none) (hl : meth.locks = false) (F : Nat) : ∀ (n : Nat) (v1 : Int32) (v3 : Int32) (σ : xSt), mX9_takesOut_L2 F n v1 v3 σ = some σ' → xG p l e ({ frames := 0, cells := 0, slots := 0, locals := 0 }) s m args below meth c (MQ below (xQv D A (wM ad cI cX) σ') args s 0 0 A) 4 D A (wM ad cI cX) σ 2 [(0, .ref (ad 0)), (1, .int v1), (3, .int v3)] [] := by
  intro n
  induction n with
  | zero => intro v1 v3 σ h; cases h
  | succ n ih => intro v1 v3 σ h; exact wX9_takesOut_S2 X hr hl F ih v1 v3 σ h
set_option maxRecDepth 100000 in
set_option maxHeartbeats 4000000 in
theorem kX9_takesOut (l : Launch) {D : va_G} {A : Nat → Prop} {ad : Nat → Nat} {cI cX : ClassId} (hD : ∀ σ, va_D A ((wM ad cI cX) σ)) (F : Nat) (v1 : Int32) (v2 : Int32) (σ : xSt) (σ' : xSt) (h : mX9_takesOut F v1 v2 σ = some σ') : xM l yX9_takesOut cX9_takesOut 4 none ({ frames := 0, cells := 0, slots := 0, locals := 0 }) D (tyM cI cX) A (wM ad cI cX) [.ref (ad 0), .int v1, .int v2] σ (xQv D A (wM ad cI cX) σ') := by
  refine xM_of (lv := [(0, .ref (ad 0)), (1, .int v1), (2, .int v2)]) [.ref (ad 0), .int v1, .int v2] (by decide) hD rfl (Nat.le_of_ble_eq_true rfl) ?_
  intro p e s m args below meth c X hr hl
  unfold mX9_takesOut at h
  refine x_iload_n (pc := 0) X dX9_takesOut_0 rfl 2 rfl ?_
  refine x_istore_n (pc := 1) (lv' := [(3, .int v2), (0, .ref (ad 0)), (1, .int v1), (2, .int v2)]) X dX9_takesOut_1 rfl (by decide) rfl ?_
  refine x_sub [1, 2, 0] rfl ?_
  exact wX9_takesOut_L2 X hr hl F F _ _ _ h
set_option maxRecDepth 100000 in
set_option maxHeartbeats 4000000 in
theorem wX9_putsIn_L72 {p : Program} {l : Launch} {e : Env} {s : State} {m : MethodId} {args : Array Value} {below : List Frame} {meth : Method} {c : Code} {D : va_G} {A : Nat → Prop} {ad : Nat → Nat} {cI cX : ClassId} {σ' : xSt} (X : xX p s m args c cX9_putsIn 6 RX9 D (tyM cI cX) A (wM ad cI cX)) (hr : meth.sig.returnType = none) (hl : meth.locks = false) (F : Nat) (v1 : Int32) (v2 : Int32) (v3 : Int32) (v4 : Int32) (σ : xSt) (h : mX9_putsIn_L72 F v1 v2 v3 v4 σ = some σ') : xG p l e ({ frames := 0, cells := 0, slots := 0, locals := 0 }) s m args below meth c (MQ below (xQv D A (wM ad cI cX) σ') args s 0 0 A) 6 D A (wM ad cI cX) σ 72 [(0, .ref (ad 0)), (1, .int v1), (2, .int v2), (3, .int v3), (4, .int v4)] [] := by
  unfold mX9_putsIn_L72 at h
  refine x_aload_n (pc := 72) X dX9_putsIn_72 rfl 0 rfl ?_
  refine gX9_52 (pc := 73) X dX9_putsIn_73 ?_
  refine x_bipush (pc := 76) (v := 6) X dX9_putsIn_76 (by decide) ?_
  refine x_iload_n (pc := 78) X dX9_putsIn_78 rfl 1 rfl ?_
  refine x_imul (pc := 79) X dX9_putsIn_79 ?_
  refine x_iload_n (pc := 80) X dX9_putsIn_80 rfl 2 rfl ?_
  refine x_iadd (pc := 81) X dX9_putsIn_81 ?_
  refine x_iload_n (pc := 82) X dX9_putsIn_82 rfl 3 rfl ?_
  obtain ⟨hb83, h⟩ := xck_some h
  refine x_iast (pc := 83) (σ' := (xsA σ 18 (Int32.toNatClampNeg ((6 * v1) + v2)) v3)) X 15 0 (qaX9_ofWhom) rfl (saX9_ofWhom _) hb83 dX9_putsIn_83 ?_
  refine x_aload_n (pc := 84) X dX9_putsIn_84 rfl 0 rfl ?_
  refine gX9_55 (pc := 85) X dX9_putsIn_85 ?_
  refine x_bipush (pc := 88) (v := 6) X dX9_putsIn_88 (by decide) ?_
  refine x_iload_n (pc := 90) X dX9_putsIn_90 rfl 1 rfl ?_
  refine x_imul (pc := 91) X dX9_putsIn_91 ?_
  refine x_iload_n (pc := 92) X dX9_putsIn_92 rfl 2 rfl ?_
  refine x_iadd (pc := 93) X dX9_putsIn_93 ?_
  refine x_iload (pc := 94) X dX9_putsIn_94 4 rfl ?_
  obtain ⟨hb96, h⟩ := xck_some h
  refine x_iast (pc := 96) (σ' := (xsA (xsA σ 18 (Int32.toNatClampNeg ((6 * v1) + v2)) v3) 19 (Int32.toNatClampNeg ((6 * v1) + v2)) v4)) X 16 0 (qaX9_howStrong) rfl (saX9_howStrong _) hb96 dX9_putsIn_96 ?_
  refine x_aload_n (pc := 97) X dX9_putsIn_97 rfl 0 rfl ?_
  refine gX9_49 (pc := 98) X dX9_putsIn_98 ?_
  refine x_iload_n (pc := 101) X dX9_putsIn_101 rfl 1 rfl ?_
  refine x_dup2 (pc := 102) X dX9_putsIn_102 rfl rfl ?_
  obtain ⟨hb103, h⟩ := xck_some h
  refine x_iald (pc := 103) X 14 0 (qaX9_many) rfl hb103 dX9_putsIn_103 ?_
  refine x_iconst (pc := 104) (v := 1) X dX9_putsIn_104 (by decide) ?_
  refine x_iadd (pc := 105) X dX9_putsIn_105 ?_
  obtain ⟨hb106, h⟩ := xck_some h
  refine x_iast (pc := 106) (σ' := (xsA (xsA (xsA σ 18 (Int32.toNatClampNeg ((6 * v1) + v2)) v3) 19 (Int32.toNatClampNeg ((6 * v1) + v2)) v4) 17 (Int32.toNatClampNeg v1) ((xA (xsA (xsA σ 18 (Int32.toNatClampNeg ((6 * v1) + v2)) v3) 19 (Int32.toNatClampNeg ((6 * v1) + v2)) v4) 17 (Int32.toNatClampNeg v1)) + 1))) X 14 0 (qaX9_many) rfl (saX9_many _) hb106 dX9_putsIn_106 ?_
  exact x_vret (pc := 107) X hr hl h dX9_putsIn_107
set_option maxRecDepth 100000 in
set_option maxHeartbeats 4000000 in
theorem wX9_putsIn_S8 {p : Program} {l : Launch} {e : Env} {s : State} {m : MethodId} {args : Array Value} {below : List Frame} {meth : Method} {c : Code} {D : va_G} {A : Nat → Prop} {ad : Nat → Nat} {cI cX : ClassId} {σ' : xSt} {c8 : Int32 → Int32 → Int32 → Int32 → Int32 → xSt → Option (xSt)} (X : xX p s m args c cX9_putsIn 6 RX9 D (tyM cI cX) A (wM ad cI cX)) (hr : meth.sig.returnType = none) (hl : meth.locks = false) (F : Nat) (hc8 : ∀ (v1 : Int32) (v2 : Int32) (v3 : Int32) (v4 : Int32) (v5 : Int32) (σ : xSt), c8 v1 v2 v3 v4 v5 σ = some σ' → xG p l e ({ frames := 0, cells := 0, slots := 0, locals := 0 }) s m args below meth c (MQ below (xQv D A (wM ad cI cX) σ') args s 0 0 A) 6 D A (wM ad cI cX) σ 8 [(0, .ref (ad 0)), (1, .int v1), (2, .int v2), (3, .int v3), (4, .int v4), (5, .int v5)] []) (v1 : Int32) (v2 : Int32) (v3 : Int32) (v4 : Int32) (v5 : Int32) (σ : xSt) (h : mX9_putsIn_S8 F c8 v1 v2 v3 v4 v5 σ = some σ') : xG p l e ({ frames := 0, cells := 0, slots := 0, locals := 0 }) s m args below meth c (MQ below (xQv D A (wM ad cI cX) σ') args s 0 0 A) 6 D A (wM ad cI cX) σ 8 [(0, .ref (ad 0)), (1, .int v1), (2, .int v2), (3, .int v3), (4, .int v4), (5, .int v5)] [] := by
  unfold mX9_putsIn_S8 at h
  refine x_iload (pc := 8) X dX9_putsIn_8 5 rfl ?_
  refine x_iload_n (pc := 10) X dX9_putsIn_10 rfl 2 rfl ?_
  refine x_icmp_le (pc := 11) X 72 dX9_putsIn_11 (by decide) (fun hc => ?_) (fun hc => ?_)
  · have h := xit hc h
    refine x_sub [0, 1, 2, 3, 4] rfl ?_
    exact wX9_putsIn_L72 X hr hl F _ _ _ _ _ h
  · have h := xif hc h
    refine x_aload_n (pc := 14) X dX9_putsIn_14 rfl 0 rfl ?_
    refine gX9_52 (pc := 15) X dX9_putsIn_15 ?_
    refine x_bipush (pc := 18) (v := 6) X dX9_putsIn_18 (by decide) ?_
    refine x_iload_n (pc := 20) X dX9_putsIn_20 rfl 1 rfl ?_
    refine x_imul (pc := 21) X dX9_putsIn_21 ?_
    refine x_iload (pc := 22) X dX9_putsIn_22 5 rfl ?_
    refine x_iadd (pc := 24) X dX9_putsIn_24 ?_
    refine x_aload_n (pc := 25) X dX9_putsIn_25 rfl 0 rfl ?_
    refine gX9_52 (pc := 26) X dX9_putsIn_26 ?_
    refine x_bipush (pc := 29) (v := 6) X dX9_putsIn_29 (by decide) ?_
    refine x_iload_n (pc := 31) X dX9_putsIn_31 rfl 1 rfl ?_
    refine x_imul (pc := 32) X dX9_putsIn_32 ?_
    refine x_iload (pc := 33) X dX9_putsIn_33 5 rfl ?_
    refine x_iadd (pc := 35) X dX9_putsIn_35 ?_
    refine x_iconst (pc := 36) (v := 1) X dX9_putsIn_36 (by decide) ?_
    refine x_isub (pc := 37) X dX9_putsIn_37 ?_
    obtain ⟨hb38, h⟩ := xck_some h
    refine x_iald (pc := 38) X 15 0 (qaX9_ofWhom) rfl hb38 dX9_putsIn_38 ?_
    obtain ⟨hb39, h⟩ := xck_some h
    refine x_iast (pc := 39) (σ' := (xsA σ 18 (Int32.toNatClampNeg ((6 * v1) + v5)) (xA σ 18 (Int32.toNatClampNeg (((6 * v1) + v5) - 1))))) X 15 0 (qaX9_ofWhom) rfl (saX9_ofWhom _) hb39 dX9_putsIn_39 ?_
    refine x_aload_n (pc := 40) X dX9_putsIn_40 rfl 0 rfl ?_
    refine gX9_55 (pc := 41) X dX9_putsIn_41 ?_
    refine x_bipush (pc := 44) (v := 6) X dX9_putsIn_44 (by decide) ?_
    refine x_iload_n (pc := 46) X dX9_putsIn_46 rfl 1 rfl ?_
    refine x_imul (pc := 47) X dX9_putsIn_47 ?_
    refine x_iload (pc := 48) X dX9_putsIn_48 5 rfl ?_
    refine x_iadd (pc := 50) X dX9_putsIn_50 ?_
    refine x_aload_n (pc := 51) X dX9_putsIn_51 rfl 0 rfl ?_
    refine gX9_55 (pc := 52) X dX9_putsIn_52 ?_
    refine x_bipush (pc := 55) (v := 6) X dX9_putsIn_55 (by decide) ?_
    refine x_iload_n (pc := 57) X dX9_putsIn_57 rfl 1 rfl ?_
    refine x_imul (pc := 58) X dX9_putsIn_58 ?_
    refine x_iload (pc := 59) X dX9_putsIn_59 5 rfl ?_
    refine x_iadd (pc := 61) X dX9_putsIn_61 ?_
    refine x_iconst (pc := 62) (v := 1) X dX9_putsIn_62 (by decide) ?_
    refine x_isub (pc := 63) X dX9_putsIn_63 ?_
    obtain ⟨hb64, h⟩ := xck_some h
    refine x_iald (pc := 64) X 16 0 (qaX9_howStrong) rfl hb64 dX9_putsIn_64 ?_
    obtain ⟨hb65, h⟩ := xck_some h
    refine x_iast (pc := 65) (σ' := (xsA (xsA σ 18 (Int32.toNatClampNeg ((6 * v1) + v5)) (xA σ 18 (Int32.toNatClampNeg (((6 * v1) + v5) - 1)))) 19 (Int32.toNatClampNeg ((6 * v1) + v5)) (xA (xsA σ 18 (Int32.toNatClampNeg ((6 * v1) + v5)) (xA σ 18 (Int32.toNatClampNeg (((6 * v1) + v5) - 1)))) 19 (Int32.toNatClampNeg (((6 * v1) + v5) - 1))))) X 16 0 (qaX9_howStrong) rfl (saX9_howStrong _) hb65 dX9_putsIn_65 ?_
    refine x_iinc (pc := 66) (v := (v5 + (-1))) (lv' := [(5, .int (v5 + (-1))), (0, .ref (ad 0)), (1, .int v1), (2, .int v2), (3, .int v3), (4, .int v4)]) X dX9_putsIn_66 5 rfl rfl (by decide) rfl ?_
    refine x_goto (pc := 69) X 8 dX9_putsIn_69 (by decide) ?_
    refine x_sub [1, 2, 3, 4, 5, 0] rfl ?_
    exact hc8 _ _ _ _ _ _ h
theorem wX9_putsIn_L8 {p : Program} {l : Launch} {e : Env} {s : State} {m : MethodId} {args : Array Value} {below : List Frame} {meth : Method} {c : Code} {D : va_G} {A : Nat → Prop} {ad : Nat → Nat} {cI cX : ClassId} {σ' : xSt} (X : xX p s m args c cX9_putsIn 6 RX9 D (tyM cI cX) A (wM ad cI cX)) (hr : meth.sig.returnType = none) (hl : meth.locks = false) (F : Nat) : ∀ (n : Nat) (v1 : Int32) (v2 : Int32) (v3 : Int32) (v4 : Int32) (v5 : Int32) (σ : xSt), mX9_putsIn_L8 F n v1 v2 v3 v4 v5 σ = some σ' → xG p l e ({ frames := 0, cells := 0, slots := 0, locals := 0 }) s m args below meth c (MQ below (xQv D A (wM ad cI cX) σ') args s 0 0 A) 6 D A (wM ad cI cX) σ 8 [(0, .ref (ad 0)), (1, .int v1), (2, .int v2), (3, .int v3), (4, .int v4), (5, .int v5)] [] := by
  intro n
  induction n with
  | zero => intro v1 v2 v3 v4 v5 σ h; cases h
  | succ n ih => intro v1 v2 v3 v4 v5 σ h; exact wX9_putsIn_S8 X hr hl F ih v1 v2 v3 v4 v5 σ h
set_option maxRecDepth 100000 in
set_option maxHeartbeats 4000000 in
theorem kX9_putsIn (l : Launch) {D : va_G} {A : Nat → Prop} {ad : Nat → Nat} {cI cX : ClassId} (hD : ∀ σ, va_D A ((wM ad cI cX) σ)) (F : Nat) (v1 : Int32) (v2 : Int32) (v3 : Int32) (v4 : Int32) (σ : xSt) (σ' : xSt) (h : mX9_putsIn F v1 v2 v3 v4 σ = some σ') : xM l yX9_putsIn cX9_putsIn 6 none ({ frames := 0, cells := 0, slots := 0, locals := 0 }) D (tyM cI cX) A (wM ad cI cX) [.ref (ad 0), .int v1, .int v2, .int v3, .int v4] σ (xQv D A (wM ad cI cX) σ') := by
  refine xM_of (lv := [(0, .ref (ad 0)), (1, .int v1), (2, .int v2), (3, .int v3), (4, .int v4)]) [.ref (ad 0), .int v1, .int v2, .int v3, .int v4] (by decide) hD rfl (Nat.le_of_ble_eq_true rfl) ?_
  intro p e s m args below meth c X hr hl
  unfold mX9_putsIn at h
  refine x_aload_n (pc := 0) X dX9_putsIn_0 rfl 0 rfl ?_
  refine gX9_49 (pc := 1) X dX9_putsIn_1 ?_
  refine x_iload_n (pc := 4) X dX9_putsIn_4 rfl 1 rfl ?_
  obtain ⟨hb5, h⟩ := xck_some h
  refine x_iald (pc := 5) X 14 0 (qaX9_many) rfl hb5 dX9_putsIn_5 ?_
  refine x_istore (pc := 6) (lv' := [(5, .int (xA σ 17 (Int32.toNatClampNeg v1))), (0, .ref (ad 0)), (1, .int v1), (2, .int v2), (3, .int v3), (4, .int v4)]) X dX9_putsIn_6 (by decide) rfl ?_
  refine x_sub [1, 2, 3, 4, 5, 0] rfl ?_
  exact wX9_putsIn_L8 X hr hl F F _ _ _ _ _ _ h
set_option maxRecDepth 100000 in
set_option maxHeartbeats 4000000 in
theorem wX9_fades_L71 {p : Program} {l : Launch} {e : Env} {s : State} {m : MethodId} {args : Array Value} {below : List Frame} {meth : Method} {c : Code} {D : va_G} {A : Nat → Prop} {ad : Nat → Nat} {cI cX : ClassId} {σ' : xSt} (X : xX p s m args c cX9_fades 3 RX9 D (tyM cI cX) A (wM ad cI cX)) (hr : meth.sig.returnType = none) (hl : meth.locks = false) (F : Nat) (σ : xSt) (h : mX9_fades_L71 F σ = some σ') : xG p l e ({ frames := 1, cells := 0, slots := 0, locals := 23 }) s m args below meth c (MQ below (xQv D A (wM ad cI cX) σ') args s 0 0 A) 3 D A (wM ad cI cX) σ 71 [] [] := by
  unfold mX9_fades_L71 at h
  exact x_vret (pc := 71) X hr hl h dX9_fades_71
set_option maxRecDepth 100000 in
set_option maxHeartbeats 4000000 in
theorem wX9_fades_S2 {p : Program} {l : Launch} {e : Env} {s : State} {m : MethodId} {args : Array Value} {below : List Frame} {meth : Method} {c : Code} {D : va_G} {A : Nat → Prop} {ad : Nat → Nat} {cI cX : ClassId} {σ' : xSt} {c2 : Int32 → Int32 → xSt → Option (xSt)} (X : xX p s m args c cX9_fades 3 RX9 D (tyM cI cX) A (wM ad cI cX)) (hr : meth.sig.returnType = none) (hl : meth.locks = false) (F : Nat) (hc2 : ∀ (v1 : Int32) (v2 : Int32) (σ : xSt), c2 v1 v2 σ = some σ' → xG p l e ({ frames := 1, cells := 0, slots := 0, locals := 23 }) s m args below meth c (MQ below (xQv D A (wM ad cI cX) σ') args s 0 0 A) 3 D A (wM ad cI cX) σ 2 [(0, .ref (ad 0)), (1, .int v1), (2, .int v2)] []) (v1 : Int32) (v2 : Int32) (σ : xSt) (h : mX9_fades_S2 F c2 v1 v2 σ = some σ') : xG p l e ({ frames := 1, cells := 0, slots := 0, locals := 23 }) s m args below meth c (MQ below (xQv D A (wM ad cI cX) σ') args s 0 0 A) 3 D A (wM ad cI cX) σ 2 [(0, .ref (ad 0)), (1, .int v1), (2, .int v2)] [] := by
  unfold mX9_fades_S2 at h
  refine x_iload_n (pc := 2) X dX9_fades_2 rfl 2 rfl ?_
  refine x_aload_n (pc := 3) X dX9_fades_3 rfl 0 rfl ?_
  refine gX9_49 (pc := 4) X dX9_fades_4 ?_
  refine x_iload_n (pc := 7) X dX9_fades_7 rfl 1 rfl ?_
  obtain ⟨hb8, h⟩ := xck_some h
  refine x_iald (pc := 8) X 14 0 (qaX9_many) rfl hb8 dX9_fades_8 ?_
  refine x_icmp_ge (pc := 9) X 71 dX9_fades_9 (by decide) (fun hc => ?_) (fun hc => ?_)
  · have h := xit hc h
    refine x_sub [] rfl ?_
    exact wX9_fades_L71 X hr hl F _ h
  · have h := xif hc h
    refine x_aload_n (pc := 12) X dX9_fades_12 rfl 0 rfl ?_
    refine gX9_55 (pc := 13) X dX9_fades_13 ?_
    refine x_bipush (pc := 16) (v := 6) X dX9_fades_16 (by decide) ?_
    refine x_iload_n (pc := 18) X dX9_fades_18 rfl 1 rfl ?_
    refine x_imul (pc := 19) X dX9_fades_19 ?_
    refine x_iload_n (pc := 20) X dX9_fades_20 rfl 2 rfl ?_
    refine x_iadd (pc := 21) X dX9_fades_21 ?_
    refine x_dup2 (pc := 22) X dX9_fades_22 rfl rfl ?_
    obtain ⟨hb23, h⟩ := xck_some h
    refine x_iald (pc := 23) X 16 0 (qaX9_howStrong) rfl hb23 dX9_fades_23 ?_
    refine x_aload_n (pc := 24) X dX9_fades_24 rfl 0 rfl ?_
    refine gX9_28 (pc := 25) X dX9_fades_25 ?_
    refine x_aload_n (pc := 28) X dX9_fades_28 rfl 0 rfl ?_
    refine gX9_52 (pc := 29) X dX9_fades_29 ?_
    refine x_bipush (pc := 32) (v := 6) X dX9_fades_32 (by decide) ?_
    refine x_iload_n (pc := 34) X dX9_fades_34 rfl 1 rfl ?_
    refine x_imul (pc := 35) X dX9_fades_35 ?_
    refine x_iload_n (pc := 36) X dX9_fades_36 rfl 2 rfl ?_
    refine x_iadd (pc := 37) X dX9_fades_37 ?_
    obtain ⟨hb38, h⟩ := xck_some h
    refine x_iald (pc := 38) X 15 0 (qaX9_ofWhom) rfl hb38 dX9_fades_38 ?_
    obtain ⟨hb39, h⟩ := xck_some h
    refine x_iald (pc := 39) X 7 0 (qaX9_fasts) rfl hb39 dX9_fades_39 ?_
    refine x_isub (pc := 40) X dX9_fades_40 ?_
    obtain ⟨hb41, h⟩ := xck_some h
    refine x_iast (pc := 41) (σ' := (xsA σ 19 (Int32.toNatClampNeg ((6 * v1) + v2)) ((xA σ 19 (Int32.toNatClampNeg ((6 * v1) + v2))) - (xA σ 8 (Int32.toNatClampNeg (xA σ 18 (Int32.toNatClampNeg ((6 * v1) + v2)))))))) X 16 0 (qaX9_howStrong) rfl (saX9_howStrong _) hb41 dX9_fades_41 ?_
    refine x_aload_n (pc := 42) X dX9_fades_42 rfl 0 rfl ?_
    refine gX9_55 (pc := 43) X dX9_fades_43 ?_
    refine x_bipush (pc := 46) (v := 6) X dX9_fades_46 (by decide) ?_
    refine x_iload_n (pc := 48) X dX9_fades_48 rfl 1 rfl ?_
    refine x_imul (pc := 49) X dX9_fades_49 ?_
    refine x_iload_n (pc := 50) X dX9_fades_50 rfl 2 rfl ?_
    refine x_iadd (pc := 51) X dX9_fades_51 ?_
    obtain ⟨hb52, h⟩ := xck_some h
    refine x_iald (pc := 52) X 16 0 (qaX9_howStrong) rfl hb52 dX9_fades_52 ?_
    refine x_if_gt (pc := 53) X 65 dX9_fades_53 (by decide) (fun hc => ?_) (fun hc => ?_)
    · have h := xit hc h
      refine x_iinc (pc := 65) (v := (v2 + 1)) (lv' := [(2, .int (v2 + 1)), (0, .ref (ad 0)), (1, .int v1)]) X dX9_fades_65 2 rfl rfl (by decide) rfl ?_
      refine x_goto (pc := 68) X 2 dX9_fades_68 (by decide) ?_
      refine x_sub [1, 2, 0] rfl ?_
      exact hc2 _ _ _ h
    · have h := xif hc h
      refine x_aload_n (pc := 56) X dX9_fades_56 rfl 0 rfl ?_
      refine x_iload_n (pc := 57) X dX9_fades_57 rfl 1 rfl ?_
      refine x_iload_n (pc := 58) X dX9_fades_58 rfl 2 rfl ?_
      obtain ⟨σ59, hq59, h⟩ := xb1_some h
      refine x_callvV (pc := 59) (As := [.int v1, .int v2]) (rest := []) X (kX9_takesOut l X.2.2.2.2.2.2.2 F _ _ _ _ hq59) kvX9_182 rfl (qX9) ⟨rfl, rfl, Nat.le_of_ble_eq_true rfl, Nat.le_of_ble_eq_true rfl⟩ rfl rfl (Nat.le_of_ble_eq_true rfl) dX9_fades_59 ?_
      refine x_goto (pc := 62) X 2 dX9_fades_62 (by decide) ?_
      refine x_sub [0, 1, 2] rfl ?_
      exact hc2 _ _ _ h
theorem wX9_fades_L2 {p : Program} {l : Launch} {e : Env} {s : State} {m : MethodId} {args : Array Value} {below : List Frame} {meth : Method} {c : Code} {D : va_G} {A : Nat → Prop} {ad : Nat → Nat} {cI cX : ClassId} {σ' : xSt} (X : xX p s m args c cX9_fades 3 RX9 D (tyM cI cX) A (wM ad cI cX)) (hr : meth.sig.returnType = none) (hl : meth.locks = false) (F : Nat) : ∀ (n : Nat) (v1 : Int32) (v2 : Int32) (σ : xSt), mX9_fades_L2 F n v1 v2 σ = some σ' → xG p l e ({ frames := 1, cells := 0, slots := 0, locals := 23 }) s m args below meth c (MQ below (xQv D A (wM ad cI cX) σ') args s 0 0 A) 3 D A (wM ad cI cX) σ 2 [(0, .ref (ad 0)), (1, .int v1), (2, .int v2)] [] := by
  intro n
  induction n with
  | zero => intro v1 v2 σ h; cases h
  | succ n ih => intro v1 v2 σ h; exact wX9_fades_S2 X hr hl F ih v1 v2 σ h
set_option maxRecDepth 100000 in
set_option maxHeartbeats 4000000 in
theorem kX9_fades (l : Launch) {D : va_G} {A : Nat → Prop} {ad : Nat → Nat} {cI cX : ClassId} (hD : ∀ σ, va_D A ((wM ad cI cX) σ)) (F : Nat) (v1 : Int32) (σ : xSt) (σ' : xSt) (h : mX9_fades F v1 σ = some σ') : xM l yX9_fades cX9_fades 3 none ({ frames := 1, cells := 0, slots := 0, locals := 23 }) D (tyM cI cX) A (wM ad cI cX) [.ref (ad 0), .int v1] σ (xQv D A (wM ad cI cX) σ') := by
  refine xM_of (lv := [(0, .ref (ad 0)), (1, .int v1)]) [.ref (ad 0), .int v1] (by decide) hD rfl (Nat.le_of_ble_eq_true rfl) ?_
  intro p e s m args below meth c X hr hl
  unfold mX9_fades at h
  refine x_iconst (pc := 0) (v := 0) X dX9_fades_0 (by decide) ?_
  refine x_istore_n (pc := 1) (lv' := [(2, .int 0), (0, .ref (ad 0)), (1, .int v1)]) X dX9_fades_1 rfl (by decide) rfl ?_
  refine x_sub [1, 2, 0] rfl ?_
  exact wX9_fades_L2 X hr hl F F _ _ _ h
set_option maxRecDepth 100000 in
set_option maxHeartbeats 4000000 in
theorem wX9_sits_L124 {p : Program} {l : Launch} {e : Env} {s : State} {m : MethodId} {args : Array Value} {below : List Frame} {meth : Method} {c : Code} {D : va_G} {A : Nat → Prop} {ad : Nat → Nat} {cI cX : ClassId} {σ' : xSt} (X : xX p s m args c cX9_sits 5 RX9 D (tyM cI cX) A (wM ad cI cX)) (hr : meth.sig.returnType = none) (hl : meth.locks = false) (F : Nat) (σ : xSt) (h : mX9_sits_L124 F σ = some σ') : xG p l e ({ frames := 2, cells := 0, slots := 0, locals := 43 }) s m args below meth c (MQ below (xQv D A (wM ad cI cX) σ') args s 0 0 A) 5 D A (wM ad cI cX) σ 124 [] [] := by
  unfold mX9_sits_L124 at h
  exact x_vret (pc := 124) X hr hl h dX9_sits_124
set_option maxRecDepth 100000 in
set_option maxHeartbeats 4000000 in
theorem wX9_sits_L121 {p : Program} {l : Launch} {e : Env} {s : State} {m : MethodId} {args : Array Value} {below : List Frame} {meth : Method} {c : Code} {D : va_G} {A : Nat → Prop} {ad : Nat → Nat} {cI cX : ClassId} {σ' : xSt} (X : xX p s m args c cX9_sits 5 RX9 D (tyM cI cX) A (wM ad cI cX)) (hr : meth.sig.returnType = none) (hl : meth.locks = false) (F : Nat) (t1 : Int32) (t2 : Int32) (σ : xSt) (h : mX9_sits_L121 F t1 t2 σ = some σ') : xG p l e ({ frames := 2, cells := 0, slots := 0, locals := 43 }) s m args below meth c (MQ below (xQv D A (wM ad cI cX) σ') args s 0 0 A) 5 D A (wM ad cI cX) σ 121 [] [.int t2, .int t1, .ref (ad 0)] := by
  unfold mX9_sits_L121 at h
  obtain ⟨σ121, hq121, h⟩ := xb1_some h
  refine x_callvV (pc := 121) (As := [.int t1, .int t2]) (rest := []) X (kX9_takesOut l X.2.2.2.2.2.2.2 F _ _ _ _ hq121) kvX9_182 rfl (qX9) ⟨rfl, rfl, Nat.le_of_ble_eq_true rfl, Nat.le_of_ble_eq_true rfl⟩ rfl rfl (Nat.le_of_ble_eq_true rfl) dX9_sits_121 ?_
  refine x_sub [] rfl ?_
  exact wX9_sits_L124 X hr hl F _ h
set_option maxRecDepth 100000 in
set_option maxHeartbeats 4000000 in
theorem wX9_sits_L72 {p : Program} {l : Launch} {e : Env} {s : State} {m : MethodId} {args : Array Value} {below : List Frame} {meth : Method} {c : Code} {D : va_G} {A : Nat → Prop} {ad : Nat → Nat} {cI cX : ClassId} {σ' : xSt} (X : xX p s m args c cX9_sits 5 RX9 D (tyM cI cX) A (wM ad cI cX)) (hr : meth.sig.returnType = none) (hl : meth.locks = false) (F : Nat) (v1 : Int32) (v2 : Int32) (v3 : Int32) (t1 : Int32) (t2 : Int32) (σ : xSt) (h : mX9_sits_L72 F v1 v2 v3 t1 t2 σ = some σ') : xG p l e ({ frames := 2, cells := 0, slots := 0, locals := 43 }) s m args below meth c (MQ below (xQv D A (wM ad cI cX) σ') args s 0 0 A) 5 D A (wM ad cI cX) σ 72 [(0, .ref (ad 0)), (1, .int v1), (2, .int v2), (3, .int v3)] [.int t2, .int t1, .ref (ad 0)] := by
  unfold mX9_sits_L72 at h
  refine x_iload_n (pc := 72) X dX9_sits_72 rfl 3 rfl ?_
  refine x_aload_n (pc := 73) X dX9_sits_73 rfl 0 rfl ?_
  refine gX9_25 (pc := 74) X dX9_sits_74 ?_
  refine x_iload_n (pc := 77) X dX9_sits_77 rfl 1 rfl ?_
  obtain ⟨hb78, h⟩ := xck_some h
  refine x_iald (pc := 78) X 6 0 (qaX9_strongs) rfl hb78 dX9_sits_78 ?_
  obtain ⟨σ79, hq79, h⟩ := xb1_some h
  refine x_callvV (pc := 79) (As := [.int t1, .int t2, .int v3, .int (xA σ 7 (Int32.toNatClampNeg v1))]) (rest := []) X (kX9_putsIn l X.2.2.2.2.2.2.2 F _ _ _ _ _ _ hq79) kvX9_186 rfl (qX9) ⟨rfl, rfl, Nat.le_of_ble_eq_true rfl, Nat.le_of_ble_eq_true rfl⟩ rfl rfl (Nat.le_of_ble_eq_true rfl) dX9_sits_79 ?_
  refine x_aload_n (pc := 82) X dX9_sits_82 rfl 0 rfl ?_
  refine gX9_49 (pc := 83) X dX9_sits_83 ?_
  refine x_iload_n (pc := 86) X dX9_sits_86 rfl 2 rfl ?_
  obtain ⟨hb87, h⟩ := xck_some h
  refine x_iald (pc := 87) X 14 0 (qaX9_many) rfl hb87 dX9_sits_87 ?_
  refine x_aload_n (pc := 88) X dX9_sits_88 rfl 0 rfl ?_
  refine gX9_16 (pc := 89) X dX9_sits_89 ?_
  refine x_iload_n (pc := 92) X dX9_sits_92 rfl 2 rfl ?_
  obtain ⟨hb93, h⟩ := xck_some h
  refine x_iald (pc := 93) X 3 0 (qaX9_keeps) rfl hb93 dX9_sits_93 ?_
  refine x_icmp_le (pc := 94) X 124 dX9_sits_94 (by decide) (fun hc => ?_) (fun hc => ?_)
  · have h := xit hc h
    refine x_sub [] rfl ?_
    exact wX9_sits_L124 X hr hl F _ h
  · have h := xif hc h
    refine x_aload_n (pc := 97) X dX9_sits_97 rfl 0 rfl ?_
    refine x_iload_n (pc := 98) X dX9_sits_98 rfl 2 rfl ?_
    refine x_aload_n (pc := 99) X dX9_sits_99 rfl 0 rfl ?_
    refine gX9_22 (pc := 100) X dX9_sits_100 ?_
    refine x_iload_n (pc := 103) X dX9_sits_103 rfl 2 rfl ?_
    obtain ⟨hb104, h⟩ := xck_some h
    refine x_iald (pc := 104) X 5 0 (qaX9_unders) rfl hb104 dX9_sits_104 ?_
    refine x_iconst (pc := 105) (v := 1) X dX9_sits_105 (by decide) ?_
    refine x_icmp_ne (pc := 106) X 113 dX9_sits_106 (by decide) (fun hc => ?_) (fun hc => ?_)
    · have h := xif hc h
      refine x_aload_n (pc := 113) X dX9_sits_113 rfl 0 rfl ?_
      refine gX9_49 (pc := 114) X dX9_sits_114 ?_
      refine x_iload_n (pc := 117) X dX9_sits_117 rfl 2 rfl ?_
      obtain ⟨hb118, h⟩ := xck_some h
      refine x_iald (pc := 118) X 14 0 (qaX9_many) rfl hb118 dX9_sits_118 ?_
      refine x_iconst (pc := 119) (v := 1) X dX9_sits_119 (by decide) ?_
      refine x_isub (pc := 120) X dX9_sits_120 ?_
      refine x_sub [] rfl ?_
      exact wX9_sits_L121 X hr hl F _ _ _ h
    · have h := xit hc h
      refine x_iconst (pc := 109) (v := 0) X dX9_sits_109 (by decide) ?_
      refine x_goto (pc := 110) X 121 dX9_sits_110 (by decide) ?_
      refine x_sub [] rfl ?_
      exact wX9_sits_L121 X hr hl F _ _ _ h
set_option maxRecDepth 100000 in
set_option maxHeartbeats 4000000 in
theorem wX9_sits_L50 {p : Program} {l : Launch} {e : Env} {s : State} {m : MethodId} {args : Array Value} {below : List Frame} {meth : Method} {c : Code} {D : va_G} {A : Nat → Prop} {ad : Nat → Nat} {cI cX : ClassId} {σ' : xSt} (X : xX p s m args c cX9_sits 5 RX9 D (tyM cI cX) A (wM ad cI cX)) (hr : meth.sig.returnType = none) (hl : meth.locks = false) (F : Nat) (v1 : Int32) (v2 : Int32) (v3 : Int32) (σ : xSt) (h : mX9_sits_L50 F v1 v2 v3 σ = some σ') : xG p l e ({ frames := 2, cells := 0, slots := 0, locals := 43 }) s m args below meth c (MQ below (xQv D A (wM ad cI cX) σ') args s 0 0 A) 5 D A (wM ad cI cX) σ 50 [(0, .ref (ad 0)), (1, .int v1), (2, .int v2), (3, .int v3)] [] := by
  unfold mX9_sits_L50 at h
  refine x_aload_n (pc := 50) X dX9_sits_50 rfl 0 rfl ?_
  refine x_iload_n (pc := 51) X dX9_sits_51 rfl 2 rfl ?_
  refine x_aload_n (pc := 52) X dX9_sits_52 rfl 0 rfl ?_
  refine gX9_22 (pc := 53) X dX9_sits_53 ?_
  refine x_iload_n (pc := 56) X dX9_sits_56 rfl 2 rfl ?_
  obtain ⟨hb57, h⟩ := xck_some h
  refine x_iald (pc := 57) X 5 0 (qaX9_unders) rfl hb57 dX9_sits_57 ?_
  refine x_iconst (pc := 58) (v := 1) X dX9_sits_58 (by decide) ?_
  refine x_icmp_ne (pc := 59) X 71 dX9_sits_59 (by decide) (fun hc => ?_) (fun hc => ?_)
  · have h := xif hc h
    refine x_iconst (pc := 71) (v := 0) X dX9_sits_71 (by decide) ?_
    refine x_sub [0, 1, 2, 3] rfl ?_
    exact wX9_sits_L72 X hr hl F _ _ _ _ _ _ h
  · have h := xit hc h
    refine x_aload_n (pc := 62) X dX9_sits_62 rfl 0 rfl ?_
    refine gX9_49 (pc := 63) X dX9_sits_63 ?_
    refine x_iload_n (pc := 66) X dX9_sits_66 rfl 2 rfl ?_
    obtain ⟨hb67, h⟩ := xck_some h
    refine x_iald (pc := 67) X 14 0 (qaX9_many) rfl hb67 dX9_sits_67 ?_
    refine x_goto (pc := 68) X 72 dX9_sits_68 (by decide) ?_
    refine x_sub [0, 1, 2, 3] rfl ?_
    exact wX9_sits_L72 X hr hl F _ _ _ _ _ _ h
set_option maxRecDepth 100000 in
set_option maxHeartbeats 4000000 in
theorem wX9_sits_L44 {p : Program} {l : Launch} {e : Env} {s : State} {m : MethodId} {args : Array Value} {below : List Frame} {meth : Method} {c : Code} {D : va_G} {A : Nat → Prop} {ad : Nat → Nat} {cI cX : ClassId} {σ' : xSt} {c16 : Int32 → Int32 → Int32 → Int32 → xSt → Option (xSt)} (X : xX p s m args c cX9_sits 5 RX9 D (tyM cI cX) A (wM ad cI cX)) (hr : meth.sig.returnType = none) (hl : meth.locks = false) (F : Nat) (hc16 : ∀ (v1 : Int32) (v2 : Int32) (v3 : Int32) (v4 : Int32) (σ : xSt), c16 v1 v2 v3 v4 σ = some σ' → xG p l e ({ frames := 2, cells := 0, slots := 0, locals := 43 }) s m args below meth c (MQ below (xQv D A (wM ad cI cX) σ') args s 0 0 A) 5 D A (wM ad cI cX) σ 16 [(0, .ref (ad 0)), (1, .int v1), (2, .int v2), (3, .int v3), (4, .int v4)] []) (v1 : Int32) (v2 : Int32) (v3 : Int32) (v4 : Int32) (σ : xSt) (h : mX9_sits_L44 F c16 v1 v2 v3 v4 σ = some σ') : xG p l e ({ frames := 2, cells := 0, slots := 0, locals := 43 }) s m args below meth c (MQ below (xQv D A (wM ad cI cX) σ') args s 0 0 A) 5 D A (wM ad cI cX) σ 44 [(0, .ref (ad 0)), (1, .int v1), (2, .int v2), (3, .int v3), (4, .int v4)] [] := by
  unfold mX9_sits_L44 at h
  refine x_iinc (pc := 44) (v := (v4 + (-1))) (lv' := [(4, .int (v4 + (-1))), (0, .ref (ad 0)), (1, .int v1), (2, .int v2), (3, .int v3)]) X dX9_sits_44 4 rfl rfl (by decide) rfl ?_
  refine x_goto (pc := 47) X 16 dX9_sits_47 (by decide) ?_
  refine x_sub [1, 2, 3, 4, 0] rfl ?_
  exact hc16 _ _ _ _ _ h
set_option maxRecDepth 100000 in
set_option maxHeartbeats 4000000 in
theorem wX9_sits_S16 {p : Program} {l : Launch} {e : Env} {s : State} {m : MethodId} {args : Array Value} {below : List Frame} {meth : Method} {c : Code} {D : va_G} {A : Nat → Prop} {ad : Nat → Nat} {cI cX : ClassId} {σ' : xSt} {c16 : Int32 → Int32 → Int32 → Int32 → xSt → Option (xSt)} (X : xX p s m args c cX9_sits 5 RX9 D (tyM cI cX) A (wM ad cI cX)) (hr : meth.sig.returnType = none) (hl : meth.locks = false) (F : Nat) (hc16 : ∀ (v1 : Int32) (v2 : Int32) (v3 : Int32) (v4 : Int32) (σ : xSt), c16 v1 v2 v3 v4 σ = some σ' → xG p l e ({ frames := 2, cells := 0, slots := 0, locals := 43 }) s m args below meth c (MQ below (xQv D A (wM ad cI cX) σ') args s 0 0 A) 5 D A (wM ad cI cX) σ 16 [(0, .ref (ad 0)), (1, .int v1), (2, .int v2), (3, .int v3), (4, .int v4)] []) (v1 : Int32) (v2 : Int32) (v3 : Int32) (v4 : Int32) (σ : xSt) (h : mX9_sits_S16 F c16 v1 v2 v3 v4 σ = some σ') : xG p l e ({ frames := 2, cells := 0, slots := 0, locals := 43 }) s m args below meth c (MQ below (xQv D A (wM ad cI cX) σ') args s 0 0 A) 5 D A (wM ad cI cX) σ 16 [(0, .ref (ad 0)), (1, .int v1), (2, .int v2), (3, .int v3), (4, .int v4)] [] := by
  unfold mX9_sits_S16 at h
  refine x_iload (pc := 16) X dX9_sits_16 4 rfl ?_
  refine x_if_lt (pc := 18) X 50 dX9_sits_18 (by decide) (fun hc => ?_) (fun hc => ?_)
  · have h := xit hc h
    refine x_sub [0, 1, 2, 3] rfl ?_
    exact wX9_sits_L50 X hr hl F _ _ _ _ h
  · have h := xif hc h
    refine x_aload_n (pc := 21) X dX9_sits_21 rfl 0 rfl ?_
    refine gX9_52 (pc := 22) X dX9_sits_22 ?_
    refine x_bipush (pc := 25) (v := 6) X dX9_sits_25 (by decide) ?_
    refine x_iload_n (pc := 27) X dX9_sits_27 rfl 2 rfl ?_
    refine x_imul (pc := 28) X dX9_sits_28 ?_
    refine x_iload (pc := 29) X dX9_sits_29 4 rfl ?_
    refine x_iadd (pc := 31) X dX9_sits_31 ?_
    obtain ⟨hb32, h⟩ := xck_some h
    refine x_iald (pc := 32) X 15 0 (qaX9_ofWhom) rfl hb32 dX9_sits_32 ?_
    refine x_iload_n (pc := 33) X dX9_sits_33 rfl 3 rfl ?_
    refine x_icmp_ne (pc := 34) X 44 dX9_sits_34 (by decide) (fun hc => ?_) (fun hc => ?_)
    · have h := xif hc h
      refine x_sub [0, 1, 2, 3, 4] rfl ?_
      exact wX9_sits_L44 X hr hl F hc16 _ _ _ _ _ h
    · have h := xit hc h
      refine x_aload_n (pc := 37) X dX9_sits_37 rfl 0 rfl ?_
      refine x_iload_n (pc := 38) X dX9_sits_38 rfl 2 rfl ?_
      refine x_iload (pc := 39) X dX9_sits_39 4 rfl ?_
      obtain ⟨σ41, hq41, h⟩ := xb1_some h
      refine x_callvV (pc := 41) (As := [.int v2, .int v4]) (rest := []) X (kX9_takesOut l X.2.2.2.2.2.2.2 F _ _ _ _ hq41) kvX9_182 rfl (qX9) ⟨rfl, rfl, Nat.le_of_ble_eq_true rfl, Nat.le_of_ble_eq_true rfl⟩ rfl rfl (Nat.le_of_ble_eq_true rfl) dX9_sits_41 ?_
      refine x_sub [0, 1, 2, 3, 4] rfl ?_
      exact wX9_sits_L44 X hr hl F hc16 _ _ _ _ _ h
theorem wX9_sits_L16 {p : Program} {l : Launch} {e : Env} {s : State} {m : MethodId} {args : Array Value} {below : List Frame} {meth : Method} {c : Code} {D : va_G} {A : Nat → Prop} {ad : Nat → Nat} {cI cX : ClassId} {σ' : xSt} (X : xX p s m args c cX9_sits 5 RX9 D (tyM cI cX) A (wM ad cI cX)) (hr : meth.sig.returnType = none) (hl : meth.locks = false) (F : Nat) : ∀ (n : Nat) (v1 : Int32) (v2 : Int32) (v3 : Int32) (v4 : Int32) (σ : xSt), mX9_sits_L16 F n v1 v2 v3 v4 σ = some σ' → xG p l e ({ frames := 2, cells := 0, slots := 0, locals := 43 }) s m args below meth c (MQ below (xQv D A (wM ad cI cX) σ') args s 0 0 A) 5 D A (wM ad cI cX) σ 16 [(0, .ref (ad 0)), (1, .int v1), (2, .int v2), (3, .int v3), (4, .int v4)] [] := by
  intro n
  induction n with
  | zero => intro v1 v2 v3 v4 σ h; cases h
  | succ n ih => intro v1 v2 v3 v4 σ h; exact wX9_sits_S16 X hr hl F ih v1 v2 v3 v4 σ h
set_option maxRecDepth 100000 in
set_option maxHeartbeats 4000000 in
theorem kX9_sits (l : Launch) {D : va_G} {A : Nat → Prop} {ad : Nat → Nat} {cI cX : ClassId} (hD : ∀ σ, va_D A ((wM ad cI cX) σ)) (F : Nat) (v1 : Int32) (v2 : Int32) (σ : xSt) (σ' : xSt) (h : mX9_sits F v1 v2 σ = some σ') : xM l yX9_sits cX9_sits 5 none ({ frames := 2, cells := 0, slots := 0, locals := 43 }) D (tyM cI cX) A (wM ad cI cX) [.ref (ad 0), .int v1, .int v2] σ (xQv D A (wM ad cI cX) σ') := by
  refine xM_of (lv := [(0, .ref (ad 0)), (1, .int v1), (2, .int v2)]) [.ref (ad 0), .int v1, .int v2] (by decide) hD rfl (Nat.le_of_ble_eq_true rfl) ?_
  intro p e s m args below meth c X hr hl
  unfold mX9_sits at h
  refine x_aload_n (pc := 0) X dX9_sits_0 rfl 0 rfl ?_
  refine x_iload_n (pc := 1) X dX9_sits_1 rfl 1 rfl ?_
  obtain ⟨r2, σ2, hq2, h⟩ := xb2_some h
  refine x_calliV (pc := 2) (As := [.int v1]) (rest := []) X (kX9_smellOf l X.2.2.2.2.2.2.2 F _ _ _ _ hq2) kvX9_133 rfl (qX9) ⟨rfl, rfl, Nat.le_of_ble_eq_true rfl, Nat.le_of_ble_eq_true rfl⟩ rfl rfl (Nat.le_of_ble_eq_true rfl) dX9_sits_2 ?_
  refine x_istore_n (pc := 5) (lv' := [(3, .int r2), (0, .ref (ad 0)), (1, .int v1), (2, .int v2)]) X dX9_sits_5 rfl (by decide) rfl ?_
  refine x_aload_n (pc := 6) X dX9_sits_6 rfl 1 rfl ?_
  refine gX9_49 (pc := 7) X dX9_sits_7 ?_
  refine x_iload_n (pc := 10) X dX9_sits_10 rfl 3 rfl ?_
  obtain ⟨hb11, h⟩ := xck_some h
  refine x_iald (pc := 11) X 14 0 (qaX9_many) rfl hb11 dX9_sits_11 ?_
  refine x_iconst (pc := 12) (v := 1) X dX9_sits_12 (by decide) ?_
  refine x_isub (pc := 13) X dX9_sits_13 ?_
  refine x_istore (pc := 14) (lv' := [(4, .int ((xA σ2 17 (Int32.toNatClampNeg v2)) - 1)), (3, .int r2), (0, .ref (ad 0)), (1, .int v1), (2, .int v2)]) X dX9_sits_14 (by decide) rfl ?_
  refine x_sub [2, 3, 4, 1, 0] rfl ?_
  exact wX9_sits_L16 X hr hl F F _ _ _ _ _ h
set_option maxRecDepth 100000 in
set_option maxHeartbeats 4000000 in
theorem wX9_airs_L15 {p : Program} {l : Launch} {e : Env} {s : State} {m : MethodId} {args : Array Value} {below : List Frame} {meth : Method} {c : Code} {D : va_G} {A : Nat → Prop} {ad : Nat → Nat} {cI cX : ClassId} {σ' : xSt} (X : xX p s m args c cX9_airs 2 RX9 D (tyM cI cX) A (wM ad cI cX)) (hr : meth.sig.returnType = none) (hl : meth.locks = false) (F : Nat) (σ : xSt) (h : mX9_airs_L15 F σ = some σ') : xG p l e ({ frames := 1, cells := 0, slots := 0, locals := 23 }) s m args below meth c (MQ below (xQv D A (wM ad cI cX) σ') args s 0 0 A) 2 D A (wM ad cI cX) σ 15 [] [] := by
  unfold mX9_airs_L15 at h
  exact x_vret (pc := 15) X hr hl h dX9_airs_15
set_option maxRecDepth 100000 in
set_option maxHeartbeats 4000000 in
theorem kX9_airs (l : Launch) {D : va_G} {A : Nat → Prop} {ad : Nat → Nat} {cI cX : ClassId} (hD : ∀ σ, va_D A ((wM ad cI cX) σ)) (F : Nat) (v1 : Int32) (σ : xSt) (σ' : xSt) (h : mX9_airs F v1 σ = some σ') : xM l yX9_airs cX9_airs 2 none ({ frames := 1, cells := 0, slots := 0, locals := 23 }) D (tyM cI cX) A (wM ad cI cX) [.ref (ad 0), .int v1] σ (xQv D A (wM ad cI cX) σ') := by
  refine xM_of (lv := [(0, .ref (ad 0)), (1, .int v1)]) [.ref (ad 0), .int v1] (by decide) hD rfl (Nat.le_of_ble_eq_true rfl) ?_
  intro p e s m args below meth c X hr hl
  unfold mX9_airs at h
  refine x_aload_n (pc := 0) X dX9_airs_0 rfl 0 rfl ?_
  refine gX9_49 (pc := 1) X dX9_airs_1 ?_
  refine x_iload_n (pc := 4) X dX9_airs_4 rfl 1 rfl ?_
  obtain ⟨hb5, h⟩ := xck_some h
  refine x_iald (pc := 5) X 14 0 (qaX9_many) rfl hb5 dX9_airs_5 ?_
  refine x_if_le (pc := 6) X 15 dX9_airs_6 (by decide) (fun hc => ?_) (fun hc => ?_)
  · have h := xit hc h
    refine x_sub [] rfl ?_
    exact wX9_airs_L15 X hr hl F _ h
  · have h := xif hc h
    refine x_aload_n (pc := 9) X dX9_airs_9 rfl 0 rfl ?_
    refine x_iload_n (pc := 10) X dX9_airs_10 rfl 1 rfl ?_
    refine x_iconst (pc := 11) (v := 0) X dX9_airs_11 (by decide) ?_
    obtain ⟨σ12, hq12, h⟩ := xb1_some h
    refine x_callvV (pc := 12) (As := [.int v1, .int 0]) (rest := []) X (kX9_takesOut l X.2.2.2.2.2.2.2 F _ _ _ _ hq12) kvX9_182 rfl (qX9) ⟨rfl, rfl, Nat.le_of_ble_eq_true rfl, Nat.le_of_ble_eq_true rfl⟩ rfl rfl (Nat.le_of_ble_eq_true rfl) dX9_airs_12 ?_
    refine x_sub [] rfl ?_
    exact wX9_airs_L15 X hr hl F _ h
set_option maxRecDepth 100000 in
set_option maxHeartbeats 4000000 in
theorem wX9_goesBy_L157 {p : Program} {l : Launch} {e : Env} {s : State} {m : MethodId} {args : Array Value} {below : List Frame} {meth : Method} {c : Code} {D : va_G} {A : Nat → Prop} {ad : Nat → Nat} {cI cX : ClassId} {σ' : xSt} (X : xX p s m args c cX9_goesBy 3 RX9 D (tyM cI cX) A (wM ad cI cX)) (hr : meth.sig.returnType = none) (hl : meth.locks = false) (F : Nat) (σ : xSt) (h : mX9_goesBy_L157 F σ = some σ') : xG p l e ({ frames := 3, cells := 0, slots := 0, locals := 67 }) s m args below meth c (MQ below (xQv D A (wM ad cI cX) σ') args s 0 0 A) 3 D A (wM ad cI cX) σ 157 [] [] := by
  unfold mX9_goesBy_L157 at h
  exact x_vret (pc := 157) X hr hl h dX9_goesBy_157
set_option maxRecDepth 100000 in
set_option maxHeartbeats 4000000 in
theorem wX9_goesBy_L138 {p : Program} {l : Launch} {e : Env} {s : State} {m : MethodId} {args : Array Value} {below : List Frame} {meth : Method} {c : Code} {D : va_G} {A : Nat → Prop} {ad : Nat → Nat} {cI cX : ClassId} {σ' : xSt} (X : xX p s m args c cX9_goesBy 3 RX9 D (tyM cI cX) A (wM ad cI cX)) (hr : meth.sig.returnType = none) (hl : meth.locks = false) (F : Nat) (v1 : Int32) (σ : xSt) (h : mX9_goesBy_L138 F v1 σ = some σ') : xG p l e ({ frames := 3, cells := 0, slots := 0, locals := 67 }) s m args below meth c (MQ below (xQv D A (wM ad cI cX) σ') args s 0 0 A) 3 D A (wM ad cI cX) σ 138 [(0, .ref (ad 0)), (1, .int v1)] [] := by
  unfold mX9_goesBy_L138 at h
  refine x_aload_n (pc := 138) X dX9_goesBy_138 rfl 0 rfl ?_
  refine gX9_176 (pc := 139) X dX9_goesBy_139 ?_
  refine x_iload_n (pc := 142) X dX9_goesBy_142 rfl 1 rfl ?_
  obtain ⟨r143, σ143, hq143, h⟩ := xb2_some h
  refine x_calliS (pc := 143) (As := [.int (xI σ 22), .int v1]) (rest := []) X (kX9_isIn l X.2.2.2.2.2.2.2 F _ _ _ _ _ hq143) kvX9_199 ⟨rfl, rfl, Nat.le_of_ble_eq_true rfl, Nat.le_of_ble_eq_true rfl⟩ rfl rfl (Nat.le_of_ble_eq_true rfl) dX9_goesBy_143 ?_
  refine x_if_eq (pc := 146) X 157 dX9_goesBy_146 (by decide) (fun hc => ?_) (fun hc => ?_)
  · have h := xit hc h
    refine x_sub [] rfl ?_
    exact wX9_goesBy_L157 X hr hl F _ h
  · have h := xif hc h
    refine x_aload_n (pc := 149) X dX9_goesBy_149 rfl 0 rfl ?_
    refine x_aload_n (pc := 150) X dX9_goesBy_150 rfl 0 rfl ?_
    refine gX9_179 (pc := 151) X dX9_goesBy_151 ?_
    obtain ⟨σ154, hq154, h⟩ := xb1_some h
    refine x_callvV (pc := 154) (As := [.int (xI σ143 23)]) (rest := []) X (kX9_airs l X.2.2.2.2.2.2.2 F _ _ _ hq154) kvX9_196 rfl (qX9) ⟨rfl, rfl, Nat.le_of_ble_eq_true rfl, Nat.le_of_ble_eq_true rfl⟩ rfl rfl (Nat.le_of_ble_eq_true rfl) dX9_goesBy_154 ?_
    refine x_sub [] rfl ?_
    exact wX9_goesBy_L157 X hr hl F _ h
set_option maxRecDepth 100000 in
set_option maxHeartbeats 4000000 in
theorem wX9_goesBy_L132 {p : Program} {l : Launch} {e : Env} {s : State} {m : MethodId} {args : Array Value} {below : List Frame} {meth : Method} {c : Code} {D : va_G} {A : Nat → Prop} {ad : Nat → Nat} {cI cX : ClassId} {σ' : xSt} {c91 : Int32 → Int32 → xSt → Option (xSt)} (X : xX p s m args c cX9_goesBy 3 RX9 D (tyM cI cX) A (wM ad cI cX)) (hr : meth.sig.returnType = none) (hl : meth.locks = false) (F : Nat) (hc91 : ∀ (v1 : Int32) (v2 : Int32) (σ : xSt), c91 v1 v2 σ = some σ' → xG p l e ({ frames := 3, cells := 0, slots := 0, locals := 67 }) s m args below meth c (MQ below (xQv D A (wM ad cI cX) σ') args s 0 0 A) 3 D A (wM ad cI cX) σ 91 [(0, .ref (ad 0)), (1, .int v1), (2, .int v2)] []) (v1 : Int32) (v2 : Int32) (σ : xSt) (h : mX9_goesBy_L132 F c91 v1 v2 σ = some σ') : xG p l e ({ frames := 3, cells := 0, slots := 0, locals := 67 }) s m args below meth c (MQ below (xQv D A (wM ad cI cX) σ') args s 0 0 A) 3 D A (wM ad cI cX) σ 132 [(0, .ref (ad 0)), (1, .int v1), (2, .int v2)] [] := by
  unfold mX9_goesBy_L132 at h
  refine x_iinc (pc := 132) (v := (v2 + 1)) (lv' := [(2, .int (v2 + 1)), (0, .ref (ad 0)), (1, .int v1)]) X dX9_goesBy_132 2 rfl rfl (by decide) rfl ?_
  refine x_goto (pc := 135) X 91 dX9_goesBy_135 (by decide) ?_
  refine x_sub [1, 2, 0] rfl ?_
  exact hc91 _ _ _ h
set_option maxRecDepth 100000 in
set_option maxHeartbeats 4000000 in
theorem wX9_goesBy_S91 {p : Program} {l : Launch} {e : Env} {s : State} {m : MethodId} {args : Array Value} {below : List Frame} {meth : Method} {c : Code} {D : va_G} {A : Nat → Prop} {ad : Nat → Nat} {cI cX : ClassId} {σ' : xSt} {c91 : Int32 → Int32 → xSt → Option (xSt)} (X : xX p s m args c cX9_goesBy 3 RX9 D (tyM cI cX) A (wM ad cI cX)) (hr : meth.sig.returnType = none) (hl : meth.locks = false) (F : Nat) (hc91 : ∀ (v1 : Int32) (v2 : Int32) (σ : xSt), c91 v1 v2 σ = some σ' → xG p l e ({ frames := 3, cells := 0, slots := 0, locals := 67 }) s m args below meth c (MQ below (xQv D A (wM ad cI cX) σ') args s 0 0 A) 3 D A (wM ad cI cX) σ 91 [(0, .ref (ad 0)), (1, .int v1), (2, .int v2)] []) (v1 : Int32) (v2 : Int32) (σ : xSt) (h : mX9_goesBy_S91 F c91 v1 v2 σ = some σ') : xG p l e ({ frames := 3, cells := 0, slots := 0, locals := 67 }) s m args below meth c (MQ below (xQv D A (wM ad cI cX) σ') args s 0 0 A) 3 D A (wM ad cI cX) σ 91 [(0, .ref (ad 0)), (1, .int v1), (2, .int v2)] [] := by
  unfold mX9_goesBy_S91 at h
  refine x_iload_n (pc := 91) X dX9_goesBy_91 rfl 2 rfl ?_
  refine x_aload_n (pc := 92) X dX9_goesBy_92 rfl 0 rfl ?_
  refine gX9_173 (pc := 93) X dX9_goesBy_93 ?_
  refine x_icmp_ge (pc := 96) X 138 dX9_goesBy_96 (by decide) (fun hc => ?_) (fun hc => ?_)
  · have h := xit hc h
    refine x_sub [0, 1] rfl ?_
    exact wX9_goesBy_L138 X hr hl F _ _ h
  · have h := xif hc h
    refine x_aload_n (pc := 99) X dX9_goesBy_99 rfl 0 rfl ?_
    refine gX9_43 (pc := 100) X dX9_goesBy_100 ?_
    refine x_iload_n (pc := 103) X dX9_goesBy_103 rfl 2 rfl ?_
    obtain ⟨hb104, h⟩ := xck_some h
    refine x_iald (pc := 104) X 12 0 (qaX9_winHour) rfl hb104 dX9_goesBy_104 ?_
    refine x_iload_n (pc := 105) X dX9_goesBy_105 rfl 1 rfl ?_
    refine x_icmp_ne (pc := 106) X 132 dX9_goesBy_106 (by decide) (fun hc => ?_) (fun hc => ?_)
    · have h := xif hc h
      refine x_sub [0, 1, 2] rfl ?_
      exact wX9_goesBy_L132 X hr hl F hc91 _ _ _ h
    · have h := xit hc h
      refine x_aload_n (pc := 109) X dX9_goesBy_109 rfl 0 rfl ?_
      refine gX9_46 (pc := 110) X dX9_goesBy_110 ?_
      refine x_iload_n (pc := 113) X dX9_goesBy_113 rfl 2 rfl ?_
      obtain ⟨hb114, h⟩ := xck_some h
      refine x_iald (pc := 114) X 13 0 (qaX9_winThing) rfl hb114 dX9_goesBy_114 ?_
      refine x_aload_n (pc := 115) X dX9_goesBy_115 rfl 0 rfl ?_
      refine gX9_109 (pc := 116) X dX9_goesBy_116 ?_
      refine x_icmp_ge (pc := 119) X 132 dX9_goesBy_119 (by decide) (fun hc => ?_) (fun hc => ?_)
      · have h := xit hc h
        refine x_sub [0, 1, 2] rfl ?_
        exact wX9_goesBy_L132 X hr hl F hc91 _ _ _ h
      · have h := xif hc h
        refine x_aload_n (pc := 122) X dX9_goesBy_122 rfl 0 rfl ?_
        refine x_aload_n (pc := 123) X dX9_goesBy_123 rfl 0 rfl ?_
        refine gX9_46 (pc := 124) X dX9_goesBy_124 ?_
        refine x_iload_n (pc := 127) X dX9_goesBy_127 rfl 2 rfl ?_
        obtain ⟨hb128, h⟩ := xck_some h
        refine x_iald (pc := 128) X 13 0 (qaX9_winThing) rfl hb128 dX9_goesBy_128 ?_
        obtain ⟨σ129, hq129, h⟩ := xb1_some h
        refine x_callvV (pc := 129) (As := [.int (xA σ 16 (Int32.toNatClampNeg v2))]) (rest := []) X (kX9_airs l X.2.2.2.2.2.2.2 F _ _ _ hq129) kvX9_196 rfl (qX9) ⟨rfl, rfl, Nat.le_of_ble_eq_true rfl, Nat.le_of_ble_eq_true rfl⟩ rfl rfl (Nat.le_of_ble_eq_true rfl) dX9_goesBy_129 ?_
        refine x_sub [0, 1, 2] rfl ?_
        exact wX9_goesBy_L132 X hr hl F hc91 _ _ _ h
theorem wX9_goesBy_L91 {p : Program} {l : Launch} {e : Env} {s : State} {m : MethodId} {args : Array Value} {below : List Frame} {meth : Method} {c : Code} {D : va_G} {A : Nat → Prop} {ad : Nat → Nat} {cI cX : ClassId} {σ' : xSt} (X : xX p s m args c cX9_goesBy 3 RX9 D (tyM cI cX) A (wM ad cI cX)) (hr : meth.sig.returnType = none) (hl : meth.locks = false) (F : Nat) : ∀ (n : Nat) (v1 : Int32) (v2 : Int32) (σ : xSt), mX9_goesBy_L91 F n v1 v2 σ = some σ' → xG p l e ({ frames := 3, cells := 0, slots := 0, locals := 67 }) s m args below meth c (MQ below (xQv D A (wM ad cI cX) σ') args s 0 0 A) 3 D A (wM ad cI cX) σ 91 [(0, .ref (ad 0)), (1, .int v1), (2, .int v2)] [] := by
  intro n
  induction n with
  | zero => intro v1 v2 σ h; cases h
  | succ n ih => intro v1 v2 σ h; exact wX9_goesBy_S91 X hr hl F ih v1 v2 σ h
set_option maxRecDepth 100000 in
set_option maxHeartbeats 4000000 in
theorem wX9_goesBy_L89 {p : Program} {l : Launch} {e : Env} {s : State} {m : MethodId} {args : Array Value} {below : List Frame} {meth : Method} {c : Code} {D : va_G} {A : Nat → Prop} {ad : Nat → Nat} {cI cX : ClassId} {σ' : xSt} (X : xX p s m args c cX9_goesBy 3 RX9 D (tyM cI cX) A (wM ad cI cX)) (hr : meth.sig.returnType = none) (hl : meth.locks = false) (F : Nat) (v1 : Int32) (σ : xSt) (h : mX9_goesBy_L89 F v1 σ = some σ') : xG p l e ({ frames := 3, cells := 0, slots := 0, locals := 67 }) s m args below meth c (MQ below (xQv D A (wM ad cI cX) σ') args s 0 0 A) 3 D A (wM ad cI cX) σ 89 [(0, .ref (ad 0)), (1, .int v1)] [] := by
  unfold mX9_goesBy_L89 at h
  refine x_iconst (pc := 89) (v := 0) X dX9_goesBy_89 (by decide) ?_
  refine x_istore_n (pc := 90) (lv' := [(2, .int 0), (0, .ref (ad 0)), (1, .int v1)]) X dX9_goesBy_90 rfl (by decide) rfl ?_
  refine x_sub [1, 2, 0] rfl ?_
  exact wX9_goesBy_L91 X hr hl F F _ _ _ h
set_option maxRecDepth 100000 in
set_option maxHeartbeats 4000000 in
theorem wX9_goesBy_L83 {p : Program} {l : Launch} {e : Env} {s : State} {m : MethodId} {args : Array Value} {below : List Frame} {meth : Method} {c : Code} {D : va_G} {A : Nat → Prop} {ad : Nat → Nat} {cI cX : ClassId} {σ' : xSt} {c23 : Int32 → Int32 → xSt → Option (xSt)} (X : xX p s m args c cX9_goesBy 3 RX9 D (tyM cI cX) A (wM ad cI cX)) (hr : meth.sig.returnType = none) (hl : meth.locks = false) (F : Nat) (hc23 : ∀ (v1 : Int32) (v2 : Int32) (σ : xSt), c23 v1 v2 σ = some σ' → xG p l e ({ frames := 3, cells := 0, slots := 0, locals := 67 }) s m args below meth c (MQ below (xQv D A (wM ad cI cX) σ') args s 0 0 A) 3 D A (wM ad cI cX) σ 23 [(0, .ref (ad 0)), (1, .int v1), (2, .int v2)] []) (v1 : Int32) (v2 : Int32) (σ : xSt) (h : mX9_goesBy_L83 F c23 v1 v2 σ = some σ') : xG p l e ({ frames := 3, cells := 0, slots := 0, locals := 67 }) s m args below meth c (MQ below (xQv D A (wM ad cI cX) σ') args s 0 0 A) 3 D A (wM ad cI cX) σ 83 [(0, .ref (ad 0)), (1, .int v1), (2, .int v2)] [] := by
  unfold mX9_goesBy_L83 at h
  refine x_iinc (pc := 83) (v := (v2 + 1)) (lv' := [(2, .int (v2 + 1)), (0, .ref (ad 0)), (1, .int v1)]) X dX9_goesBy_83 2 rfl rfl (by decide) rfl ?_
  refine x_goto (pc := 86) X 23 dX9_goesBy_86 (by decide) ?_
  refine x_sub [1, 2, 0] rfl ?_
  exact hc23 _ _ _ h
set_option maxRecDepth 100000 in
set_option maxHeartbeats 4000000 in
theorem wX9_goesBy_S23 {p : Program} {l : Launch} {e : Env} {s : State} {m : MethodId} {args : Array Value} {below : List Frame} {meth : Method} {c : Code} {D : va_G} {A : Nat → Prop} {ad : Nat → Nat} {cI cX : ClassId} {σ' : xSt} {c23 : Int32 → Int32 → xSt → Option (xSt)} (X : xX p s m args c cX9_goesBy 3 RX9 D (tyM cI cX) A (wM ad cI cX)) (hr : meth.sig.returnType = none) (hl : meth.locks = false) (F : Nat) (hc23 : ∀ (v1 : Int32) (v2 : Int32) (σ : xSt), c23 v1 v2 σ = some σ' → xG p l e ({ frames := 3, cells := 0, slots := 0, locals := 67 }) s m args below meth c (MQ below (xQv D A (wM ad cI cX) σ') args s 0 0 A) 3 D A (wM ad cI cX) σ 23 [(0, .ref (ad 0)), (1, .int v1), (2, .int v2)] []) (v1 : Int32) (v2 : Int32) (σ : xSt) (h : mX9_goesBy_S23 F c23 v1 v2 σ = some σ') : xG p l e ({ frames := 3, cells := 0, slots := 0, locals := 67 }) s m args below meth c (MQ below (xQv D A (wM ad cI cX) σ') args s 0 0 A) 3 D A (wM ad cI cX) σ 23 [(0, .ref (ad 0)), (1, .int v1), (2, .int v2)] [] := by
  unfold mX9_goesBy_S23 at h
  refine x_iload_n (pc := 23) X dX9_goesBy_23 rfl 2 rfl ?_
  refine x_aload_n (pc := 24) X dX9_goesBy_24 rfl 0 rfl ?_
  refine gX9_170 (pc := 25) X dX9_goesBy_25 ?_
  refine x_icmp_ge (pc := 28) X 89 dX9_goesBy_28 (by decide) (fun hc => ?_) (fun hc => ?_)
  · have h := xit hc h
    refine x_sub [0, 1] rfl ?_
    exact wX9_goesBy_L89 X hr hl F _ _ h
  · have h := xif hc h
    refine x_aload_n (pc := 31) X dX9_goesBy_31 rfl 0 rfl ?_
    refine gX9_34 (pc := 32) X dX9_goesBy_32 ?_
    refine x_iload_n (pc := 35) X dX9_goesBy_35 rfl 2 rfl ?_
    obtain ⟨hb36, h⟩ := xck_some h
    refine x_iald (pc := 36) X 9 0 (qaX9_sitHour) rfl hb36 dX9_goesBy_36 ?_
    refine x_iload_n (pc := 37) X dX9_goesBy_37 rfl 1 rfl ?_
    refine x_icmp_ne (pc := 38) X 83 dX9_goesBy_38 (by decide) (fun hc => ?_) (fun hc => ?_)
    · have h := xif hc h
      refine x_sub [0, 1, 2] rfl ?_
      exact wX9_goesBy_L83 X hr hl F hc23 _ _ _ h
    · have h := xit hc h
      refine x_aload_n (pc := 41) X dX9_goesBy_41 rfl 0 rfl ?_
      refine gX9_37 (pc := 42) X dX9_goesBy_42 ?_
      refine x_iload_n (pc := 45) X dX9_goesBy_45 rfl 2 rfl ?_
      obtain ⟨hb46, h⟩ := xck_some h
      refine x_iald (pc := 46) X 10 0 (qaX9_sitPerson) rfl hb46 dX9_goesBy_46 ?_
      refine x_aload_n (pc := 47) X dX9_goesBy_47 rfl 0 rfl ?_
      refine gX9_113 (pc := 48) X dX9_goesBy_48 ?_
      refine x_icmp_ge (pc := 51) X 83 dX9_goesBy_51 (by decide) (fun hc => ?_) (fun hc => ?_)
      · have h := xit hc h
        refine x_sub [0, 1, 2] rfl ?_
        exact wX9_goesBy_L83 X hr hl F hc23 _ _ _ h
      · have h := xif hc h
        refine x_aload_n (pc := 54) X dX9_goesBy_54 rfl 0 rfl ?_
        refine gX9_40 (pc := 55) X dX9_goesBy_55 ?_
        refine x_iload_n (pc := 58) X dX9_goesBy_58 rfl 2 rfl ?_
        obtain ⟨hb59, h⟩ := xck_some h
        refine x_iald (pc := 59) X 11 0 (qaX9_sitThing) rfl hb59 dX9_goesBy_59 ?_
        refine x_aload_n (pc := 60) X dX9_goesBy_60 rfl 0 rfl ?_
        refine gX9_109 (pc := 61) X dX9_goesBy_61 ?_
        refine x_icmp_ge (pc := 64) X 83 dX9_goesBy_64 (by decide) (fun hc => ?_) (fun hc => ?_)
        · have h := xit hc h
          refine x_sub [0, 1, 2] rfl ?_
          exact wX9_goesBy_L83 X hr hl F hc23 _ _ _ h
        · have h := xif hc h
          refine x_aload_n (pc := 67) X dX9_goesBy_67 rfl 0 rfl ?_
          refine x_aload_n (pc := 68) X dX9_goesBy_68 rfl 0 rfl ?_
          refine gX9_37 (pc := 69) X dX9_goesBy_69 ?_
          refine x_iload_n (pc := 72) X dX9_goesBy_72 rfl 2 rfl ?_
          obtain ⟨hb73, h⟩ := xck_some h
          refine x_iald (pc := 73) X 10 0 (qaX9_sitPerson) rfl hb73 dX9_goesBy_73 ?_
          refine x_aload_n (pc := 74) X dX9_goesBy_74 rfl 0 rfl ?_
          refine gX9_40 (pc := 75) X dX9_goesBy_75 ?_
          refine x_iload_n (pc := 78) X dX9_goesBy_78 rfl 2 rfl ?_
          obtain ⟨hb79, h⟩ := xck_some h
          refine x_iald (pc := 79) X 11 0 (qaX9_sitThing) rfl hb79 dX9_goesBy_79 ?_
          obtain ⟨σ80, hq80, h⟩ := xb1_some h
          refine x_callvV (pc := 80) (As := [.int (xA σ 12 (Int32.toNatClampNeg v2)), .int (xA σ 13 (Int32.toNatClampNeg v2))]) (rest := []) X (kX9_sits l X.2.2.2.2.2.2.2 F _ _ _ _ hq80) kvX9_193 rfl (qX9) ⟨rfl, rfl, Nat.le_of_ble_eq_true rfl, Nat.le_of_ble_eq_true rfl⟩ rfl rfl (Nat.le_of_ble_eq_true rfl) dX9_goesBy_80 ?_
          refine x_sub [0, 1, 2] rfl ?_
          exact wX9_goesBy_L83 X hr hl F hc23 _ _ _ h
theorem wX9_goesBy_L23 {p : Program} {l : Launch} {e : Env} {s : State} {m : MethodId} {args : Array Value} {below : List Frame} {meth : Method} {c : Code} {D : va_G} {A : Nat → Prop} {ad : Nat → Nat} {cI cX : ClassId} {σ' : xSt} (X : xX p s m args c cX9_goesBy 3 RX9 D (tyM cI cX) A (wM ad cI cX)) (hr : meth.sig.returnType = none) (hl : meth.locks = false) (F : Nat) : ∀ (n : Nat) (v1 : Int32) (v2 : Int32) (σ : xSt), mX9_goesBy_L23 F n v1 v2 σ = some σ' → xG p l e ({ frames := 3, cells := 0, slots := 0, locals := 67 }) s m args below meth c (MQ below (xQv D A (wM ad cI cX) σ') args s 0 0 A) 3 D A (wM ad cI cX) σ 23 [(0, .ref (ad 0)), (1, .int v1), (2, .int v2)] [] := by
  intro n
  induction n with
  | zero => intro v1 v2 σ h; cases h
  | succ n ih => intro v1 v2 σ h; exact wX9_goesBy_S23 X hr hl F ih v1 v2 σ h
set_option maxRecDepth 100000 in
set_option maxHeartbeats 4000000 in
theorem wX9_goesBy_L21 {p : Program} {l : Launch} {e : Env} {s : State} {m : MethodId} {args : Array Value} {below : List Frame} {meth : Method} {c : Code} {D : va_G} {A : Nat → Prop} {ad : Nat → Nat} {cI cX : ClassId} {σ' : xSt} (X : xX p s m args c cX9_goesBy 3 RX9 D (tyM cI cX) A (wM ad cI cX)) (hr : meth.sig.returnType = none) (hl : meth.locks = false) (F : Nat) (v1 : Int32) (σ : xSt) (h : mX9_goesBy_L21 F v1 σ = some σ') : xG p l e ({ frames := 3, cells := 0, slots := 0, locals := 67 }) s m args below meth c (MQ below (xQv D A (wM ad cI cX) σ') args s 0 0 A) 3 D A (wM ad cI cX) σ 21 [(0, .ref (ad 0)), (1, .int v1)] [] := by
  unfold mX9_goesBy_L21 at h
  refine x_iconst (pc := 21) (v := 0) X dX9_goesBy_21 (by decide) ?_
  refine x_istore_n (pc := 22) (lv' := [(2, .int 0), (0, .ref (ad 0)), (1, .int v1)]) X dX9_goesBy_22 rfl (by decide) rfl ?_
  refine x_sub [1, 2, 0] rfl ?_
  exact wX9_goesBy_L23 X hr hl F F _ _ _ h
set_option maxRecDepth 100000 in
set_option maxHeartbeats 4000000 in
theorem wX9_goesBy_S2 {p : Program} {l : Launch} {e : Env} {s : State} {m : MethodId} {args : Array Value} {below : List Frame} {meth : Method} {c : Code} {D : va_G} {A : Nat → Prop} {ad : Nat → Nat} {cI cX : ClassId} {σ' : xSt} {c2 : Int32 → Int32 → xSt → Option (xSt)} (X : xX p s m args c cX9_goesBy 3 RX9 D (tyM cI cX) A (wM ad cI cX)) (hr : meth.sig.returnType = none) (hl : meth.locks = false) (F : Nat) (hc2 : ∀ (v1 : Int32) (v2 : Int32) (σ : xSt), c2 v1 v2 σ = some σ' → xG p l e ({ frames := 3, cells := 0, slots := 0, locals := 67 }) s m args below meth c (MQ below (xQv D A (wM ad cI cX) σ') args s 0 0 A) 3 D A (wM ad cI cX) σ 2 [(0, .ref (ad 0)), (1, .int v1), (2, .int v2)] []) (v1 : Int32) (v2 : Int32) (σ : xSt) (h : mX9_goesBy_S2 F c2 v1 v2 σ = some σ') : xG p l e ({ frames := 3, cells := 0, slots := 0, locals := 67 }) s m args below meth c (MQ below (xQv D A (wM ad cI cX) σ') args s 0 0 A) 3 D A (wM ad cI cX) σ 2 [(0, .ref (ad 0)), (1, .int v1), (2, .int v2)] [] := by
  unfold mX9_goesBy_S2 at h
  refine x_iload_n (pc := 2) X dX9_goesBy_2 rfl 2 rfl ?_
  refine x_aload_n (pc := 3) X dX9_goesBy_3 rfl 0 rfl ?_
  refine gX9_109 (pc := 4) X dX9_goesBy_4 ?_
  refine x_icmp_ge (pc := 7) X 21 dX9_goesBy_7 (by decide) (fun hc => ?_) (fun hc => ?_)
  · have h := xit hc h
    refine x_sub [0, 1] rfl ?_
    exact wX9_goesBy_L21 X hr hl F _ _ h
  · have h := xif hc h
    refine x_aload_n (pc := 10) X dX9_goesBy_10 rfl 0 rfl ?_
    refine x_iload_n (pc := 11) X dX9_goesBy_11 rfl 2 rfl ?_
    obtain ⟨σ12, hq12, h⟩ := xb1_some h
    refine x_callvV (pc := 12) (As := [.int v2]) (rest := []) X (kX9_fades l X.2.2.2.2.2.2.2 F _ _ _ hq12) kvX9_189 rfl (qX9) ⟨rfl, rfl, Nat.le_of_ble_eq_true rfl, Nat.le_of_ble_eq_true rfl⟩ rfl rfl (Nat.le_of_ble_eq_true rfl) dX9_goesBy_12 ?_
    refine x_iinc (pc := 15) (v := (v2 + 1)) (lv' := [(2, .int (v2 + 1)), (0, .ref (ad 0)), (1, .int v1)]) X dX9_goesBy_15 2 rfl rfl (by decide) rfl ?_
    refine x_goto (pc := 18) X 2 dX9_goesBy_18 (by decide) ?_
    refine x_sub [1, 2, 0] rfl ?_
    exact hc2 _ _ _ h
theorem wX9_goesBy_L2 {p : Program} {l : Launch} {e : Env} {s : State} {m : MethodId} {args : Array Value} {below : List Frame} {meth : Method} {c : Code} {D : va_G} {A : Nat → Prop} {ad : Nat → Nat} {cI cX : ClassId} {σ' : xSt} (X : xX p s m args c cX9_goesBy 3 RX9 D (tyM cI cX) A (wM ad cI cX)) (hr : meth.sig.returnType = none) (hl : meth.locks = false) (F : Nat) : ∀ (n : Nat) (v1 : Int32) (v2 : Int32) (σ : xSt), mX9_goesBy_L2 F n v1 v2 σ = some σ' → xG p l e ({ frames := 3, cells := 0, slots := 0, locals := 67 }) s m args below meth c (MQ below (xQv D A (wM ad cI cX) σ') args s 0 0 A) 3 D A (wM ad cI cX) σ 2 [(0, .ref (ad 0)), (1, .int v1), (2, .int v2)] [] := by
  intro n
  induction n with
  | zero => intro v1 v2 σ h; cases h
  | succ n ih => intro v1 v2 σ h; exact wX9_goesBy_S2 X hr hl F ih v1 v2 σ h
set_option maxRecDepth 100000 in
set_option maxHeartbeats 4000000 in
theorem kX9_goesBy (l : Launch) {D : va_G} {A : Nat → Prop} {ad : Nat → Nat} {cI cX : ClassId} (hD : ∀ σ, va_D A ((wM ad cI cX) σ)) (F : Nat) (v1 : Int32) (σ : xSt) (σ' : xSt) (h : mX9_goesBy F v1 σ = some σ') : xM l yX9_goesBy cX9_goesBy 3 none ({ frames := 3, cells := 0, slots := 0, locals := 67 }) D (tyM cI cX) A (wM ad cI cX) [.ref (ad 0), .int v1] σ (xQv D A (wM ad cI cX) σ') := by
  refine xM_of (lv := [(0, .ref (ad 0)), (1, .int v1)]) [.ref (ad 0), .int v1] (by decide) hD rfl (Nat.le_of_ble_eq_true rfl) ?_
  intro p e s m args below meth c X hr hl
  unfold mX9_goesBy at h
  refine x_iconst (pc := 0) (v := 0) X dX9_goesBy_0 (by decide) ?_
  refine x_istore_n (pc := 1) (lv' := [(2, .int 0), (0, .ref (ad 0)), (1, .int v1)]) X dX9_goesBy_1 rfl (by decide) rfl ?_
  refine x_sub [1, 2, 0] rfl ?_
  exact wX9_goesBy_L2 X hr hl F F _ _ _ h
set_option maxRecDepth 100000 in
set_option maxHeartbeats 4000000 in
theorem wX9_begins_L21 {p : Program} {l : Launch} {e : Env} {s : State} {m : MethodId} {args : Array Value} {below : List Frame} {meth : Method} {c : Code} {D : va_G} {A : Nat → Prop} {ad : Nat → Nat} {cI cX : ClassId} {σ' : xSt} (X : xX p s m args c cX9_begins 2 RX9 D (tyM cI cX) A (wM ad cI cX)) (hr : meth.sig.returnType = none) (hl : meth.locks = false) (F : Nat) (σ : xSt) (h : mX9_begins_L21 F σ = some σ') : xG p l e ({ frames := 0, cells := 0, slots := 0, locals := 0 }) s m args below meth c (MQ below (xQv D A (wM ad cI cX) σ') args s 0 0 A) 2 D A (wM ad cI cX) σ 21 [] [] := by
  unfold mX9_begins_L21 at h
  exact x_vret (pc := 21) X hr hl h dX9_begins_21
set_option maxRecDepth 100000 in
set_option maxHeartbeats 4000000 in
theorem wX9_begins_S2 {p : Program} {l : Launch} {e : Env} {s : State} {m : MethodId} {args : Array Value} {below : List Frame} {meth : Method} {c : Code} {D : va_G} {A : Nat → Prop} {ad : Nat → Nat} {cI cX : ClassId} {σ' : xSt} {c2 : Int32 → xSt → Option (xSt)} (X : xX p s m args c cX9_begins 2 RX9 D (tyM cI cX) A (wM ad cI cX)) (hr : meth.sig.returnType = none) (hl : meth.locks = false) (F : Nat) (hc2 : ∀ (v1 : Int32) (σ : xSt), c2 v1 σ = some σ' → xG p l e ({ frames := 0, cells := 0, slots := 0, locals := 0 }) s m args below meth c (MQ below (xQv D A (wM ad cI cX) σ') args s 0 0 A) 2 D A (wM ad cI cX) σ 2 [(0, .ref (ad 0)), (1, .int v1)] []) (v1 : Int32) (σ : xSt) (h : mX9_begins_S2 F c2 v1 σ = some σ') : xG p l e ({ frames := 0, cells := 0, slots := 0, locals := 0 }) s m args below meth c (MQ below (xQv D A (wM ad cI cX) σ') args s 0 0 A) 2 D A (wM ad cI cX) σ 2 [(0, .ref (ad 0)), (1, .int v1)] [] := by
  unfold mX9_begins_S2 at h
  refine x_iload_n (pc := 2) X dX9_begins_2 rfl 1 rfl ?_
  refine x_bipush (pc := 3) (v := 6) X dX9_begins_3 (by decide) ?_
  refine x_icmp_ge (pc := 5) X 21 dX9_begins_5 (by decide) (fun hc => ?_) (fun hc => ?_)
  · have h := xit hc h
    refine x_sub [] rfl ?_
    exact wX9_begins_L21 X hr hl F _ h
  · have h := xif hc h
    refine x_aload_n (pc := 8) X dX9_begins_8 rfl 0 rfl ?_
    refine gX9_49 (pc := 9) X dX9_begins_9 ?_
    refine x_iload_n (pc := 12) X dX9_begins_12 rfl 1 rfl ?_
    refine x_iconst (pc := 13) (v := 0) X dX9_begins_13 (by decide) ?_
    obtain ⟨hb14, h⟩ := xck_some h
    refine x_iast (pc := 14) (σ' := (xsA σ 17 (Int32.toNatClampNeg v1) 0)) X 14 0 (qaX9_many) rfl (saX9_many _) hb14 dX9_begins_14 ?_
    refine x_iinc (pc := 15) (v := (v1 + 1)) (lv' := [(1, .int (v1 + 1)), (0, .ref (ad 0))]) X dX9_begins_15 1 rfl rfl (by decide) rfl ?_
    refine x_goto (pc := 18) X 2 dX9_begins_18 (by decide) ?_
    refine x_sub [1, 0] rfl ?_
    exact hc2 _ _ h
theorem wX9_begins_L2 {p : Program} {l : Launch} {e : Env} {s : State} {m : MethodId} {args : Array Value} {below : List Frame} {meth : Method} {c : Code} {D : va_G} {A : Nat → Prop} {ad : Nat → Nat} {cI cX : ClassId} {σ' : xSt} (X : xX p s m args c cX9_begins 2 RX9 D (tyM cI cX) A (wM ad cI cX)) (hr : meth.sig.returnType = none) (hl : meth.locks = false) (F : Nat) : ∀ (n : Nat) (v1 : Int32) (σ : xSt), mX9_begins_L2 F n v1 σ = some σ' → xG p l e ({ frames := 0, cells := 0, slots := 0, locals := 0 }) s m args below meth c (MQ below (xQv D A (wM ad cI cX) σ') args s 0 0 A) 2 D A (wM ad cI cX) σ 2 [(0, .ref (ad 0)), (1, .int v1)] [] := by
  intro n
  induction n with
  | zero => intro v1 σ h; cases h
  | succ n ih => intro v1 σ h; exact wX9_begins_S2 X hr hl F ih v1 σ h
set_option maxRecDepth 100000 in
set_option maxHeartbeats 4000000 in
theorem kX9_begins (l : Launch) {D : va_G} {A : Nat → Prop} {ad : Nat → Nat} {cI cX : ClassId} (hD : ∀ σ, va_D A ((wM ad cI cX) σ)) (F : Nat) (σ : xSt) (σ' : xSt) (h : mX9_begins F σ = some σ') : xM l yX9_begins cX9_begins 2 none ({ frames := 0, cells := 0, slots := 0, locals := 0 }) D (tyM cI cX) A (wM ad cI cX) [.ref (ad 0)] σ (xQv D A (wM ad cI cX) σ') := by
  refine xM_of (lv := [(0, .ref (ad 0))]) [.ref (ad 0)] (by decide) hD rfl (Nat.le_of_ble_eq_true rfl) ?_
  intro p e s m args below meth c X hr hl
  unfold mX9_begins at h
  refine x_iconst (pc := 0) (v := 0) X dX9_begins_0 (by decide) ?_
  refine x_istore_n (pc := 1) (lv' := [(1, .int 0), (0, .ref (ad 0))]) X dX9_begins_1 rfl (by decide) rfl ?_
  refine x_sub [1, 0] rfl ?_
  exact wX9_begins_L2 X hr hl F F _ _ h
set_option maxRecDepth 100000 in
set_option maxHeartbeats 4000000 in
theorem wX9_runs_L22 {p : Program} {l : Launch} {e : Env} {s : State} {m : MethodId} {args : Array Value} {below : List Frame} {meth : Method} {c : Code} {D : va_G} {A : Nat → Prop} {ad : Nat → Nat} {cI cX : ClassId} {σ' : xSt} (X : xX p s m args c cX9_runs 3 RX9 D (tyM cI cX) A (wM ad cI cX)) (hr : meth.sig.returnType = none) (hl : meth.locks = false) (F : Nat) (σ : xSt) (h : mX9_runs_L22 F σ = some σ') : xG p l e ({ frames := 4, cells := 0, slots := 0, locals := 89 }) s m args below meth c (MQ below (xQv D A (wM ad cI cX) σ') args s 0 0 A) 3 D A (wM ad cI cX) σ 22 [] [] := by
  unfold mX9_runs_L22 at h
  exact x_vret (pc := 22) X hr hl h dX9_runs_22
set_option maxRecDepth 100000 in
set_option maxHeartbeats 4000000 in
theorem wX9_runs_S6 {p : Program} {l : Launch} {e : Env} {s : State} {m : MethodId} {args : Array Value} {below : List Frame} {meth : Method} {c : Code} {D : va_G} {A : Nat → Prop} {ad : Nat → Nat} {cI cX : ClassId} {σ' : xSt} {c6 : Int32 → Int32 → xSt → Option (xSt)} (X : xX p s m args c cX9_runs 3 RX9 D (tyM cI cX) A (wM ad cI cX)) (hr : meth.sig.returnType = none) (hl : meth.locks = false) (F : Nat) (hc6 : ∀ (v1 : Int32) (v2 : Int32) (σ : xSt), c6 v1 v2 σ = some σ' → xG p l e ({ frames := 4, cells := 0, slots := 0, locals := 89 }) s m args below meth c (MQ below (xQv D A (wM ad cI cX) σ') args s 0 0 A) 3 D A (wM ad cI cX) σ 6 [(0, .ref (ad 0)), (1, .int v1), (2, .int v2)] []) (v1 : Int32) (v2 : Int32) (σ : xSt) (h : mX9_runs_S6 F c6 v1 v2 σ = some σ') : xG p l e ({ frames := 4, cells := 0, slots := 0, locals := 89 }) s m args below meth c (MQ below (xQv D A (wM ad cI cX) σ') args s 0 0 A) 3 D A (wM ad cI cX) σ 6 [(0, .ref (ad 0)), (1, .int v1), (2, .int v2)] [] := by
  unfold mX9_runs_S6 at h
  refine x_iload_n (pc := 6) X dX9_runs_6 rfl 2 rfl ?_
  refine x_iload_n (pc := 7) X dX9_runs_7 rfl 1 rfl ?_
  refine x_icmp_gt (pc := 8) X 22 dX9_runs_8 (by decide) (fun hc => ?_) (fun hc => ?_)
  · have h := xit hc h
    refine x_sub [] rfl ?_
    exact wX9_runs_L22 X hr hl F _ h
  · have h := xif hc h
    refine x_aload_n (pc := 11) X dX9_runs_11 rfl 0 rfl ?_
    refine x_iload_n (pc := 12) X dX9_runs_12 rfl 2 rfl ?_
    obtain ⟨σ13, hq13, h⟩ := xb1_some h
    refine x_callvV (pc := 13) (As := [.int v2]) (rest := []) X (kX9_goesBy l X.2.2.2.2.2.2.2 F _ _ _ hq13) kvX9_206 rfl (qX9) ⟨rfl, rfl, Nat.le_of_ble_eq_true rfl, Nat.le_of_ble_eq_true rfl⟩ rfl rfl (Nat.le_of_ble_eq_true rfl) dX9_runs_13 ?_
    refine x_iinc (pc := 16) (v := (v2 + 1)) (lv' := [(2, .int (v2 + 1)), (0, .ref (ad 0)), (1, .int v1)]) X dX9_runs_16 2 rfl rfl (by decide) rfl ?_
    refine x_goto (pc := 19) X 6 dX9_runs_19 (by decide) ?_
    refine x_sub [1, 2, 0] rfl ?_
    exact hc6 _ _ _ h
theorem wX9_runs_L6 {p : Program} {l : Launch} {e : Env} {s : State} {m : MethodId} {args : Array Value} {below : List Frame} {meth : Method} {c : Code} {D : va_G} {A : Nat → Prop} {ad : Nat → Nat} {cI cX : ClassId} {σ' : xSt} (X : xX p s m args c cX9_runs 3 RX9 D (tyM cI cX) A (wM ad cI cX)) (hr : meth.sig.returnType = none) (hl : meth.locks = false) (F : Nat) : ∀ (n : Nat) (v1 : Int32) (v2 : Int32) (σ : xSt), mX9_runs_L6 F n v1 v2 σ = some σ' → xG p l e ({ frames := 4, cells := 0, slots := 0, locals := 89 }) s m args below meth c (MQ below (xQv D A (wM ad cI cX) σ') args s 0 0 A) 3 D A (wM ad cI cX) σ 6 [(0, .ref (ad 0)), (1, .int v1), (2, .int v2)] [] := by
  intro n
  induction n with
  | zero => intro v1 v2 σ h; cases h
  | succ n ih => intro v1 v2 σ h; exact wX9_runs_S6 X hr hl F ih v1 v2 σ h
set_option maxRecDepth 100000 in
set_option maxHeartbeats 4000000 in
theorem kX9_runs (l : Launch) {D : va_G} {A : Nat → Prop} {ad : Nat → Nat} {cI cX : ClassId} (hD : ∀ σ, va_D A ((wM ad cI cX) σ)) (F : Nat) (v1 : Int32) (σ : xSt) (σ' : xSt) (h : mX9_runs F v1 σ = some σ') : xM l yX9_runs cX9_runs 3 none ({ frames := 4, cells := 0, slots := 0, locals := 89 }) D (tyM cI cX) A (wM ad cI cX) [.ref (ad 0), .int v1] σ (xQv D A (wM ad cI cX) σ') := by
  refine xM_of (lv := [(0, .ref (ad 0)), (1, .int v1)]) [.ref (ad 0), .int v1] (by decide) hD rfl (Nat.le_of_ble_eq_true rfl) ?_
  intro p e s m args below meth c X hr hl
  unfold mX9_runs at h
  refine x_aload_n (pc := 0) X dX9_runs_0 rfl 0 rfl ?_
  obtain ⟨σ1, hq1, h⟩ := xb1_some h
  refine x_callvV (pc := 1) (As := []) (rest := []) X (kX9_begins l X.2.2.2.2.2.2.2 F _ _ hq1) kvX9_203 rfl (qX9) ⟨rfl, rfl, Nat.le_of_ble_eq_true rfl, Nat.le_of_ble_eq_true rfl⟩ rfl rfl (Nat.le_of_ble_eq_true rfl) dX9_runs_1 ?_
  refine x_iconst (pc := 4) (v := 0) X dX9_runs_4 (by decide) ?_
  refine x_istore_n (pc := 5) (lv' := [(2, .int 0), (0, .ref (ad 0)), (1, .int v1)]) X dX9_runs_5 rfl (by decide) rfl ?_
  refine x_sub [1, 2, 0] rfl ?_
  exact wX9_runs_L6 X hr hl F F _ _ _ h
set_option maxRecDepth 100000 in
set_option maxHeartbeats 4000000 in
theorem kX9_runsTold (l : Launch) {D : va_G} {A : Nat → Prop} {ad : Nat → Nat} {cI cX : ClassId} (hD : ∀ σ, va_D A ((wM ad cI cX) σ)) (F : Nat) (v1 : Int32) (σ : xSt) (σ' : xSt) (h : mX9_runsTold F v1 σ = some σ') : xM l yX9_runsTold cX9_runsTold 2 none ({ frames := 5, cells := 0, slots := 0, locals := 117 }) D (tyM cI cX) A (wM ad cI cX) [.ref (ad 0), .int v1] σ (xQv D A (wM ad cI cX) σ') := by
  refine xM_of (lv := [(0, .ref (ad 0)), (1, .int v1)]) [.ref (ad 0), .int v1] (by decide) hD rfl (Nat.le_of_ble_eq_true rfl) ?_
  intro p e s m args below meth c X hr hl
  unfold mX9_runsTold at h
  refine x_aload_n (pc := 0) X dX9_runsTold_0 rfl 0 rfl ?_
  obtain ⟨σ1, hq1, h⟩ := xb1_some h
  refine x_callvV (pc := 1) (As := []) (rest := []) X (kX9_reads l X.2.2.2.2.2.2.2 F _ _ hq1) kvX9_127 rfl (qX9) ⟨rfl, rfl, Nat.le_of_ble_eq_true rfl, Nat.le_of_ble_eq_true rfl⟩ rfl rfl (Nat.le_of_ble_eq_true rfl) dX9_runsTold_1 ?_
  refine x_aload_n (pc := 4) X dX9_runsTold_4 rfl 0 rfl ?_
  obtain ⟨σ5, hq5, h⟩ := xb1_some h
  refine x_callvV (pc := 5) (As := []) (rest := []) X (kX9_asTold l X.2.2.2.2.2.2.2 F _ _ hq5) kvX9_209 rfl (qX9) ⟨rfl, rfl, Nat.le_of_ble_eq_true rfl, Nat.le_of_ble_eq_true rfl⟩ rfl rfl (Nat.le_of_ble_eq_true rfl) dX9_runsTold_5 ?_
  refine x_aload_n (pc := 8) X dX9_runsTold_8 rfl 0 rfl ?_
  refine x_iload_n (pc := 9) X dX9_runsTold_9 rfl 1 rfl ?_
  obtain ⟨σ10, hq10, h⟩ := xb1_some h
  refine x_callvV (pc := 10) (As := [.int v1]) (rest := []) X (kX9_runs l X.2.2.2.2.2.2.2 F _ _ _ hq10) kvX9_212 rfl (qX9) ⟨rfl, rfl, Nat.le_of_ble_eq_true rfl, Nat.le_of_ble_eq_true rfl⟩ rfl rfl (Nat.le_of_ble_eq_true rfl) dX9_runsTold_10 ?_
  exact x_vret (pc := 13) X hr hl h dX9_runsTold_13
set_option maxRecDepth 100000 in
set_option maxHeartbeats 4000000 in
theorem wX9_tellsNow_L46 {p : Program} {l : Launch} {e : Env} {s : State} {m : MethodId} {args : Array Value} {below : List Frame} {meth : Method} {c : Code} {D : va_G} {A : Nat → Prop} {ad : Nat → Nat} {cI cX : ClassId} {r : Int32} {σ' : xSt} (X : xX p s m args c cX9_tellsNow 4 RX9 D (tyM cI cX) A (wM ad cI cX)) (hr : meth.sig.returnType = (some .int)) (hl : meth.locks = false) (F : Nat) (v2 : Int32) (σ : xSt) (h : mX9_tellsNow_L46 F v2 σ = some (r, σ')) : xG p l e ({ frames := 0, cells := 0, slots := 0, locals := 0 }) s m args below meth c (MQ below (xQi D A (wM ad cI cX) r σ') args s 0 0 A) 4 D A (wM ad cI cX) σ 46 [(2, .int v2)] [] := by
  unfold mX9_tellsNow_L46 at h
  refine x_iload_n (pc := 46) X dX9_tellsNow_46 rfl 0 rfl ?_
  exact x_iret (pc := 47) X hr hl h dX9_tellsNow_47
set_option maxRecDepth 100000 in
set_option maxHeartbeats 4000000 in
theorem wX9_tellsNow_S4 {p : Program} {l : Launch} {e : Env} {s : State} {m : MethodId} {args : Array Value} {below : List Frame} {meth : Method} {c : Code} {D : va_G} {A : Nat → Prop} {ad : Nat → Nat} {cI cX : ClassId} {r : Int32} {σ' : xSt} {c4 : Int32 → Int32 → Int32 → xSt → Option (Int32 × xSt)} (X : xX p s m args c cX9_tellsNow 4 RX9 D (tyM cI cX) A (wM ad cI cX)) (hr : meth.sig.returnType = (some .int)) (hl : meth.locks = false) (F : Nat) (hc4 : ∀ (v1 : Int32) (v2 : Int32) (v3 : Int32) (σ : xSt), c4 v1 v2 v3 σ = some (r, σ') → xG p l e ({ frames := 0, cells := 0, slots := 0, locals := 0 }) s m args below meth c (MQ below (xQi D A (wM ad cI cX) r σ') args s 0 0 A) 4 D A (wM ad cI cX) σ 4 [(0, .ref (ad 0)), (1, .int v1), (2, .int v2), (3, .int v3)] []) (v1 : Int32) (v2 : Int32) (v3 : Int32) (σ : xSt) (h : mX9_tellsNow_S4 F c4 v1 v2 v3 σ = some (r, σ')) : xG p l e ({ frames := 0, cells := 0, slots := 0, locals := 0 }) s m args below meth c (MQ below (xQi D A (wM ad cI cX) r σ') args s 0 0 A) 4 D A (wM ad cI cX) σ 4 [(0, .ref (ad 0)), (1, .int v1), (2, .int v2), (3, .int v3)] [] := by
  unfold mX9_tellsNow_S4 at h
  refine x_iload_n (pc := 4) X dX9_tellsNow_4 rfl 3 rfl ?_
  refine x_aload_n (pc := 5) X dX9_tellsNow_5 rfl 0 rfl ?_
  refine gX9_49 (pc := 6) X dX9_tellsNow_6 ?_
  refine x_iload_n (pc := 9) X dX9_tellsNow_9 rfl 1 rfl ?_
  obtain ⟨hb10, h⟩ := xck_some h
  refine x_iald (pc := 10) X 14 0 (qaX9_many) rfl hb10 dX9_tellsNow_10 ?_
  refine x_icmp_ge (pc := 11) X 46 dX9_tellsNow_11 (by decide) (fun hc => ?_) (fun hc => ?_)
  · have h := xit hc h
    refine x_sub [2] rfl ?_
    exact wX9_tellsNow_L46 X hr hl F _ _ h
  · have h := xif hc h
    refine x_iload_n (pc := 14) X dX9_tellsNow_14 rfl 3 rfl ?_
    refine x_aload_n (pc := 15) X dX9_tellsNow_15 rfl 0 rfl ?_
    refine gX9_19 (pc := 16) X dX9_tellsNow_16 ?_
    refine x_iload_n (pc := 19) X dX9_tellsNow_19 rfl 1 rfl ?_
    obtain ⟨hb20, h⟩ := xck_some h
    refine x_iald (pc := 20) X 4 0 (qaX9_noses) rfl hb20 dX9_tellsNow_20 ?_
    refine x_icmp_ge (pc := 21) X 46 dX9_tellsNow_21 (by decide) (fun hc => ?_) (fun hc => ?_)
    · have h := xit hc h
      refine x_sub [2] rfl ?_
      exact wX9_tellsNow_L46 X hr hl F _ _ h
    · have h := xif hc h
      refine x_iload_n (pc := 24) X dX9_tellsNow_24 rfl 2 rfl ?_
      refine x_iconst (pc := 25) (v := 1) X dX9_tellsNow_25 (by decide) ?_
      refine x_aload_n (pc := 26) X dX9_tellsNow_26 rfl 0 rfl ?_
      refine gX9_52 (pc := 27) X dX9_tellsNow_27 ?_
      refine x_bipush (pc := 30) (v := 6) X dX9_tellsNow_30 (by decide) ?_
      refine x_iload_n (pc := 32) X dX9_tellsNow_32 rfl 1 rfl ?_
      refine x_imul (pc := 33) X dX9_tellsNow_33 ?_
      refine x_iload_n (pc := 34) X dX9_tellsNow_34 rfl 3 rfl ?_
      refine x_iadd (pc := 35) X dX9_tellsNow_35 ?_
      obtain ⟨hb36, h⟩ := xck_some h
      refine x_iald (pc := 36) X 15 0 (qaX9_ofWhom) rfl hb36 dX9_tellsNow_36 ?_
      refine x_ishl (pc := 37) X dX9_tellsNow_37 ?_
      refine x_ior (pc := 38) X dX9_tellsNow_38 ?_
      refine x_istore_n (pc := 39) (lv' := [(2, .int (v2 ||| (1 <<< ((xA σ 18 (Int32.toNatClampNeg ((6 * v1) + v3))) &&& 31)))), (0, .ref (ad 0)), (1, .int v1), (3, .int v3)]) X dX9_tellsNow_39 rfl (by decide) rfl ?_
      refine x_iinc (pc := 40) (v := (v3 + 1)) (lv' := [(3, .int (v3 + 1)), (2, .int (v2 ||| (1 <<< ((xA σ 18 (Int32.toNatClampNeg ((6 * v1) + v3))) &&& 31)))), (0, .ref (ad 0)), (1, .int v1)]) X dX9_tellsNow_40 3 rfl rfl (by decide) rfl ?_
      refine x_goto (pc := 43) X 4 dX9_tellsNow_43 (by decide) ?_
      refine x_sub [2, 3, 1, 0] rfl ?_
      exact hc4 _ _ _ _ h
theorem wX9_tellsNow_L4 {p : Program} {l : Launch} {e : Env} {s : State} {m : MethodId} {args : Array Value} {below : List Frame} {meth : Method} {c : Code} {D : va_G} {A : Nat → Prop} {ad : Nat → Nat} {cI cX : ClassId} {r : Int32} {σ' : xSt} (X : xX p s m args c cX9_tellsNow 4 RX9 D (tyM cI cX) A (wM ad cI cX)) (hr : meth.sig.returnType = (some .int)) (hl : meth.locks = false) (F : Nat) : ∀ (n : Nat) (v1 : Int32) (v2 : Int32) (v3 : Int32) (σ : xSt), mX9_tellsNow_L4 F n v1 v2 v3 σ = some (r, σ') → xG p l e ({ frames := 0, cells := 0, slots := 0, locals := 0 }) s m args below meth c (MQ below (xQi D A (wM ad cI cX) r σ') args s 0 0 A) 4 D A (wM ad cI cX) σ 4 [(0, .ref (ad 0)), (1, .int v1), (2, .int v2), (3, .int v3)] [] := by
  intro n
  induction n with
  | zero => intro v1 v2 v3 σ h; cases h
  | succ n ih => intro v1 v2 v3 σ h; exact wX9_tellsNow_S4 X hr hl F ih v1 v2 v3 σ h
set_option maxRecDepth 100000 in
set_option maxHeartbeats 4000000 in
theorem kX9_tellsNow (l : Launch) {D : va_G} {A : Nat → Prop} {ad : Nat → Nat} {cI cX : ClassId} (hD : ∀ σ, va_D A ((wM ad cI cX) σ)) (F : Nat) (v1 : Int32) (σ : xSt) (r : Int32) (σ' : xSt) (h : mX9_tellsNow F v1 σ = some (r, σ')) : xM l yX9_tellsNow cX9_tellsNow 4 (some .int) ({ frames := 0, cells := 0, slots := 0, locals := 0 }) D (tyM cI cX) A (wM ad cI cX) [.ref (ad 0), .int v1] σ (xQi D A (wM ad cI cX) r σ') := by
  refine xM_of (lv := [(0, .ref (ad 0)), (1, .int v1)]) [.ref (ad 0), .int v1] (by decide) hD rfl (Nat.le_of_ble_eq_true rfl) ?_
  intro p e s m args below meth c X hr hl
  unfold mX9_tellsNow at h
  refine x_iconst (pc := 0) (v := 0) X dX9_tellsNow_0 (by decide) ?_
  refine x_istore_n (pc := 1) (lv' := [(2, .int 0), (0, .ref (ad 0)), (1, .int v1)]) X dX9_tellsNow_1 rfl (by decide) rfl ?_
  refine x_iconst (pc := 2) (v := 0) X dX9_tellsNow_2 (by decide) ?_
  refine x_istore_n (pc := 3) (lv' := [(3, .int 0), (2, .int 0), (0, .ref (ad 0)), (1, .int v1)]) X dX9_tellsNow_3 rfl (by decide) rfl ?_
  refine x_sub [2, 3, 1, 0] rfl ?_
  exact wX9_tellsNow_L4 X hr hl F F _ _ _ _ h
set_option maxRecDepth 100000 in
set_option maxHeartbeats 4000000 in
theorem wX9_tellsAll_L26 {p : Program} {l : Launch} {e : Env} {s : State} {m : MethodId} {args : Array Value} {below : List Frame} {meth : Method} {c : Code} {D : va_G} {A : Nat → Prop} {ad : Nat → Nat} {cI cX : ClassId} {r : Int32} {σ' : xSt} (X : xX p s m args c cX9_tellsAll 3 RX9 D (tyM cI cX) A (wM ad cI cX)) (hr : meth.sig.returnType = (some .int)) (hl : meth.locks = false) (F : Nat) (v1 : Int32) (σ : xSt) (h : mX9_tellsAll_L26 F v1 σ = some (r, σ')) : xG p l e ({ frames := 1, cells := 0, slots := 0, locals := 23 }) s m args below meth c (MQ below (xQi D A (wM ad cI cX) r σ') args s 0 0 A) 3 D A (wM ad cI cX) σ 26 [(1, .int v1)] [] := by
  unfold mX9_tellsAll_L26 at h
  refine x_iload_n (pc := 26) X dX9_tellsAll_26 rfl 0 rfl ?_
  exact x_iret (pc := 27) X hr hl h dX9_tellsAll_27
set_option maxRecDepth 100000 in
set_option maxHeartbeats 4000000 in
theorem wX9_tellsAll_S4 {p : Program} {l : Launch} {e : Env} {s : State} {m : MethodId} {args : Array Value} {below : List Frame} {meth : Method} {c : Code} {D : va_G} {A : Nat → Prop} {ad : Nat → Nat} {cI cX : ClassId} {r : Int32} {σ' : xSt} {c4 : Int32 → Int32 → xSt → Option (Int32 × xSt)} (X : xX p s m args c cX9_tellsAll 3 RX9 D (tyM cI cX) A (wM ad cI cX)) (hr : meth.sig.returnType = (some .int)) (hl : meth.locks = false) (F : Nat) (hc4 : ∀ (v1 : Int32) (v2 : Int32) (σ : xSt), c4 v1 v2 σ = some (r, σ') → xG p l e ({ frames := 1, cells := 0, slots := 0, locals := 23 }) s m args below meth c (MQ below (xQi D A (wM ad cI cX) r σ') args s 0 0 A) 3 D A (wM ad cI cX) σ 4 [(0, .ref (ad 0)), (1, .int v1), (2, .int v2)] []) (v1 : Int32) (v2 : Int32) (σ : xSt) (h : mX9_tellsAll_S4 F c4 v1 v2 σ = some (r, σ')) : xG p l e ({ frames := 1, cells := 0, slots := 0, locals := 23 }) s m args below meth c (MQ below (xQi D A (wM ad cI cX) r σ') args s 0 0 A) 3 D A (wM ad cI cX) σ 4 [(0, .ref (ad 0)), (1, .int v1), (2, .int v2)] [] := by
  unfold mX9_tellsAll_S4 at h
  refine x_iload_n (pc := 4) X dX9_tellsAll_4 rfl 2 rfl ?_
  refine x_aload_n (pc := 5) X dX9_tellsAll_5 rfl 0 rfl ?_
  refine gX9_109 (pc := 6) X dX9_tellsAll_6 ?_
  refine x_icmp_ge (pc := 9) X 26 dX9_tellsAll_9 (by decide) (fun hc => ?_) (fun hc => ?_)
  · have h := xit hc h
    refine x_sub [1] rfl ?_
    exact wX9_tellsAll_L26 X hr hl F _ _ h
  · have h := xif hc h
    refine x_iload_n (pc := 12) X dX9_tellsAll_12 rfl 1 rfl ?_
    refine x_aload_n (pc := 13) X dX9_tellsAll_13 rfl 0 rfl ?_
    refine x_iload_n (pc := 14) X dX9_tellsAll_14 rfl 2 rfl ?_
    obtain ⟨r15, σ15, hq15, h⟩ := xb2_some h
    refine x_calliV (pc := 15) (As := [.int v2]) (rest := [.int v1]) X (kX9_tellsNow l X.2.2.2.2.2.2.2 F _ _ _ _ hq15) kvX9_215 rfl (qX9) ⟨rfl, rfl, Nat.le_of_ble_eq_true rfl, Nat.le_of_ble_eq_true rfl⟩ rfl rfl (Nat.le_of_ble_eq_true rfl) dX9_tellsAll_15 ?_
    refine x_ior (pc := 18) X dX9_tellsAll_18 ?_
    refine x_istore_n (pc := 19) (lv' := [(1, .int (v1 ||| r15)), (0, .ref (ad 0)), (2, .int v2)]) X dX9_tellsAll_19 rfl (by decide) rfl ?_
    refine x_iinc (pc := 20) (v := (v2 + 1)) (lv' := [(2, .int (v2 + 1)), (1, .int (v1 ||| r15)), (0, .ref (ad 0))]) X dX9_tellsAll_20 2 rfl rfl (by decide) rfl ?_
    refine x_goto (pc := 23) X 4 dX9_tellsAll_23 (by decide) ?_
    refine x_sub [2, 1, 0] rfl ?_
    exact hc4 _ _ _ h
theorem wX9_tellsAll_L4 {p : Program} {l : Launch} {e : Env} {s : State} {m : MethodId} {args : Array Value} {below : List Frame} {meth : Method} {c : Code} {D : va_G} {A : Nat → Prop} {ad : Nat → Nat} {cI cX : ClassId} {r : Int32} {σ' : xSt} (X : xX p s m args c cX9_tellsAll 3 RX9 D (tyM cI cX) A (wM ad cI cX)) (hr : meth.sig.returnType = (some .int)) (hl : meth.locks = false) (F : Nat) : ∀ (n : Nat) (v1 : Int32) (v2 : Int32) (σ : xSt), mX9_tellsAll_L4 F n v1 v2 σ = some (r, σ') → xG p l e ({ frames := 1, cells := 0, slots := 0, locals := 23 }) s m args below meth c (MQ below (xQi D A (wM ad cI cX) r σ') args s 0 0 A) 3 D A (wM ad cI cX) σ 4 [(0, .ref (ad 0)), (1, .int v1), (2, .int v2)] [] := by
  intro n
  induction n with
  | zero => intro v1 v2 σ h; cases h
  | succ n ih => intro v1 v2 σ h; exact wX9_tellsAll_S4 X hr hl F ih v1 v2 σ h
set_option maxRecDepth 100000 in
set_option maxHeartbeats 4000000 in
theorem kX9_tellsAll (l : Launch) {D : va_G} {A : Nat → Prop} {ad : Nat → Nat} {cI cX : ClassId} (hD : ∀ σ, va_D A ((wM ad cI cX) σ)) (F : Nat) (σ : xSt) (r : Int32) (σ' : xSt) (h : mX9_tellsAll F σ = some (r, σ')) : xM l yX9_tellsAll cX9_tellsAll 3 (some .int) ({ frames := 1, cells := 0, slots := 0, locals := 23 }) D (tyM cI cX) A (wM ad cI cX) [.ref (ad 0)] σ (xQi D A (wM ad cI cX) r σ') := by
  refine xM_of (lv := [(0, .ref (ad 0))]) [.ref (ad 0)] (by decide) hD rfl (Nat.le_of_ble_eq_true rfl) ?_
  intro p e s m args below meth c X hr hl
  unfold mX9_tellsAll at h
  refine x_iconst (pc := 0) (v := 0) X dX9_tellsAll_0 (by decide) ?_
  refine x_istore_n (pc := 1) (lv' := [(1, .int 0), (0, .ref (ad 0))]) X dX9_tellsAll_1 rfl (by decide) rfl ?_
  refine x_iconst (pc := 2) (v := 0) X dX9_tellsAll_2 (by decide) ?_
  refine x_istore_n (pc := 3) (lv' := [(2, .int 0), (1, .int 0), (0, .ref (ad 0))]) X dX9_tellsAll_3 rfl (by decide) rfl ?_
  refine x_sub [2, 1, 0] rfl ?_
  exact wX9_tellsAll_L4 X hr hl F F _ _ _ h
set_option maxRecDepth 100000 in
set_option maxHeartbeats 4000000 in
theorem wX9_layersOf_L44 {p : Program} {l : Launch} {e : Env} {s : State} {m : MethodId} {args : Array Value} {below : List Frame} {meth : Method} {c : Code} {D : va_G} {A : Nat → Prop} {ad : Nat → Nat} {cI cX : ClassId} {r : Int32} {σ' : xSt} (X : xX p s m args c cX9_layersOf 4 RX9 D (tyM cI cX) A (wM ad cI cX)) (hr : meth.sig.returnType = (some .int)) (hl : meth.locks = false) (F : Nat) (t0 : Int32) (σ : xSt) (h : mX9_layersOf_L44 F t0 σ = some (r, σ')) : xG p l e ({ frames := 6, cells := 0, slots := 0, locals := 138 }) s m args below meth c (MQ below (xQi D A (wM ad cI cX) r σ') args s 0 0 A) 4 D A (wM ad cI cX) σ 44 [] [.int t0] := by
  unfold mX9_layersOf_L44 at h
  exact x_iret (pc := 44) X hr hl h dX9_layersOf_44
set_option maxRecDepth 100000 in
set_option maxHeartbeats 4000000 in
theorem kX9_layersOf (l : Launch) {D : va_G} {A : Nat → Prop} {ad : Nat → Nat} {cI cX : ClassId} (hD : ∀ σ, va_D A ((wM ad cI cX) σ)) (F : Nat) (v1 : Int32) (v2 : Int32) (v3 : Int32) (σ : xSt) (r : Int32) (σ' : xSt) (h : mX9_layersOf F v1 v2 v3 σ = some (r, σ')) : xM l yX9_layersOf cX9_layersOf 4 (some .int) ({ frames := 6, cells := 0, slots := 0, locals := 138 }) D (tyM cI cX) A (wM ad cI cX) [.ref (ad 0), .int v1, .int v2, .int v3] σ (xQi D A (wM ad cI cX) r σ') := by
  refine xM_of (lv := [(0, .ref (ad 0)), (1, .int v1), (2, .int v2), (3, .int v3)]) [.ref (ad 0), .int v1, .int v2, .int v3] (by decide) hD rfl (Nat.le_of_ble_eq_true rfl) ?_
  intro p e s m args below meth c X hr hl
  unfold mX9_layersOf at h
  refine x_aload_n (pc := 0) X dX9_layersOf_0 rfl 0 rfl ?_
  refine x_iload_n (pc := 1) X dX9_layersOf_1 rfl 1 rfl ?_
  obtain ⟨σ2, hq2, h⟩ := xb1_some h
  refine x_callvV (pc := 2) (As := [.int v1]) (rest := []) X (kX9_runsTold l X.2.2.2.2.2.2.2 F _ _ _ hq2) kvX9_218 rfl (qX9) ⟨rfl, rfl, Nat.le_of_ble_eq_true rfl, Nat.le_of_ble_eq_true rfl⟩ rfl rfl (Nat.le_of_ble_eq_true rfl) dX9_layersOf_2 ?_
  refine x_iload_n (pc := 5) X dX9_layersOf_5 rfl 3 rfl ?_
  refine x_iconst (pc := 6) (v := (-1)) X dX9_layersOf_6 (by decide) ?_
  refine x_icmp_ne (pc := 7) X 19 dX9_layersOf_7 (by decide) (fun hc => ?_) (fun hc => ?_)
  · have h := xif hc h
    refine x_iload_n (pc := 19) X dX9_layersOf_19 rfl 3 rfl ?_
    refine x_aload_n (pc := 20) X dX9_layersOf_20 rfl 0 rfl ?_
    refine gX9_49 (pc := 21) X dX9_layersOf_21 ?_
    refine x_iload_n (pc := 24) X dX9_layersOf_24 rfl 2 rfl ?_
    obtain ⟨hb25, h⟩ := xck_some h
    refine x_iald (pc := 25) X 14 0 (qaX9_many) rfl hb25 dX9_layersOf_25 ?_
    refine x_icmp_ge (pc := 26) X 43 dX9_layersOf_26 (by decide) (fun hc => ?_) (fun hc => ?_)
    · have h := xit hc h
      refine x_iconst (pc := 43) (v := (-1)) X dX9_layersOf_43 (by decide) ?_
      refine x_sub [] rfl ?_
      exact wX9_layersOf_L44 X hr hl F _ _ h
    · have h := xif hc h
      refine x_aload_n (pc := 29) X dX9_layersOf_29 rfl 0 rfl ?_
      refine gX9_52 (pc := 30) X dX9_layersOf_30 ?_
      refine x_bipush (pc := 33) (v := 6) X dX9_layersOf_33 (by decide) ?_
      refine x_iload_n (pc := 35) X dX9_layersOf_35 rfl 2 rfl ?_
      refine x_imul (pc := 36) X dX9_layersOf_36 ?_
      refine x_iload_n (pc := 37) X dX9_layersOf_37 rfl 3 rfl ?_
      refine x_iadd (pc := 38) X dX9_layersOf_38 ?_
      obtain ⟨hb39, h⟩ := xck_some h
      refine x_iald (pc := 39) X 15 0 (qaX9_ofWhom) rfl hb39 dX9_layersOf_39 ?_
      refine x_goto (pc := 40) X 44 dX9_layersOf_40 (by decide) ?_
      refine x_sub [] rfl ?_
      exact wX9_layersOf_L44 X hr hl F _ _ h
  · have h := xit hc h
    refine x_aload_n (pc := 10) X dX9_layersOf_10 rfl 0 rfl ?_
    refine gX9_49 (pc := 11) X dX9_layersOf_11 ?_
    refine x_iload_n (pc := 14) X dX9_layersOf_14 rfl 2 rfl ?_
    obtain ⟨hb15, h⟩ := xck_some h
    refine x_iald (pc := 15) X 14 0 (qaX9_many) rfl hb15 dX9_layersOf_15 ?_
    refine x_goto (pc := 16) X 44 dX9_layersOf_16 (by decide) ?_
    refine x_sub [] rfl ?_
    exact wX9_layersOf_L44 X hr hl F _ _ h
set_option maxRecDepth 100000 in
set_option maxHeartbeats 4000000 in
theorem wX9_layers_L36 {p : Program} {l : Launch} {e : Env} {s : State} {m : MethodId} {args : Array Value} {below : List Frame} {meth : Method} {c : Code} {D : va_G} {A : Nat → Prop} {ad : Nat → Nat} {cI cX : ClassId} {r : Int32} {σ' : xSt} (X : xX p s m args c cX9_layers 4 RX9 D (tyM cI cX) A (wM ad cI cX)) (hr : meth.sig.returnType = (some .int)) (hl : meth.locks = false) (F : Nat) (t0 : Int32) (σ : xSt) (h : mX9_layers_L36 F t0 σ = some (r, σ')) : xG p l e ({ frames := 7, cells := 0, slots := 0, locals := 161 }) s m args below meth c (MQ below (xQi D A (wM ad cI cX) r σ') args s 0 0 A) 4 D A (wM ad cI cX) σ 36 [] [.int t0] := by
  unfold mX9_layers_L36 at h
  exact x_iret (pc := 36) X hr hl h dX9_layers_36
set_option maxRecDepth 100000 in
set_option maxHeartbeats 4000000 in
theorem wX9_layers_L34 {p : Program} {l : Launch} {e : Env} {s : State} {m : MethodId} {args : Array Value} {below : List Frame} {meth : Method} {c : Code} {D : va_G} {A : Nat → Prop} {ad : Nat → Nat} {cI cX : ClassId} {r : Int32} {σ' : xSt} (X : xX p s m args c cX9_layers 4 RX9 D (tyM cI cX) A (wM ad cI cX)) (hr : meth.sig.returnType = (some .int)) (hl : meth.locks = false) (F : Nat) (σ : xSt) (h : mX9_layers_L34 F σ = some (r, σ')) : xG p l e ({ frames := 7, cells := 0, slots := 0, locals := 161 }) s m args below meth c (MQ below (xQi D A (wM ad cI cX) r σ') args s 0 0 A) 4 D A (wM ad cI cX) σ 34 [] [] := by
  unfold mX9_layers_L34 at h
  refine x_bipush (pc := 34) (v := (-2)) X dX9_layers_34 (by decide) ?_
  refine x_sub [] rfl ?_
  exact wX9_layers_L36 X hr hl F _ _ h
set_option maxRecDepth 100000 in
set_option maxHeartbeats 4000000 in
theorem kX9_layers (l : Launch) {D : va_G} {A : Nat → Prop} {ad : Nat → Nat} {cI cX : ClassId} (hD : ∀ σ, va_D A ((wM ad cI cX) σ)) (F : Nat) (v1 : Int32) (v2 : Int32) (v3 : Int32) (σ : xSt) (r : Int32) (σ' : xSt) (h : mX9_layers F v1 v2 v3 σ = some (r, σ')) : xM l yX9_layers cX9_layers 4 (some .int) ({ frames := 7, cells := 0, slots := 0, locals := 161 }) D (tyM cI cX) A (wM ad cI cX) [.ref (ad 0), .int v1, .int v2, .int v3] σ (xQi D A (wM ad cI cX) r σ') := by
  refine xM_of (lv := [(0, .ref (ad 0)), (1, .int v1), (2, .int v2), (3, .int v3)]) [.ref (ad 0), .int v1, .int v2, .int v3] (by decide) hD rfl (Nat.le_of_ble_eq_true rfl) ?_
  intro p e s m args below meth c X hr hl
  unfold mX9_layers at h
  refine x_iload_n (pc := 0) X dX9_layers_0 rfl 1 rfl ?_
  obtain ⟨r1, σ1, hq1, h⟩ := xb2_some h
  refine x_calliS (pc := 1) (As := [.int v1]) (rest := []) X (kX9_isHour l X.2.2.2.2.2.2.2 F _ _ _ _ hq1) kvX9_142 ⟨rfl, rfl, Nat.le_of_ble_eq_true rfl, Nat.le_of_ble_eq_true rfl⟩ rfl rfl (Nat.le_of_ble_eq_true rfl) dX9_layers_1 ?_
  refine x_if_eq (pc := 4) X 34 dX9_layers_4 (by decide) (fun hc => ?_) (fun hc => ?_)
  · have h := xit hc h
    refine x_sub [] rfl ?_
    exact wX9_layers_L34 X hr hl F _ h
  · have h := xif hc h
    refine x_aload_n (pc := 7) X dX9_layers_7 rfl 0 rfl ?_
    refine x_iload_n (pc := 8) X dX9_layers_8 rfl 2 rfl ?_
    obtain ⟨r9, σ9, hq9, h⟩ := xb2_some h
    refine x_calliV (pc := 9) (As := [.int v2]) (rest := []) X (kX9_isThing l X.2.2.2.2.2.2.2 F _ _ _ _ hq9) kvX9_130 rfl (qX9) ⟨rfl, rfl, Nat.le_of_ble_eq_true rfl, Nat.le_of_ble_eq_true rfl⟩ rfl rfl (Nat.le_of_ble_eq_true rfl) dX9_layers_9 ?_
    refine x_if_eq (pc := 12) X 34 dX9_layers_12 (by decide) (fun hc => ?_) (fun hc => ?_)
    · have h := xit hc h
      refine x_sub [] rfl ?_
      exact wX9_layers_L34 X hr hl F _ h
    · have h := xif hc h
      refine x_iload_n (pc := 15) X dX9_layers_15 rfl 3 rfl ?_
      refine x_iconst (pc := 16) (v := (-1)) X dX9_layers_16 (by decide) ?_
      refine x_iconst (pc := 17) (v := 4) X dX9_layers_17 (by decide) ?_
      obtain ⟨r18, σ18, hq18, h⟩ := xb2_some h
      refine x_calliS (pc := 18) (As := [.int v3, .int (-1), .int 4]) (rest := []) X (kX9_in l X.2.2.2.2.2.2.2 F _ _ _ _ _ _ hq18) kvX9_97 ⟨rfl, rfl, Nat.le_of_ble_eq_true rfl, Nat.le_of_ble_eq_true rfl⟩ rfl rfl (Nat.le_of_ble_eq_true rfl) dX9_layers_18 ?_
      refine x_if_eq (pc := 21) X 34 dX9_layers_21 (by decide) (fun hc => ?_) (fun hc => ?_)
      · have h := xit hc h
        refine x_sub [] rfl ?_
        exact wX9_layers_L34 X hr hl F _ h
      · have h := xif hc h
        refine x_aload_n (pc := 24) X dX9_layers_24 rfl 0 rfl ?_
        refine x_iload_n (pc := 25) X dX9_layers_25 rfl 1 rfl ?_
        refine x_iload_n (pc := 26) X dX9_layers_26 rfl 2 rfl ?_
        refine x_iload_n (pc := 27) X dX9_layers_27 rfl 3 rfl ?_
        obtain ⟨r28, σ28, hq28, h⟩ := xb2_some h
        refine x_calliV (pc := 28) (As := [.int v1, .int v2, .int v3]) (rest := []) X (kX9_layersOf l X.2.2.2.2.2.2.2 F _ _ _ _ _ _ hq28) kvX9_221 rfl (qX9) ⟨rfl, rfl, Nat.le_of_ble_eq_true rfl, Nat.le_of_ble_eq_true rfl⟩ rfl rfl (Nat.le_of_ble_eq_true rfl) dX9_layers_28 ?_
        refine x_goto (pc := 31) X 36 dX9_layers_31 (by decide) ?_
        refine x_sub [] rfl ?_
        exact wX9_layers_L36 X hr hl F _ _ h
set_option maxRecDepth 100000 in
set_option maxHeartbeats 4000000 in
theorem wX9_strongOf_L30 {p : Program} {l : Launch} {e : Env} {s : State} {m : MethodId} {args : Array Value} {below : List Frame} {meth : Method} {c : Code} {D : va_G} {A : Nat → Prop} {ad : Nat → Nat} {cI cX : ClassId} {r : Int32} {σ' : xSt} (X : xX p s m args c cX9_strongOf 4 RX9 D (tyM cI cX) A (wM ad cI cX)) (hr : meth.sig.returnType = (some .int)) (hl : meth.locks = false) (F : Nat) (t0 : Int32) (σ : xSt) (h : mX9_strongOf_L30 F t0 σ = some (r, σ')) : xG p l e ({ frames := 6, cells := 0, slots := 0, locals := 138 }) s m args below meth c (MQ below (xQi D A (wM ad cI cX) r σ') args s 0 0 A) 4 D A (wM ad cI cX) σ 30 [] [.int t0] := by
  unfold mX9_strongOf_L30 at h
  exact x_iret (pc := 30) X hr hl h dX9_strongOf_30
set_option maxRecDepth 100000 in
set_option maxHeartbeats 4000000 in
theorem kX9_strongOf (l : Launch) {D : va_G} {A : Nat → Prop} {ad : Nat → Nat} {cI cX : ClassId} (hD : ∀ σ, va_D A ((wM ad cI cX) σ)) (F : Nat) (v1 : Int32) (v2 : Int32) (v3 : Int32) (σ : xSt) (r : Int32) (σ' : xSt) (h : mX9_strongOf F v1 v2 v3 σ = some (r, σ')) : xM l yX9_strongOf cX9_strongOf 4 (some .int) ({ frames := 6, cells := 0, slots := 0, locals := 138 }) D (tyM cI cX) A (wM ad cI cX) [.ref (ad 0), .int v1, .int v2, .int v3] σ (xQi D A (wM ad cI cX) r σ') := by
  refine xM_of (lv := [(0, .ref (ad 0)), (1, .int v1), (2, .int v2), (3, .int v3)]) [.ref (ad 0), .int v1, .int v2, .int v3] (by decide) hD rfl (Nat.le_of_ble_eq_true rfl) ?_
  intro p e s m args below meth c X hr hl
  unfold mX9_strongOf at h
  refine x_aload_n (pc := 0) X dX9_strongOf_0 rfl 0 rfl ?_
  refine x_iload_n (pc := 1) X dX9_strongOf_1 rfl 1 rfl ?_
  obtain ⟨σ2, hq2, h⟩ := xb1_some h
  refine x_callvV (pc := 2) (As := [.int v1]) (rest := []) X (kX9_runsTold l X.2.2.2.2.2.2.2 F _ _ _ hq2) kvX9_218 rfl (qX9) ⟨rfl, rfl, Nat.le_of_ble_eq_true rfl, Nat.le_of_ble_eq_true rfl⟩ rfl rfl (Nat.le_of_ble_eq_true rfl) dX9_strongOf_2 ?_
  refine x_iload_n (pc := 5) X dX9_strongOf_5 rfl 3 rfl ?_
  refine x_aload_n (pc := 6) X dX9_strongOf_6 rfl 0 rfl ?_
  refine gX9_49 (pc := 7) X dX9_strongOf_7 ?_
  refine x_iload_n (pc := 10) X dX9_strongOf_10 rfl 2 rfl ?_
  obtain ⟨hb11, h⟩ := xck_some h
  refine x_iald (pc := 11) X 14 0 (qaX9_many) rfl hb11 dX9_strongOf_11 ?_
  refine x_icmp_ge (pc := 12) X 29 dX9_strongOf_12 (by decide) (fun hc => ?_) (fun hc => ?_)
  · have h := xit hc h
    refine x_iconst (pc := 29) (v := (-1)) X dX9_strongOf_29 (by decide) ?_
    refine x_sub [] rfl ?_
    exact wX9_strongOf_L30 X hr hl F _ _ h
  · have h := xif hc h
    refine x_aload_n (pc := 15) X dX9_strongOf_15 rfl 0 rfl ?_
    refine gX9_55 (pc := 16) X dX9_strongOf_16 ?_
    refine x_bipush (pc := 19) (v := 6) X dX9_strongOf_19 (by decide) ?_
    refine x_iload_n (pc := 21) X dX9_strongOf_21 rfl 2 rfl ?_
    refine x_imul (pc := 22) X dX9_strongOf_22 ?_
    refine x_iload_n (pc := 23) X dX9_strongOf_23 rfl 3 rfl ?_
    refine x_iadd (pc := 24) X dX9_strongOf_24 ?_
    obtain ⟨hb25, h⟩ := xck_some h
    refine x_iald (pc := 25) X 16 0 (qaX9_howStrong) rfl hb25 dX9_strongOf_25 ?_
    refine x_goto (pc := 26) X 30 dX9_strongOf_26 (by decide) ?_
    refine x_sub [] rfl ?_
    exact wX9_strongOf_L30 X hr hl F _ _ h
set_option maxRecDepth 100000 in
set_option maxHeartbeats 4000000 in
theorem wX9_strong_L36 {p : Program} {l : Launch} {e : Env} {s : State} {m : MethodId} {args : Array Value} {below : List Frame} {meth : Method} {c : Code} {D : va_G} {A : Nat → Prop} {ad : Nat → Nat} {cI cX : ClassId} {r : Int32} {σ' : xSt} (X : xX p s m args c cX9_strong 4 RX9 D (tyM cI cX) A (wM ad cI cX)) (hr : meth.sig.returnType = (some .int)) (hl : meth.locks = false) (F : Nat) (t0 : Int32) (σ : xSt) (h : mX9_strong_L36 F t0 σ = some (r, σ')) : xG p l e ({ frames := 7, cells := 0, slots := 0, locals := 161 }) s m args below meth c (MQ below (xQi D A (wM ad cI cX) r σ') args s 0 0 A) 4 D A (wM ad cI cX) σ 36 [] [.int t0] := by
  unfold mX9_strong_L36 at h
  exact x_iret (pc := 36) X hr hl h dX9_strong_36
set_option maxRecDepth 100000 in
set_option maxHeartbeats 4000000 in
theorem wX9_strong_L34 {p : Program} {l : Launch} {e : Env} {s : State} {m : MethodId} {args : Array Value} {below : List Frame} {meth : Method} {c : Code} {D : va_G} {A : Nat → Prop} {ad : Nat → Nat} {cI cX : ClassId} {r : Int32} {σ' : xSt} (X : xX p s m args c cX9_strong 4 RX9 D (tyM cI cX) A (wM ad cI cX)) (hr : meth.sig.returnType = (some .int)) (hl : meth.locks = false) (F : Nat) (σ : xSt) (h : mX9_strong_L34 F σ = some (r, σ')) : xG p l e ({ frames := 7, cells := 0, slots := 0, locals := 161 }) s m args below meth c (MQ below (xQi D A (wM ad cI cX) r σ') args s 0 0 A) 4 D A (wM ad cI cX) σ 34 [] [] := by
  unfold mX9_strong_L34 at h
  refine x_bipush (pc := 34) (v := (-2)) X dX9_strong_34 (by decide) ?_
  refine x_sub [] rfl ?_
  exact wX9_strong_L36 X hr hl F _ _ h
set_option maxRecDepth 100000 in
set_option maxHeartbeats 4000000 in
theorem kX9_strong (l : Launch) {D : va_G} {A : Nat → Prop} {ad : Nat → Nat} {cI cX : ClassId} (hD : ∀ σ, va_D A ((wM ad cI cX) σ)) (F : Nat) (v1 : Int32) (v2 : Int32) (v3 : Int32) (σ : xSt) (r : Int32) (σ' : xSt) (h : mX9_strong F v1 v2 v3 σ = some (r, σ')) : xM l yX9_strong cX9_strong 4 (some .int) ({ frames := 7, cells := 0, slots := 0, locals := 161 }) D (tyM cI cX) A (wM ad cI cX) [.ref (ad 0), .int v1, .int v2, .int v3] σ (xQi D A (wM ad cI cX) r σ') := by
  refine xM_of (lv := [(0, .ref (ad 0)), (1, .int v1), (2, .int v2), (3, .int v3)]) [.ref (ad 0), .int v1, .int v2, .int v3] (by decide) hD rfl (Nat.le_of_ble_eq_true rfl) ?_
  intro p e s m args below meth c X hr hl
  unfold mX9_strong at h
  refine x_iload_n (pc := 0) X dX9_strong_0 rfl 1 rfl ?_
  obtain ⟨r1, σ1, hq1, h⟩ := xb2_some h
  refine x_calliS (pc := 1) (As := [.int v1]) (rest := []) X (kX9_isHour l X.2.2.2.2.2.2.2 F _ _ _ _ hq1) kvX9_142 ⟨rfl, rfl, Nat.le_of_ble_eq_true rfl, Nat.le_of_ble_eq_true rfl⟩ rfl rfl (Nat.le_of_ble_eq_true rfl) dX9_strong_1 ?_
  refine x_if_eq (pc := 4) X 34 dX9_strong_4 (by decide) (fun hc => ?_) (fun hc => ?_)
  · have h := xit hc h
    refine x_sub [] rfl ?_
    exact wX9_strong_L34 X hr hl F _ h
  · have h := xif hc h
    refine x_aload_n (pc := 7) X dX9_strong_7 rfl 0 rfl ?_
    refine x_iload_n (pc := 8) X dX9_strong_8 rfl 2 rfl ?_
    obtain ⟨r9, σ9, hq9, h⟩ := xb2_some h
    refine x_calliV (pc := 9) (As := [.int v2]) (rest := []) X (kX9_isThing l X.2.2.2.2.2.2.2 F _ _ _ _ hq9) kvX9_130 rfl (qX9) ⟨rfl, rfl, Nat.le_of_ble_eq_true rfl, Nat.le_of_ble_eq_true rfl⟩ rfl rfl (Nat.le_of_ble_eq_true rfl) dX9_strong_9 ?_
    refine x_if_eq (pc := 12) X 34 dX9_strong_12 (by decide) (fun hc => ?_) (fun hc => ?_)
    · have h := xit hc h
      refine x_sub [] rfl ?_
      exact wX9_strong_L34 X hr hl F _ h
    · have h := xif hc h
      refine x_iload_n (pc := 15) X dX9_strong_15 rfl 3 rfl ?_
      refine x_iconst (pc := 16) (v := 0) X dX9_strong_16 (by decide) ?_
      refine x_iconst (pc := 17) (v := 4) X dX9_strong_17 (by decide) ?_
      obtain ⟨r18, σ18, hq18, h⟩ := xb2_some h
      refine x_calliS (pc := 18) (As := [.int v3, .int 0, .int 4]) (rest := []) X (kX9_in l X.2.2.2.2.2.2.2 F _ _ _ _ _ _ hq18) kvX9_97 ⟨rfl, rfl, Nat.le_of_ble_eq_true rfl, Nat.le_of_ble_eq_true rfl⟩ rfl rfl (Nat.le_of_ble_eq_true rfl) dX9_strong_18 ?_
      refine x_if_eq (pc := 21) X 34 dX9_strong_21 (by decide) (fun hc => ?_) (fun hc => ?_)
      · have h := xit hc h
        refine x_sub [] rfl ?_
        exact wX9_strong_L34 X hr hl F _ h
      · have h := xif hc h
        refine x_aload_n (pc := 24) X dX9_strong_24 rfl 0 rfl ?_
        refine x_iload_n (pc := 25) X dX9_strong_25 rfl 1 rfl ?_
        refine x_iload_n (pc := 26) X dX9_strong_26 rfl 2 rfl ?_
        refine x_iload_n (pc := 27) X dX9_strong_27 rfl 3 rfl ?_
        obtain ⟨r28, σ28, hq28, h⟩ := xb2_some h
        refine x_calliV (pc := 28) (As := [.int v1, .int v2, .int v3]) (rest := []) X (kX9_strongOf l X.2.2.2.2.2.2.2 F _ _ _ _ _ _ hq28) kvX9_224 rfl (qX9) ⟨rfl, rfl, Nat.le_of_ble_eq_true rfl, Nat.le_of_ble_eq_true rfl⟩ rfl rfl (Nat.le_of_ble_eq_true rfl) dX9_strong_28 ?_
        refine x_goto (pc := 31) X 36 dX9_strong_31 (by decide) ?_
        refine x_sub [] rfl ?_
        exact wX9_strong_L36 X hr hl F _ _ h
set_option maxRecDepth 100000 in
set_option maxHeartbeats 4000000 in
theorem wX9_tellsOf_L22 {p : Program} {l : Launch} {e : Env} {s : State} {m : MethodId} {args : Array Value} {below : List Frame} {meth : Method} {c : Code} {D : va_G} {A : Nat → Prop} {ad : Nat → Nat} {cI cX : ClassId} {r : Int32} {σ' : xSt} (X : xX p s m args c cX9_tellsOf 3 RX9 D (tyM cI cX) A (wM ad cI cX)) (hr : meth.sig.returnType = (some .int)) (hl : meth.locks = false) (F : Nat) (t0 : Int32) (σ : xSt) (h : mX9_tellsOf_L22 F t0 σ = some (r, σ')) : xG p l e ({ frames := 6, cells := 0, slots := 0, locals := 138 }) s m args below meth c (MQ below (xQi D A (wM ad cI cX) r σ') args s 0 0 A) 3 D A (wM ad cI cX) σ 22 [] [.int t0] := by
  unfold mX9_tellsOf_L22 at h
  exact x_iret (pc := 22) X hr hl h dX9_tellsOf_22
set_option maxRecDepth 100000 in
set_option maxHeartbeats 4000000 in
theorem kX9_tellsOf (l : Launch) {D : va_G} {A : Nat → Prop} {ad : Nat → Nat} {cI cX : ClassId} (hD : ∀ σ, va_D A ((wM ad cI cX) σ)) (F : Nat) (v1 : Int32) (v2 : Int32) (σ : xSt) (r : Int32) (σ' : xSt) (h : mX9_tellsOf F v1 v2 σ = some (r, σ')) : xM l yX9_tellsOf cX9_tellsOf 3 (some .int) ({ frames := 6, cells := 0, slots := 0, locals := 138 }) D (tyM cI cX) A (wM ad cI cX) [.ref (ad 0), .int v1, .int v2] σ (xQi D A (wM ad cI cX) r σ') := by
  refine xM_of (lv := [(0, .ref (ad 0)), (1, .int v1), (2, .int v2)]) [.ref (ad 0), .int v1, .int v2] (by decide) hD rfl (Nat.le_of_ble_eq_true rfl) ?_
  intro p e s m args below meth c X hr hl
  unfold mX9_tellsOf at h
  refine x_aload_n (pc := 0) X dX9_tellsOf_0 rfl 0 rfl ?_
  refine x_iload_n (pc := 1) X dX9_tellsOf_1 rfl 1 rfl ?_
  obtain ⟨σ2, hq2, h⟩ := xb1_some h
  refine x_callvV (pc := 2) (As := [.int v1]) (rest := []) X (kX9_runsTold l X.2.2.2.2.2.2.2 F _ _ _ hq2) kvX9_218 rfl (qX9) ⟨rfl, rfl, Nat.le_of_ble_eq_true rfl, Nat.le_of_ble_eq_true rfl⟩ rfl rfl (Nat.le_of_ble_eq_true rfl) dX9_tellsOf_2 ?_
  refine x_iload_n (pc := 5) X dX9_tellsOf_5 rfl 2 rfl ?_
  refine x_iconst (pc := 6) (v := (-1)) X dX9_tellsOf_6 (by decide) ?_
  refine x_icmp_ne (pc := 7) X 17 dX9_tellsOf_7 (by decide) (fun hc => ?_) (fun hc => ?_)
  · have h := xif hc h
    refine x_aload_n (pc := 17) X dX9_tellsOf_17 rfl 0 rfl ?_
    refine x_iload_n (pc := 18) X dX9_tellsOf_18 rfl 2 rfl ?_
    obtain ⟨r19, σ19, hq19, h⟩ := xb2_some h
    refine x_calliV (pc := 19) (As := [.int v2]) (rest := []) X (kX9_tellsNow l X.2.2.2.2.2.2.2 F _ _ _ _ hq19) kvX9_215 rfl (qX9) ⟨rfl, rfl, Nat.le_of_ble_eq_true rfl, Nat.le_of_ble_eq_true rfl⟩ rfl rfl (Nat.le_of_ble_eq_true rfl) dX9_tellsOf_19 ?_
    refine x_sub [] rfl ?_
    exact wX9_tellsOf_L22 X hr hl F _ _ h
  · have h := xit hc h
    refine x_aload_n (pc := 10) X dX9_tellsOf_10 rfl 0 rfl ?_
    obtain ⟨r11, σ11, hq11, h⟩ := xb2_some h
    refine x_calliV (pc := 11) (As := []) (rest := []) X (kX9_tellsAll l X.2.2.2.2.2.2.2 F _ _ _ hq11) kvX9_227 rfl (qX9) ⟨rfl, rfl, Nat.le_of_ble_eq_true rfl, Nat.le_of_ble_eq_true rfl⟩ rfl rfl (Nat.le_of_ble_eq_true rfl) dX9_tellsOf_11 ?_
    refine x_goto (pc := 14) X 22 dX9_tellsOf_14 (by decide) ?_
    refine x_sub [] rfl ?_
    exact wX9_tellsOf_L22 X hr hl F _ _ h
set_option maxRecDepth 100000 in
set_option maxHeartbeats 4000000 in
theorem wX9_tells_L31 {p : Program} {l : Launch} {e : Env} {s : State} {m : MethodId} {args : Array Value} {below : List Frame} {meth : Method} {c : Code} {D : va_G} {A : Nat → Prop} {ad : Nat → Nat} {cI cX : ClassId} {r : Int32} {σ' : xSt} (X : xX p s m args c cX9_tells 3 RX9 D (tyM cI cX) A (wM ad cI cX)) (hr : meth.sig.returnType = (some .int)) (hl : meth.locks = false) (F : Nat) (t0 : Int32) (σ : xSt) (h : mX9_tells_L31 F t0 σ = some (r, σ')) : xG p l e ({ frames := 7, cells := 0, slots := 0, locals := 160 }) s m args below meth c (MQ below (xQi D A (wM ad cI cX) r σ') args s 0 0 A) 3 D A (wM ad cI cX) σ 31 [] [.int t0] := by
  unfold mX9_tells_L31 at h
  exact x_iret (pc := 31) X hr hl h dX9_tells_31
set_option maxRecDepth 100000 in
set_option maxHeartbeats 4000000 in
theorem wX9_tells_L29 {p : Program} {l : Launch} {e : Env} {s : State} {m : MethodId} {args : Array Value} {below : List Frame} {meth : Method} {c : Code} {D : va_G} {A : Nat → Prop} {ad : Nat → Nat} {cI cX : ClassId} {r : Int32} {σ' : xSt} (X : xX p s m args c cX9_tells 3 RX9 D (tyM cI cX) A (wM ad cI cX)) (hr : meth.sig.returnType = (some .int)) (hl : meth.locks = false) (F : Nat) (σ : xSt) (h : mX9_tells_L29 F σ = some (r, σ')) : xG p l e ({ frames := 7, cells := 0, slots := 0, locals := 160 }) s m args below meth c (MQ below (xQi D A (wM ad cI cX) r σ') args s 0 0 A) 3 D A (wM ad cI cX) σ 29 [] [] := by
  unfold mX9_tells_L29 at h
  refine x_bipush (pc := 29) (v := (-2)) X dX9_tells_29 (by decide) ?_
  refine x_sub [] rfl ?_
  exact wX9_tells_L31 X hr hl F _ _ h
set_option maxRecDepth 100000 in
set_option maxHeartbeats 4000000 in
theorem wX9_tells_L20 {p : Program} {l : Launch} {e : Env} {s : State} {m : MethodId} {args : Array Value} {below : List Frame} {meth : Method} {c : Code} {D : va_G} {A : Nat → Prop} {ad : Nat → Nat} {cI cX : ClassId} {r : Int32} {σ' : xSt} (X : xX p s m args c cX9_tells 3 RX9 D (tyM cI cX) A (wM ad cI cX)) (hr : meth.sig.returnType = (some .int)) (hl : meth.locks = false) (F : Nat) (v1 : Int32) (v2 : Int32) (σ : xSt) (h : mX9_tells_L20 F v1 v2 σ = some (r, σ')) : xG p l e ({ frames := 7, cells := 0, slots := 0, locals := 160 }) s m args below meth c (MQ below (xQi D A (wM ad cI cX) r σ') args s 0 0 A) 3 D A (wM ad cI cX) σ 20 [(0, .ref (ad 0)), (1, .int v1), (2, .int v2)] [] := by
  unfold mX9_tells_L20 at h
  refine x_aload_n (pc := 20) X dX9_tells_20 rfl 0 rfl ?_
  refine x_iload_n (pc := 21) X dX9_tells_21 rfl 1 rfl ?_
  refine x_iload_n (pc := 22) X dX9_tells_22 rfl 2 rfl ?_
  obtain ⟨r23, σ23, hq23, h⟩ := xb2_some h
  refine x_calliV (pc := 23) (As := [.int v1, .int v2]) (rest := []) X (kX9_tellsOf l X.2.2.2.2.2.2.2 F _ _ _ _ _ hq23) kvX9_231 rfl (qX9) ⟨rfl, rfl, Nat.le_of_ble_eq_true rfl, Nat.le_of_ble_eq_true rfl⟩ rfl rfl (Nat.le_of_ble_eq_true rfl) dX9_tells_23 ?_
  refine x_goto (pc := 26) X 31 dX9_tells_26 (by decide) ?_
  refine x_sub [] rfl ?_
  exact wX9_tells_L31 X hr hl F _ _ h
set_option maxRecDepth 100000 in
set_option maxHeartbeats 4000000 in
theorem kX9_tells (l : Launch) {D : va_G} {A : Nat → Prop} {ad : Nat → Nat} {cI cX : ClassId} (hD : ∀ σ, va_D A ((wM ad cI cX) σ)) (F : Nat) (v1 : Int32) (v2 : Int32) (σ : xSt) (r : Int32) (σ' : xSt) (h : mX9_tells F v1 v2 σ = some (r, σ')) : xM l yX9_tells cX9_tells 3 (some .int) ({ frames := 7, cells := 0, slots := 0, locals := 160 }) D (tyM cI cX) A (wM ad cI cX) [.ref (ad 0), .int v1, .int v2] σ (xQi D A (wM ad cI cX) r σ') := by
  refine xM_of (lv := [(0, .ref (ad 0)), (1, .int v1), (2, .int v2)]) [.ref (ad 0), .int v1, .int v2] (by decide) hD rfl (Nat.le_of_ble_eq_true rfl) ?_
  intro p e s m args below meth c X hr hl
  unfold mX9_tells at h
  refine x_iload_n (pc := 0) X dX9_tells_0 rfl 1 rfl ?_
  obtain ⟨r1, σ1, hq1, h⟩ := xb2_some h
  refine x_calliS (pc := 1) (As := [.int v1]) (rest := []) X (kX9_isHour l X.2.2.2.2.2.2.2 F _ _ _ _ hq1) kvX9_142 ⟨rfl, rfl, Nat.le_of_ble_eq_true rfl, Nat.le_of_ble_eq_true rfl⟩ rfl rfl (Nat.le_of_ble_eq_true rfl) dX9_tells_1 ?_
  refine x_if_eq (pc := 4) X 29 dX9_tells_4 (by decide) (fun hc => ?_) (fun hc => ?_)
  · have h := xit hc h
    refine x_sub [] rfl ?_
    exact wX9_tells_L29 X hr hl F _ h
  · have h := xif hc h
    refine x_iload_n (pc := 7) X dX9_tells_7 rfl 2 rfl ?_
    refine x_iconst (pc := 8) (v := (-1)) X dX9_tells_8 (by decide) ?_
    refine x_icmp_eq (pc := 9) X 20 dX9_tells_9 (by decide) (fun hc => ?_) (fun hc => ?_)
    · have h := xit hc h
      refine x_sub [0, 1, 2] rfl ?_
      exact wX9_tells_L20 X hr hl F _ _ _ h
    · have h := xif hc h
      refine x_aload_n (pc := 12) X dX9_tells_12 rfl 0 rfl ?_
      refine x_iload_n (pc := 13) X dX9_tells_13 rfl 2 rfl ?_
      obtain ⟨r14, σ14, hq14, h⟩ := xb2_some h
      refine x_calliV (pc := 14) (As := [.int v2]) (rest := []) X (kX9_isThing l X.2.2.2.2.2.2.2 F _ _ _ _ hq14) kvX9_130 rfl (qX9) ⟨rfl, rfl, Nat.le_of_ble_eq_true rfl, Nat.le_of_ble_eq_true rfl⟩ rfl rfl (Nat.le_of_ble_eq_true rfl) dX9_tells_14 ?_
      refine x_if_eq (pc := 17) X 29 dX9_tells_17 (by decide) (fun hc => ?_) (fun hc => ?_)
      · have h := xit hc h
        refine x_sub [] rfl ?_
        exact wX9_tells_L29 X hr hl F _ h
      · have h := xif hc h
        refine x_sub [0, 1, 2] rfl ?_
        exact wX9_tells_L20 X hr hl F _ _ _ h
set_option maxRecDepth 100000 in
set_option maxHeartbeats 4000000 in
theorem wX9_nowhereOf_L109 {p : Program} {l : Launch} {e : Env} {s : State} {m : MethodId} {args : Array Value} {below : List Frame} {meth : Method} {c : Code} {D : va_G} {A : Nat → Prop} {ad : Nat → Nat} {cI cX : ClassId} {r : Int32} {σ' : xSt} (X : xX p s m args c cX9_nowhereOf 7 RX9 D (tyM cI cX) A (wM ad cI cX)) (hr : meth.sig.returnType = (some .int)) (hl : meth.locks = false) (F : Nat) (v3 : Int32) (σ : xSt) (h : mX9_nowhereOf_L109 F v3 σ = some (r, σ')) : xG p l e ({ frames := 6, cells := 0, slots := 0, locals := 138 }) s m args below meth c (MQ below (xQi D A (wM ad cI cX) r σ') args s 0 0 A) 7 D A (wM ad cI cX) σ 109 [(3, .int v3)] [] := by
  unfold mX9_nowhereOf_L109 at h
  refine x_iload_n (pc := 109) X dX9_nowhereOf_109 rfl 0 rfl ?_
  exact x_iret (pc := 110) X hr hl h dX9_nowhereOf_110
set_option maxRecDepth 100000 in
set_option maxHeartbeats 4000000 in
theorem wX9_nowhereOf_L101 {p : Program} {l : Launch} {e : Env} {s : State} {m : MethodId} {args : Array Value} {below : List Frame} {meth : Method} {c : Code} {D : va_G} {A : Nat → Prop} {ad : Nat → Nat} {cI cX : ClassId} {r : Int32} {σ' : xSt} {c15 : Int32 → Int32 → Int32 → Int32 → xSt → Option (Int32 × xSt)} (X : xX p s m args c cX9_nowhereOf 7 RX9 D (tyM cI cX) A (wM ad cI cX)) (hr : meth.sig.returnType = (some .int)) (hl : meth.locks = false) (F : Nat) (hc15 : ∀ (v1 : Int32) (v2 : Int32) (v3 : Int32) (v4 : Int32) (σ : xSt), c15 v1 v2 v3 v4 σ = some (r, σ') → xG p l e ({ frames := 6, cells := 0, slots := 0, locals := 138 }) s m args below meth c (MQ below (xQi D A (wM ad cI cX) r σ') args s 0 0 A) 7 D A (wM ad cI cX) σ 15 [(0, .ref (ad 0)), (1, .int v1), (2, .int v2), (3, .int v3), (4, .int v4)] []) (v1 : Int32) (v2 : Int32) (v4 : Int32) (t0 : Int32) (t1 : Int32) (σ : xSt) (h : mX9_nowhereOf_L101 F c15 v1 v2 v4 t0 t1 σ = some (r, σ')) : xG p l e ({ frames := 6, cells := 0, slots := 0, locals := 138 }) s m args below meth c (MQ below (xQi D A (wM ad cI cX) r σ') args s 0 0 A) 7 D A (wM ad cI cX) σ 101 [(0, .ref (ad 0)), (1, .int v1), (2, .int v2), (4, .int v4)] [.int t1, .int t0] := by
  unfold mX9_nowhereOf_L101 at h
  refine x_ior (pc := 101) X dX9_nowhereOf_101 ?_
  refine x_istore_n (pc := 102) (lv' := [(3, .int (t0 ||| t1)), (0, .ref (ad 0)), (1, .int v1), (2, .int v2), (4, .int v4)]) X dX9_nowhereOf_102 rfl (by decide) rfl ?_
  refine x_iinc (pc := 103) (v := (v4 + 1)) (lv' := [(4, .int (v4 + 1)), (3, .int (t0 ||| t1)), (0, .ref (ad 0)), (1, .int v1), (2, .int v2)]) X dX9_nowhereOf_103 4 rfl rfl (by decide) rfl ?_
  refine x_goto (pc := 106) X 15 dX9_nowhereOf_106 (by decide) ?_
  refine x_sub [2, 3, 4, 1, 0] rfl ?_
  exact hc15 _ _ _ _ _ h
set_option maxRecDepth 100000 in
set_option maxHeartbeats 4000000 in
theorem wX9_nowhereOf_L85 {p : Program} {l : Launch} {e : Env} {s : State} {m : MethodId} {args : Array Value} {below : List Frame} {meth : Method} {c : Code} {D : va_G} {A : Nat → Prop} {ad : Nat → Nat} {cI cX : ClassId} {r : Int32} {σ' : xSt} {c15 : Int32 → Int32 → Int32 → Int32 → xSt → Option (Int32 × xSt)} (X : xX p s m args c cX9_nowhereOf 7 RX9 D (tyM cI cX) A (wM ad cI cX)) (hr : meth.sig.returnType = (some .int)) (hl : meth.locks = false) (F : Nat) (hc15 : ∀ (v1 : Int32) (v2 : Int32) (v3 : Int32) (v4 : Int32) (σ : xSt), c15 v1 v2 v3 v4 σ = some (r, σ') → xG p l e ({ frames := 6, cells := 0, slots := 0, locals := 138 }) s m args below meth c (MQ below (xQi D A (wM ad cI cX) r σ') args s 0 0 A) 7 D A (wM ad cI cX) σ 15 [(0, .ref (ad 0)), (1, .int v1), (2, .int v2), (3, .int v3), (4, .int v4)] []) (v1 : Int32) (v2 : Int32) (v3 : Int32) (v4 : Int32) (v5 : Int32) (t0 : Int32) (σ : xSt) (h : mX9_nowhereOf_L85 F c15 v1 v2 v3 v4 v5 t0 σ = some (r, σ')) : xG p l e ({ frames := 6, cells := 0, slots := 0, locals := 138 }) s m args below meth c (MQ below (xQi D A (wM ad cI cX) r σ') args s 0 0 A) 7 D A (wM ad cI cX) σ 85 [(0, .ref (ad 0)), (1, .int v1), (2, .int v2), (3, .int v3), (4, .int v4), (5, .int v5)] [.int t0] := by
  unfold mX9_nowhereOf_L85 at h
  refine x_istore (pc := 85) (lv' := [(6, .int t0), (0, .ref (ad 0)), (1, .int v1), (2, .int v2), (3, .int v3), (4, .int v4), (5, .int v5)]) X dX9_nowhereOf_85 (by decide) rfl ?_
  refine x_iload_n (pc := 87) X dX9_nowhereOf_87 rfl 4 rfl ?_
  refine x_iload (pc := 88) X dX9_nowhereOf_88 0 rfl ?_
  refine x_if_eq (pc := 90) X 100 dX9_nowhereOf_90 (by decide) (fun hc => ?_) (fun hc => ?_)
  · have h := xit hc h
    refine x_iconst (pc := 100) (v := 0) X dX9_nowhereOf_100 (by decide) ?_
    refine x_sub [1, 2, 3, 5] rfl ?_
    exact wX9_nowhereOf_L101 X hr hl F hc15 _ _ _ _ _ _ h
  · have h := xif hc h
    refine x_iconst (pc := 93) (v := 1) X dX9_nowhereOf_93 (by decide) ?_
    refine x_iload (pc := 94) X dX9_nowhereOf_94 6 rfl ?_
    refine x_ishl (pc := 96) X dX9_nowhereOf_96 ?_
    refine x_goto (pc := 97) X 101 dX9_nowhereOf_97 (by decide) ?_
    refine x_sub [1, 2, 3, 5] rfl ?_
    exact wX9_nowhereOf_L101 X hr hl F hc15 _ _ _ _ _ _ h
set_option maxRecDepth 100000 in
set_option maxHeartbeats 4000000 in
theorem wX9_nowhereOf_L84 {p : Program} {l : Launch} {e : Env} {s : State} {m : MethodId} {args : Array Value} {below : List Frame} {meth : Method} {c : Code} {D : va_G} {A : Nat → Prop} {ad : Nat → Nat} {cI cX : ClassId} {r : Int32} {σ' : xSt} {c15 : Int32 → Int32 → Int32 → Int32 → xSt → Option (Int32 × xSt)} (X : xX p s m args c cX9_nowhereOf 7 RX9 D (tyM cI cX) A (wM ad cI cX)) (hr : meth.sig.returnType = (some .int)) (hl : meth.locks = false) (F : Nat) (hc15 : ∀ (v1 : Int32) (v2 : Int32) (v3 : Int32) (v4 : Int32) (σ : xSt), c15 v1 v2 v3 v4 σ = some (r, σ') → xG p l e ({ frames := 6, cells := 0, slots := 0, locals := 138 }) s m args below meth c (MQ below (xQi D A (wM ad cI cX) r σ') args s 0 0 A) 7 D A (wM ad cI cX) σ 15 [(0, .ref (ad 0)), (1, .int v1), (2, .int v2), (3, .int v3), (4, .int v4)] []) (v1 : Int32) (v2 : Int32) (v3 : Int32) (v4 : Int32) (v5 : Int32) (σ : xSt) (h : mX9_nowhereOf_L84 F c15 v1 v2 v3 v4 v5 σ = some (r, σ')) : xG p l e ({ frames := 6, cells := 0, slots := 0, locals := 138 }) s m args below meth c (MQ below (xQi D A (wM ad cI cX) r σ') args s 0 0 A) 7 D A (wM ad cI cX) σ 84 [(0, .ref (ad 0)), (1, .int v1), (2, .int v2), (3, .int v3), (4, .int v4), (5, .int v5)] [] := by
  unfold mX9_nowhereOf_L84 at h
  refine x_iconst (pc := 84) (v := 0) X dX9_nowhereOf_84 (by decide) ?_
  refine x_sub [0, 1, 2, 3, 4, 5] rfl ?_
  exact wX9_nowhereOf_L85 X hr hl F hc15 _ _ _ _ _ _ _ h
set_option maxRecDepth 100000 in
set_option maxHeartbeats 4000000 in
theorem wX9_nowhereOf_S15 {p : Program} {l : Launch} {e : Env} {s : State} {m : MethodId} {args : Array Value} {below : List Frame} {meth : Method} {c : Code} {D : va_G} {A : Nat → Prop} {ad : Nat → Nat} {cI cX : ClassId} {r : Int32} {σ' : xSt} {c15 : Int32 → Int32 → Int32 → Int32 → xSt → Option (Int32 × xSt)} (X : xX p s m args c cX9_nowhereOf 7 RX9 D (tyM cI cX) A (wM ad cI cX)) (hr : meth.sig.returnType = (some .int)) (hl : meth.locks = false) (F : Nat) (hc15 : ∀ (v1 : Int32) (v2 : Int32) (v3 : Int32) (v4 : Int32) (σ : xSt), c15 v1 v2 v3 v4 σ = some (r, σ') → xG p l e ({ frames := 6, cells := 0, slots := 0, locals := 138 }) s m args below meth c (MQ below (xQi D A (wM ad cI cX) r σ') args s 0 0 A) 7 D A (wM ad cI cX) σ 15 [(0, .ref (ad 0)), (1, .int v1), (2, .int v2), (3, .int v3), (4, .int v4)] []) (v1 : Int32) (v2 : Int32) (v3 : Int32) (v4 : Int32) (σ : xSt) (h : mX9_nowhereOf_S15 F c15 v1 v2 v3 v4 σ = some (r, σ')) : xG p l e ({ frames := 6, cells := 0, slots := 0, locals := 138 }) s m args below meth c (MQ below (xQi D A (wM ad cI cX) r σ') args s 0 0 A) 7 D A (wM ad cI cX) σ 15 [(0, .ref (ad 0)), (1, .int v1), (2, .int v2), (3, .int v3), (4, .int v4)] [] := by
  unfold mX9_nowhereOf_S15 at h
  refine x_iload (pc := 15) X dX9_nowhereOf_15 4 rfl ?_
  refine x_aload_n (pc := 17) X dX9_nowhereOf_17 rfl 0 rfl ?_
  refine gX9_151 (pc := 18) X dX9_nowhereOf_18 ?_
  refine x_icmp_ge (pc := 21) X 109 dX9_nowhereOf_21 (by decide) (fun hc => ?_) (fun hc => ?_)
  · have h := xit hc h
    refine x_sub [3] rfl ?_
    exact wX9_nowhereOf_L109 X hr hl F _ _ h
  · have h := xif hc h
    refine x_aload_n (pc := 24) X dX9_nowhereOf_24 rfl 0 rfl ?_
    refine gX9_37 (pc := 25) X dX9_nowhereOf_25 ?_
    refine x_iload (pc := 28) X dX9_nowhereOf_28 4 rfl ?_
    obtain ⟨hb30, h⟩ := xck_some h
    refine x_iald (pc := 30) X 10 0 (qaX9_sitPerson) rfl hb30 dX9_nowhereOf_30 ?_
    refine x_istore (pc := 31) (lv' := [(5, .int (xA σ 12 (Int32.toNatClampNeg v4))), (0, .ref (ad 0)), (1, .int v1), (2, .int v2), (3, .int v3), (4, .int v4)]) X dX9_nowhereOf_31 (by decide) rfl ?_
    refine x_aload_n (pc := 33) X dX9_nowhereOf_33 rfl 1 rfl ?_
    refine gX9_34 (pc := 34) X dX9_nowhereOf_34 ?_
    refine x_iload (pc := 37) X dX9_nowhereOf_37 5 rfl ?_
    obtain ⟨hb39, h⟩ := xck_some h
    refine x_iald (pc := 39) X 9 0 (qaX9_sitHour) rfl hb39 dX9_nowhereOf_39 ?_
    refine x_iload_n (pc := 40) X dX9_nowhereOf_40 rfl 2 rfl ?_
    refine x_icmp_gt (pc := 41) X 84 dX9_nowhereOf_41 (by decide) (fun hc => ?_) (fun hc => ?_)
    · have h := xit hc h
      refine x_sub [1, 2, 3, 4, 5, 0] rfl ?_
      exact wX9_nowhereOf_L84 X hr hl F hc15 _ _ _ _ _ _ h
    · have h := xif hc h
      refine x_iload (pc := 44) X dX9_nowhereOf_44 0 rfl ?_
      refine x_aload_n (pc := 46) X dX9_nowhereOf_46 rfl 1 rfl ?_
      refine gX9_113 (pc := 47) X dX9_nowhereOf_47 ?_
      refine x_icmp_ge (pc := 50) X 84 dX9_nowhereOf_50 (by decide) (fun hc => ?_) (fun hc => ?_)
      · have h := xit hc h
        refine x_sub [1, 2, 3, 4, 5, 0] rfl ?_
        exact wX9_nowhereOf_L84 X hr hl F hc15 _ _ _ _ _ _ h
      · have h := xif hc h
        refine x_aload_n (pc := 53) X dX9_nowhereOf_53 rfl 1 rfl ?_
        refine gX9_40 (pc := 54) X dX9_nowhereOf_54 ?_
        refine x_iload (pc := 57) X dX9_nowhereOf_57 5 rfl ?_
        obtain ⟨hb59, h⟩ := xck_some h
        refine x_iald (pc := 59) X 11 0 (qaX9_sitThing) rfl hb59 dX9_nowhereOf_59 ?_
        refine x_aload_n (pc := 60) X dX9_nowhereOf_60 rfl 1 rfl ?_
        refine gX9_109 (pc := 61) X dX9_nowhereOf_61 ?_
        refine x_icmp_ge (pc := 64) X 84 dX9_nowhereOf_64 (by decide) (fun hc => ?_) (fun hc => ?_)
        · have h := xit hc h
          refine x_sub [1, 2, 3, 4, 5, 0] rfl ?_
          exact wX9_nowhereOf_L84 X hr hl F hc15 _ _ _ _ _ _ h
        · have h := xif hc h
          refine x_iload_n (pc := 67) X dX9_nowhereOf_67 rfl 3 rfl ?_
          refine x_aload_n (pc := 68) X dX9_nowhereOf_68 rfl 1 rfl ?_
          refine x_iload (pc := 69) X dX9_nowhereOf_69 0 rfl ?_
          obtain ⟨r71, σ71, hq71, h⟩ := xb2_some h
          refine x_calliV (pc := 71) (As := [.int (xA σ 12 (Int32.toNatClampNeg v4))]) (rest := [.int v2]) X (kX9_smellOf l X.2.2.2.2.2.2.2 F _ _ _ _ hq71) kvX9_133 rfl (qX9) ⟨rfl, rfl, Nat.le_of_ble_eq_true rfl, Nat.le_of_ble_eq_true rfl⟩ rfl rfl (Nat.le_of_ble_eq_true rfl) dX9_nowhereOf_71 ?_
          obtain ⟨r74, σ74, hq74, h⟩ := xb2_some h
          refine x_calliS (pc := 74) (As := [.int v2, .int r71]) (rest := []) X (kX9_isIn l X.2.2.2.2.2.2.2 F _ _ _ _ _ hq74) kvX9_199 ⟨rfl, rfl, Nat.le_of_ble_eq_true rfl, Nat.le_of_ble_eq_true rfl⟩ rfl rfl (Nat.le_of_ble_eq_true rfl) dX9_nowhereOf_74 ?_
          refine x_if_ne (pc := 77) X 84 dX9_nowhereOf_77 (by decide) (fun hc => ?_) (fun hc => ?_)
          · have h := xif hc h
            refine x_sub [1, 2, 3, 4, 5, 0] rfl ?_
            exact wX9_nowhereOf_L84 X hr hl F hc15 _ _ _ _ _ _ h
          · have h := xit hc h
            refine x_iconst (pc := 80) (v := 1) X dX9_nowhereOf_80 (by decide) ?_
            refine x_goto (pc := 81) X 85 dX9_nowhereOf_81 (by decide) ?_
            refine x_sub [1, 2, 3, 4, 5, 0] rfl ?_
            exact wX9_nowhereOf_L85 X hr hl F hc15 _ _ _ _ _ _ _ h
theorem wX9_nowhereOf_L15 {p : Program} {l : Launch} {e : Env} {s : State} {m : MethodId} {args : Array Value} {below : List Frame} {meth : Method} {c : Code} {D : va_G} {A : Nat → Prop} {ad : Nat → Nat} {cI cX : ClassId} {r : Int32} {σ' : xSt} (X : xX p s m args c cX9_nowhereOf 7 RX9 D (tyM cI cX) A (wM ad cI cX)) (hr : meth.sig.returnType = (some .int)) (hl : meth.locks = false) (F : Nat) : ∀ (n : Nat) (v1 : Int32) (v2 : Int32) (v3 : Int32) (v4 : Int32) (σ : xSt), mX9_nowhereOf_L15 F n v1 v2 v3 v4 σ = some (r, σ') → xG p l e ({ frames := 6, cells := 0, slots := 0, locals := 138 }) s m args below meth c (MQ below (xQi D A (wM ad cI cX) r σ') args s 0 0 A) 7 D A (wM ad cI cX) σ 15 [(0, .ref (ad 0)), (1, .int v1), (2, .int v2), (3, .int v3), (4, .int v4)] [] := by
  intro n
  induction n with
  | zero => intro v1 v2 v3 v4 σ h; cases h
  | succ n ih => intro v1 v2 v3 v4 σ h; exact wX9_nowhereOf_S15 X hr hl F ih v1 v2 v3 v4 σ h
set_option maxRecDepth 100000 in
set_option maxHeartbeats 4000000 in
theorem kX9_nowhereOf (l : Launch) {D : va_G} {A : Nat → Prop} {ad : Nat → Nat} {cI cX : ClassId} (hD : ∀ σ, va_D A ((wM ad cI cX) σ)) (F : Nat) (v1 : Int32) (σ : xSt) (r : Int32) (σ' : xSt) (h : mX9_nowhereOf F v1 σ = some (r, σ')) : xM l yX9_nowhereOf cX9_nowhereOf 7 (some .int) ({ frames := 6, cells := 0, slots := 0, locals := 138 }) D (tyM cI cX) A (wM ad cI cX) [.ref (ad 0), .int v1] σ (xQi D A (wM ad cI cX) r σ') := by
  refine xM_of (lv := [(0, .ref (ad 0)), (1, .int v1)]) [.ref (ad 0), .int v1] (by decide) hD rfl (Nat.le_of_ble_eq_true rfl) ?_
  intro p e s m args below meth c X hr hl
  unfold mX9_nowhereOf at h
  refine x_aload_n (pc := 0) X dX9_nowhereOf_0 rfl 0 rfl ?_
  refine x_iload_n (pc := 1) X dX9_nowhereOf_1 rfl 1 rfl ?_
  obtain ⟨σ2, hq2, h⟩ := xb1_some h
  refine x_callvV (pc := 2) (As := [.int v1]) (rest := []) X (kX9_runsTold l X.2.2.2.2.2.2.2 F _ _ _ hq2) kvX9_218 rfl (qX9) ⟨rfl, rfl, Nat.le_of_ble_eq_true rfl, Nat.le_of_ble_eq_true rfl⟩ rfl rfl (Nat.le_of_ble_eq_true rfl) dX9_nowhereOf_2 ?_
  refine x_aload_n (pc := 5) X dX9_nowhereOf_5 rfl 0 rfl ?_
  obtain ⟨r6, σ6, hq6, h⟩ := xb2_some h
  refine x_calliV (pc := 6) (As := []) (rest := []) X (kX9_tellsAll l X.2.2.2.2.2.2.2 F _ _ _ hq6) kvX9_227 rfl (qX9) ⟨rfl, rfl, Nat.le_of_ble_eq_true rfl, Nat.le_of_ble_eq_true rfl⟩ rfl rfl (Nat.le_of_ble_eq_true rfl) dX9_nowhereOf_6 ?_
  refine x_istore_n (pc := 9) (lv' := [(2, .int r6), (0, .ref (ad 0)), (1, .int v1)]) X dX9_nowhereOf_9 rfl (by decide) rfl ?_
  refine x_iconst (pc := 10) (v := 0) X dX9_nowhereOf_10 (by decide) ?_
  refine x_istore_n (pc := 11) (lv' := [(3, .int 0), (2, .int r6), (0, .ref (ad 0)), (1, .int v1)]) X dX9_nowhereOf_11 rfl (by decide) rfl ?_
  refine x_iconst (pc := 12) (v := 0) X dX9_nowhereOf_12 (by decide) ?_
  refine x_istore (pc := 13) (lv' := [(4, .int 0), (3, .int 0), (2, .int r6), (0, .ref (ad 0)), (1, .int v1)]) X dX9_nowhereOf_13 (by decide) rfl ?_
  refine x_sub [3, 4, 2, 1, 0] rfl ?_
  exact wX9_nowhereOf_L15 X hr hl F F _ _ _ _ _ h
