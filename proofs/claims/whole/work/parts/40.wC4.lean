set_option maxRecDepth 100000 in
set_option maxHeartbeats 4000000 in
theorem wX8_draughts_L187 {p : Program} {l : Launch} {e : Env} {s : State} {m : MethodId} {args : Array Value} {below : List Frame} {meth : Method} {c : Code} {D : va_G} {A : Nat → Prop} {ad : Nat → Nat} {cI cX : ClassId} {r : Int64} {σ' : xSt} (X : xX p s m args c cX8_draughts 13 RX8 D (tyC cI cX) A (wC ad cI cX)) (hr : meth.sig.returnType = (some .long)) (hl : meth.locks = false) (F : Nat) (t0 : Int64) (σ : xSt) (h : mX8_draughts_L187 F t0 σ = some (r, σ')) : xG p l e ({ frames := 2, cells := 0, slots := 0, locals := 55 }) s m args below meth c (MQ below (xQl D A (wC ad cI cX) r σ') args s 0 0 A) 13 D A (wC ad cI cX) σ 187 [] [.long t0] := by
  unfold mX8_draughts_L187 at h
  exact x_lret (pc := 187) X hr hl h dX8_draughts_187
set_option maxRecDepth 100000 in
set_option maxHeartbeats 4000000 in
theorem wX8_draughts_L149 {p : Program} {l : Launch} {e : Env} {s : State} {m : MethodId} {args : Array Value} {below : List Frame} {meth : Method} {c : Code} {D : va_G} {A : Nat → Prop} {ad : Nat → Nat} {cI cX : ClassId} {r : Int64} {σ' : xSt} (X : xX p s m args c cX8_draughts 13 RX8 D (tyC cI cX) A (wC ad cI cX)) (hr : meth.sig.returnType = (some .long)) (hl : meth.locks = false) (F : Nat) (v5 : Int32) (v6 : Int32) (v7 : Int64) (σ : xSt) (h : mX8_draughts_L149 F v5 v6 v7 σ = some (r, σ')) : xG p l e ({ frames := 2, cells := 0, slots := 0, locals := 55 }) s m args below meth c (MQ below (xQl D A (wC ad cI cX) r σ') args s 0 0 A) 13 D A (wC ad cI cX) σ 149 [(0, .ref (ad 0)), (5, .int v5), (6, .int v6), (7, .long v7)] [] := by
  unfold mX8_draughts_L149 at h
  refine x_aload_n (pc := 149) X dX8_draughts_149 rfl 0 rfl ?_
  refine gX8_46 (pc := 150) X dX8_draughts_150 ?_
  refine x_lload (pc := 153) X dX8_draughts_153 3 rfl ?_
  refine x_bipush (pc := 155) (v := 16) X dX8_draughts_155 (by decide) ?_
  refine x_iload (pc := 157) X dX8_draughts_157 2 rfl ?_
  obtain ⟨r159, σ159, hq159, h⟩ := xb2_some h
  refine x_calllS (pc := 159) (As := [.int 16, .int v6]) (rest := [.long v7, .ref (ad 4)]) X (kX8_power l X.2.2.2.2.2.2.2 F _ _ _ _ _ hq159) kvX8_237 ⟨rfl, rfl, Nat.le_of_ble_eq_true rfl, Nat.le_of_ble_eq_true rfl⟩ rfl rfl (Nat.le_of_ble_eq_true rfl) dX8_draughts_159 ?_
  obtain ⟨σ162, hq162, h⟩ := xb1_some h
  refine x_callvV (pc := 162) (As := [.long v7, .long r159]) (rest := []) X (kX0_become l X.2.2.2.2.2.2.2 F _ _ _ _ hq162) kvX8_241 rfl (qX0) ⟨rfl, rfl, Nat.le_of_ble_eq_true rfl, Nat.le_of_ble_eq_true rfl⟩ rfl rfl (Nat.le_of_ble_eq_true rfl) dX8_draughts_162 ?_
  refine x_iload (pc := 165) X dX8_draughts_165 1 rfl ?_
  refine x_if_ne (pc := 167) X 180 dX8_draughts_167 (by decide) (fun hc => ?_) (fun hc => ?_)
  · have h := xif hc h
    refine x_aload_n (pc := 180) X dX8_draughts_180 rfl 0 rfl ?_
    refine gX8_46 (pc := 181) X dX8_draughts_181 ?_
    refine gX8_249 (pc := 184) X dX8_draughts_184 ?_
    refine x_sub [] rfl ?_
    exact wX8_draughts_L187 X hr hl F _ _ h
  · have h := xit hc h
    refine x_aload_n (pc := 170) X dX8_draughts_170 rfl 0 rfl ?_
    refine gX8_46 (pc := 171) X dX8_draughts_171 ?_
    refine gX8_245 (pc := 174) X dX8_draughts_174 ?_
    refine x_goto (pc := 177) X 187 dX8_draughts_177 (by decide) ?_
    refine x_sub [] rfl ?_
    exact wX8_draughts_L187 X hr hl F _ _ h
set_option maxRecDepth 100000 in
set_option maxHeartbeats 4000000 in
theorem wX8_draughts_L143 {p : Program} {l : Launch} {e : Env} {s : State} {m : MethodId} {args : Array Value} {below : List Frame} {meth : Method} {c : Code} {D : va_G} {A : Nat → Prop} {ad : Nat → Nat} {cI cX : ClassId} {r : Int64} {σ' : xSt} {c73 : Int32 → Int32 → Int32 → Int32 → Int32 → Int32 → Int64 → Int32 → xSt → Option (Int64 × xSt)} (X : xX p s m args c cX8_draughts 13 RX8 D (tyC cI cX) A (wC ad cI cX)) (hr : meth.sig.returnType = (some .long)) (hl : meth.locks = false) (F : Nat) (hc73 : ∀ (v1 : Int32) (v2 : Int32) (v3 : Int32) (v4 : Int32) (v5 : Int32) (v6 : Int32) (v7 : Int64) (v9 : Int32) (σ : xSt), c73 v1 v2 v3 v4 v5 v6 v7 v9 σ = some (r, σ') → xG p l e ({ frames := 2, cells := 0, slots := 0, locals := 55 }) s m args below meth c (MQ below (xQl D A (wC ad cI cX) r σ') args s 0 0 A) 13 D A (wC ad cI cX) σ 73 [(0, .ref (ad 0)), (1, .int v1), (2, .int v2), (3, .int v3), (4, .int v4), (5, .int v5), (6, .int v6), (7, .long v7), (9, .int v9)] []) (v1 : Int32) (v2 : Int32) (v3 : Int32) (v4 : Int32) (v5 : Int32) (v6 : Int32) (v7 : Int64) (v9 : Int32) (σ : xSt) (h : mX8_draughts_L143 F c73 v1 v2 v3 v4 v5 v6 v7 v9 σ = some (r, σ')) : xG p l e ({ frames := 2, cells := 0, slots := 0, locals := 55 }) s m args below meth c (MQ below (xQl D A (wC ad cI cX) r σ') args s 0 0 A) 13 D A (wC ad cI cX) σ 143 [(0, .ref (ad 0)), (1, .int v1), (2, .int v2), (3, .int v3), (4, .int v4), (5, .int v5), (6, .int v6), (7, .long v7), (9, .int v9)] [] := by
  unfold mX8_draughts_L143 at h
  refine x_iinc (pc := 143) (v := (v9 + 1)) (lv' := [(9, .int (v9 + 1)), (0, .ref (ad 0)), (1, .int v1), (2, .int v2), (3, .int v3), (4, .int v4), (5, .int v5), (6, .int v6), (7, .long v7)]) X dX8_draughts_143 8 rfl rfl (by decide) rfl ?_
  refine x_goto (pc := 146) X 73 dX8_draughts_146 (by decide) ?_
  refine x_sub [1, 2, 3, 4, 5, 6, 7, 8, 0] rfl ?_
  exact hc73 _ _ _ _ _ _ _ _ _ h
set_option maxRecDepth 100000 in
set_option maxHeartbeats 4000000 in
theorem wX8_draughts_S73 {p : Program} {l : Launch} {e : Env} {s : State} {m : MethodId} {args : Array Value} {below : List Frame} {meth : Method} {c : Code} {D : va_G} {A : Nat → Prop} {ad : Nat → Nat} {cI cX : ClassId} {r : Int64} {σ' : xSt} {c73 : Int32 → Int32 → Int32 → Int32 → Int32 → Int32 → Int64 → Int32 → xSt → Option (Int64 × xSt)} (X : xX p s m args c cX8_draughts 13 RX8 D (tyC cI cX) A (wC ad cI cX)) (hr : meth.sig.returnType = (some .long)) (hl : meth.locks = false) (F : Nat) (hc73 : ∀ (v1 : Int32) (v2 : Int32) (v3 : Int32) (v4 : Int32) (v5 : Int32) (v6 : Int32) (v7 : Int64) (v9 : Int32) (σ : xSt), c73 v1 v2 v3 v4 v5 v6 v7 v9 σ = some (r, σ') → xG p l e ({ frames := 2, cells := 0, slots := 0, locals := 55 }) s m args below meth c (MQ below (xQl D A (wC ad cI cX) r σ') args s 0 0 A) 13 D A (wC ad cI cX) σ 73 [(0, .ref (ad 0)), (1, .int v1), (2, .int v2), (3, .int v3), (4, .int v4), (5, .int v5), (6, .int v6), (7, .long v7), (9, .int v9)] []) (v1 : Int32) (v2 : Int32) (v3 : Int32) (v4 : Int32) (v5 : Int32) (v6 : Int32) (v7 : Int64) (v9 : Int32) (σ : xSt) (h : mX8_draughts_S73 F c73 v1 v2 v3 v4 v5 v6 v7 v9 σ = some (r, σ')) : xG p l e ({ frames := 2, cells := 0, slots := 0, locals := 55 }) s m args below meth c (MQ below (xQl D A (wC ad cI cX) r σ') args s 0 0 A) 13 D A (wC ad cI cX) σ 73 [(0, .ref (ad 0)), (1, .int v1), (2, .int v2), (3, .int v3), (4, .int v4), (5, .int v5), (6, .int v6), (7, .long v7), (9, .int v9)] [] := by
  unfold mX8_draughts_S73 at h
  refine x_iload (pc := 73) X dX8_draughts_73 8 rfl ?_
  refine x_iconst (pc := 75) (v := 1) X dX8_draughts_75 (by decide) ?_
  refine x_iload (pc := 76) X dX8_draughts_76 6 rfl ?_
  refine x_ishl (pc := 78) X dX8_draughts_78 ?_
  refine x_icmp_ge (pc := 79) X 149 dX8_draughts_79 (by decide) (fun hc => ?_) (fun hc => ?_)
  · have h := xit hc h
    refine x_sub [0, 5, 6, 7] rfl ?_
    exact wX8_draughts_L149 X hr hl F _ _ _ _ h
  · have h := xif hc h
    refine x_iload (pc := 82) X dX8_draughts_82 8 rfl ?_
    obtain ⟨r84, σ84, hq84, h⟩ := xb2_some h
    refine x_calliS (pc := 84) (As := [.int v9]) (rest := []) X (kJ6_bitCount_0f7a4 l X.2.2.2.2.2.2.2 F _ _ _ _ hq84) kvX8_214 ⟨rfl, rfl, Nat.le_of_ble_eq_true rfl, Nat.le_of_ble_eq_true rfl⟩ rfl rfl (Nat.le_of_ble_eq_true rfl) dX8_draughts_84 ?_
    refine x_istore (pc := 87) (lv' := [(10, .int r84), (0, .ref (ad 0)), (1, .int v1), (2, .int v2), (3, .int v3), (4, .int v4), (5, .int v5), (6, .int v6), (7, .long v7), (9, .int v9)]) X dX8_draughts_87 (by decide) rfl ?_
    refine x_iload_n (pc := 89) X dX8_draughts_89 rfl 2 rfl ?_
    refine x_iload (pc := 90) X dX8_draughts_90 0 rfl ?_
    obtain ⟨r92, σ92, hq92, h⟩ := xb2_some h
    refine x_calllS (pc := 92) (As := [.int v1, .int r84]) (rest := []) X (kX8_power l X.2.2.2.2.2.2.2 F _ _ _ _ _ hq92) kvX8_237 ⟨rfl, rfl, Nat.le_of_ble_eq_true rfl, Nat.le_of_ble_eq_true rfl⟩ rfl rfl (Nat.le_of_ble_eq_true rfl) dX8_draughts_92 ?_
    refine x_bipush (pc := 95) (v := 16) X dX8_draughts_95 (by decide) ?_
    refine x_iload_n (pc := 97) X dX8_draughts_97 rfl 2 rfl ?_
    refine x_isub (pc := 98) X dX8_draughts_98 ?_
    refine x_iload (pc := 99) X dX8_draughts_99 7 rfl ?_
    refine x_iload (pc := 101) X dX8_draughts_101 0 rfl ?_
    refine x_isub (pc := 103) X dX8_draughts_103 ?_
    obtain ⟨r104, σ104, hq104, h⟩ := xb2_some h
    refine x_calllS (pc := 104) (As := [.int (16 - v1), .int (v6 - r84)]) (rest := [.long r92]) X (kX8_power l X.2.2.2.2.2.2.2 F _ _ _ _ _ hq104) kvX8_237 ⟨rfl, rfl, Nat.le_of_ble_eq_true rfl, Nat.le_of_ble_eq_true rfl⟩ rfl rfl (Nat.le_of_ble_eq_true rfl) dX8_draughts_104 ?_
    refine x_lmul (pc := 107) X dX8_draughts_107 ?_
    refine x_lstore (pc := 108) (lv' := [(11, .long (r92 * r104)), (10, .int r84), (0, .ref (ad 0)), (1, .int v1), (2, .int v2), (3, .int v3), (4, .int v4), (5, .int v5), (6, .int v6), (7, .long v7), (9, .int v9)]) X dX8_draughts_108 (by decide) rfl ?_
    refine x_lload (pc := 110) X dX8_draughts_110 0 rfl ?_
    refine x_lconst (pc := 112) (v := 0) X dX8_draughts_112 rfl ?_
    refine x_lcmp (pc := 113) X dX8_draughts_113 ?_
    refine x_if_le (pc := 114) X 143 dX8_draughts_114 (by decide) (fun hc => ?_) (fun hc => ?_)
    · have h := xit hc h
      refine x_sub [2, 3, 4, 5, 6, 7, 8, 9, 10] rfl ?_
      exact wX8_draughts_L143 X hr hl F hc73 _ _ _ _ _ _ _ _ _ h
    · have h := xif hc h
      refine x_aload_n (pc := 117) X dX8_draughts_117 rfl 2 rfl ?_
      refine gX8_12 (pc := 118) X dX8_draughts_118 ?_
      refine x_iload_n (pc := 121) X dX8_draughts_121 rfl 4 rfl ?_
      refine x_iload (pc := 122) X dX8_draughts_122 6 rfl ?_
      refine x_iload (pc := 124) X dX8_draughts_124 10 rfl ?_
      obtain ⟨r126, σ126, hq126, h⟩ := xb2_some h
      refine x_calliV (pc := 126) (As := [.int v2, .int v4, .int v9]) (rest := []) X (kX2_tellsBehind l X.2.2.2.2.2.2.2 F _ _ _ _ _ _ hq126) kvX8_147 rfl (qX2) ⟨rfl, rfl, Nat.le_of_ble_eq_true rfl, Nat.le_of_ble_eq_true rfl⟩ rfl rfl (Nat.le_of_ble_eq_true rfl) dX8_draughts_126 ?_
      refine x_iload_n (pc := 129) X dX8_draughts_129 rfl 5 rfl ?_
      obtain ⟨r130, σ130, hq130, h⟩ := xb2_some h
      refine x_calliS (pc := 130) (As := [.int r126, .int v3]) (rest := []) X (kX8_holds l X.2.2.2.2.2.2.2 F _ _ _ _ _ hq130) kvX8_181 ⟨rfl, rfl, Nat.le_of_ble_eq_true rfl, Nat.le_of_ble_eq_true rfl⟩ rfl rfl (Nat.le_of_ble_eq_true rfl) dX8_draughts_130 ?_
      refine x_if_eq (pc := 133) X 143 dX8_draughts_133 (by decide) (fun hc => ?_) (fun hc => ?_)
      · have h := xit hc h
        refine x_sub [2, 3, 4, 5, 6, 7, 8, 9, 10] rfl ?_
        exact wX8_draughts_L143 X hr hl F hc73 _ _ _ _ _ _ _ _ _ h
      · have h := xif hc h
        refine x_lload (pc := 136) X dX8_draughts_136 9 rfl ?_
        refine x_lload (pc := 138) X dX8_draughts_138 0 rfl ?_
        refine x_ladd (pc := 140) X dX8_draughts_140 ?_
        refine x_lstore (pc := 141) (lv' := [(7, .long (v7 + (r92 * r104))), (11, .long (r92 * r104)), (10, .int r84), (0, .ref (ad 0)), (1, .int v1), (2, .int v2), (3, .int v3), (4, .int v4), (5, .int v5), (6, .int v6), (9, .int v9)]) X dX8_draughts_141 (by decide) rfl ?_
        refine x_sub [3, 4, 5, 6, 7, 8, 9, 0, 10] rfl ?_
        exact wX8_draughts_L143 X hr hl F hc73 _ _ _ _ _ _ _ _ _ h
theorem wX8_draughts_L73 {p : Program} {l : Launch} {e : Env} {s : State} {m : MethodId} {args : Array Value} {below : List Frame} {meth : Method} {c : Code} {D : va_G} {A : Nat → Prop} {ad : Nat → Nat} {cI cX : ClassId} {r : Int64} {σ' : xSt} (X : xX p s m args c cX8_draughts 13 RX8 D (tyC cI cX) A (wC ad cI cX)) (hr : meth.sig.returnType = (some .long)) (hl : meth.locks = false) (F : Nat) : ∀ (n : Nat) (v1 : Int32) (v2 : Int32) (v3 : Int32) (v4 : Int32) (v5 : Int32) (v6 : Int32) (v7 : Int64) (v9 : Int32) (σ : xSt), mX8_draughts_L73 F n v1 v2 v3 v4 v5 v6 v7 v9 σ = some (r, σ') → xG p l e ({ frames := 2, cells := 0, slots := 0, locals := 55 }) s m args below meth c (MQ below (xQl D A (wC ad cI cX) r σ') args s 0 0 A) 13 D A (wC ad cI cX) σ 73 [(0, .ref (ad 0)), (1, .int v1), (2, .int v2), (3, .int v3), (4, .int v4), (5, .int v5), (6, .int v6), (7, .long v7), (9, .int v9)] [] := by
  intro n
  induction n with
  | zero => intro v1 v2 v3 v4 v5 v6 v7 v9 σ h; cases h
  | succ n ih => intro v1 v2 v3 v4 v5 v6 v7 v9 σ h; exact wX8_draughts_S73 X hr hl F ih v1 v2 v3 v4 v5 v6 v7 v9 σ h
set_option maxRecDepth 100000 in
set_option maxHeartbeats 4000000 in
theorem wX8_draughts_L55 {p : Program} {l : Launch} {e : Env} {s : State} {m : MethodId} {args : Array Value} {below : List Frame} {meth : Method} {c : Code} {D : va_G} {A : Nat → Prop} {ad : Nat → Nat} {cI cX : ClassId} {r : Int64} {σ' : xSt} (X : xX p s m args c cX8_draughts 13 RX8 D (tyC cI cX) A (wC ad cI cX)) (hr : meth.sig.returnType = (some .long)) (hl : meth.locks = false) (F : Nat) (σ : xSt) (h : mX8_draughts_L55 F σ = some (r, σ')) : xG p l e ({ frames := 2, cells := 0, slots := 0, locals := 55 }) s m args below meth c (MQ below (xQl D A (wC ad cI cX) r σ') args s 0 0 A) 13 D A (wC ad cI cX) σ 55 [] [] := by
  unfold mX8_draughts_L55 at h
  refine x_bipush (pc := 55) (v := (-2)) X dX8_draughts_55 (by decide) ?_
  obtain ⟨r57, σ57, hq57, h⟩ := xb2_some h
  refine x_calllS (pc := 57) (As := [.int (-2)]) (rest := []) X (kX8_longRefusal l X.2.2.2.2.2.2.2 F _ _ _ _ hq57) kvX8_233 ⟨rfl, rfl, Nat.le_of_ble_eq_true rfl, Nat.le_of_ble_eq_true rfl⟩ rfl rfl (Nat.le_of_ble_eq_true rfl) dX8_draughts_57 ?_
  exact x_lret (pc := 60) X hr hl h dX8_draughts_60
set_option maxRecDepth 100000 in
set_option maxHeartbeats 4000000 in
theorem kX8_draughts (l : Launch) {D : va_G} {A : Nat → Prop} {ad : Nat → Nat} {cI cX : ClassId} (hD : ∀ σ, va_D A ((wC ad cI cX) σ)) (F : Nat) (v1 : Int32) (v2 : Int32) (v3 : Int32) (v4 : Int32) (v5 : Int32) (σ : xSt) (r : Int64) (σ' : xSt) (h : mX8_draughts F v1 v2 v3 v4 v5 σ = some (r, σ')) : xM l yX8_draughts cX8_draughts 13 (some .long) ({ frames := 2, cells := 0, slots := 0, locals := 55 }) D (tyC cI cX) A (wC ad cI cX) [.ref (ad 0), .int v1, .int v2, .int v3, .int v4, .int v5] σ (xQl D A (wC ad cI cX) r σ') := by
  refine xM_of (lv := [(0, .ref (ad 0)), (1, .int v1), (2, .int v2), (3, .int v3), (4, .int v4), (5, .int v5)]) [.ref (ad 0), .int v1, .int v2, .int v3, .int v4, .int v5] (by decide) hD rfl (Nat.le_of_ble_eq_true rfl) ?_
  intro p e s m args below meth c X hr hl
  unfold mX8_draughts at h
  refine x_iload_n (pc := 0) X dX8_draughts_0 rfl 1 rfl ?_
  refine x_if_lt (pc := 1) X 55 dX8_draughts_1 (by decide) (fun hc => ?_) (fun hc => ?_)
  · have h := xit hc h
    refine x_sub [] rfl ?_
    exact wX8_draughts_L55 X hr hl F _ h
  · have h := xif hc h
    refine x_iload_n (pc := 4) X dX8_draughts_4 rfl 1 rfl ?_
    refine x_bipush (pc := 5) (v := 16) X dX8_draughts_5 (by decide) ?_
    refine x_icmp_gt (pc := 7) X 55 dX8_draughts_7 (by decide) (fun hc => ?_) (fun hc => ?_)
    · have h := xit hc h
      refine x_sub [] rfl ?_
      exact wX8_draughts_L55 X hr hl F _ h
    · have h := xif hc h
      refine x_aload_n (pc := 10) X dX8_draughts_10 rfl 0 rfl ?_
      refine gX8_12 (pc := 11) X dX8_draughts_11 ?_
      refine x_iload_n (pc := 14) X dX8_draughts_14 rfl 2 rfl ?_
      obtain ⟨r15, σ15, hq15, h⟩ := xb2_some h
      refine x_calliV (pc := 15) (As := [.int v2]) (rest := []) X (kX2_lacksThing l X.2.2.2.2.2.2.2 F _ _ _ _ hq15) kvX8_144 rfl (qX2) ⟨rfl, rfl, Nat.le_of_ble_eq_true rfl, Nat.le_of_ble_eq_true rfl⟩ rfl rfl (Nat.le_of_ble_eq_true rfl) dX8_draughts_15 ?_
      refine x_if_ne (pc := 18) X 55 dX8_draughts_18 (by decide) (fun hc => ?_) (fun hc => ?_)
      · have h := xif hc h
        refine x_sub [] rfl ?_
        exact wX8_draughts_L55 X hr hl F _ h
      · have h := xit hc h
        refine x_aload_n (pc := 21) X dX8_draughts_21 rfl 0 rfl ?_
        refine gX8_12 (pc := 22) X dX8_draughts_22 ?_
        refine x_iload_n (pc := 25) X dX8_draughts_25 rfl 3 rfl ?_
        obtain ⟨r26, σ26, hq26, h⟩ := xb2_some h
        refine x_calliV (pc := 26) (As := [.int v3]) (rest := []) X (kX2_lacksPerson l X.2.2.2.2.2.2.2 F _ _ _ _ hq26) kvX8_175 rfl (qX2) ⟨rfl, rfl, Nat.le_of_ble_eq_true rfl, Nat.le_of_ble_eq_true rfl⟩ rfl rfl (Nat.le_of_ble_eq_true rfl) dX8_draughts_26 ?_
        refine x_if_ne (pc := 29) X 55 dX8_draughts_29 (by decide) (fun hc => ?_) (fun hc => ?_)
        · have h := xif hc h
          refine x_sub [] rfl ?_
          exact wX8_draughts_L55 X hr hl F _ h
        · have h := xit hc h
          refine x_iload (pc := 32) X dX8_draughts_32 4 rfl ?_
          refine x_if_lt (pc := 34) X 55 dX8_draughts_34 (by decide) (fun hc => ?_) (fun hc => ?_)
          · have h := xit hc h
            refine x_sub [] rfl ?_
            exact wX8_draughts_L55 X hr hl F _ h
          · have h := xif hc h
            refine x_iload (pc := 37) X dX8_draughts_37 4 rfl ?_
            refine x_bipush (pc := 39) (v := 9) X dX8_draughts_39 (by decide) ?_
            refine x_icmp_gt (pc := 41) X 55 dX8_draughts_41 (by decide) (fun hc => ?_) (fun hc => ?_)
            · have h := xit hc h
              refine x_sub [] rfl ?_
              exact wX8_draughts_L55 X hr hl F _ h
            · have h := xif hc h
              refine x_iload (pc := 44) X dX8_draughts_44 5 rfl ?_
              refine x_if_lt (pc := 46) X 55 dX8_draughts_46 (by decide) (fun hc => ?_) (fun hc => ?_)
              · have h := xit hc h
                refine x_sub [] rfl ?_
                exact wX8_draughts_L55 X hr hl F _ h
              · have h := xif hc h
                refine x_iload (pc := 49) X dX8_draughts_49 5 rfl ?_
                refine x_iconst (pc := 51) (v := 1) X dX8_draughts_51 (by decide) ?_
                refine x_icmp_le (pc := 52) X 61 dX8_draughts_52 (by decide) (fun hc => ?_) (fun hc => ?_)
                · have h := xit hc h
                  refine x_iload (pc := 61) X dX8_draughts_61 4 rfl ?_
                  refine x_iconst (pc := 63) (v := 1) X dX8_draughts_63 (by decide) ?_
                  refine x_iadd (pc := 64) X dX8_draughts_64 ?_
                  refine x_istore (pc := 65) (lv' := [(6, .int (v4 + 1)), (0, .ref (ad 0)), (1, .int v1), (2, .int v2), (3, .int v3), (4, .int v4), (5, .int v5)]) X dX8_draughts_65 (by decide) rfl ?_
                  refine x_lconst (pc := 67) (v := 0) X dX8_draughts_67 rfl ?_
                  refine x_lstore (pc := 68) (lv' := [(7, .long 0), (6, .int (v4 + 1)), (0, .ref (ad 0)), (1, .int v1), (2, .int v2), (3, .int v3), (4, .int v4), (5, .int v5)]) X dX8_draughts_68 (by decide) rfl ?_
                  refine x_iconst (pc := 70) (v := 0) X dX8_draughts_70 (by decide) ?_
                  refine x_istore (pc := 71) (lv' := [(9, .int 0), (7, .long 0), (6, .int (v4 + 1)), (0, .ref (ad 0)), (1, .int v1), (2, .int v2), (3, .int v3), (4, .int v4), (5, .int v5)]) X dX8_draughts_71 (by decide) rfl ?_
                  refine x_sub [3, 4, 5, 6, 7, 8, 2, 1, 0] rfl ?_
                  exact wX8_draughts_L73 X hr hl F F _ _ _ _ _ _ _ _ _ h
                · have h := xif hc h
                  refine x_sub [] rfl ?_
                  exact wX8_draughts_L55 X hr hl F _ h
set_option maxRecDepth 100000 in
set_option maxHeartbeats 4000000 in
theorem wX8_found_L135 {p : Program} {l : Launch} {e : Env} {s : State} {m : MethodId} {args : Array Value} {below : List Frame} {meth : Method} {c : Code} {D : va_G} {A : Nat → Prop} {ad : Nat → Nat} {cI cX : ClassId} {r : Int64} {σ' : xSt} (X : xX p s m args c cX8_found 7 RX8 D (tyC cI cX) A (wC ad cI cX)) (hr : meth.sig.returnType = (some .long)) (hl : meth.locks = false) (F : Nat) (t0 : Int64) (σ : xSt) (h : mX8_found_L135 F t0 σ = some (r, σ')) : xG p l e ({ frames := 2, cells := 0, slots := 0, locals := 55 }) s m args below meth c (MQ below (xQl D A (wC ad cI cX) r σ') args s 0 0 A) 7 D A (wC ad cI cX) σ 135 [] [.long t0] := by
  unfold mX8_found_L135 at h
  exact x_lret (pc := 135) X hr hl h dX8_found_135
set_option maxRecDepth 100000 in
set_option maxHeartbeats 4000000 in
theorem wX8_found_L98 {p : Program} {l : Launch} {e : Env} {s : State} {m : MethodId} {args : Array Value} {below : List Frame} {meth : Method} {c : Code} {D : va_G} {A : Nat → Prop} {ad : Nat → Nat} {cI cX : ClassId} {r : Int64} {σ' : xSt} (X : xX p s m args c cX8_found 7 RX8 D (tyC cI cX) A (wC ad cI cX)) (hr : meth.sig.returnType = (some .long)) (hl : meth.locks = false) (F : Nat) (v1 : Int32) (v4 : Int32) (v5 : Int32) (σ : xSt) (h : mX8_found_L98 F v1 v4 v5 σ = some (r, σ')) : xG p l e ({ frames := 2, cells := 0, slots := 0, locals := 55 }) s m args below meth c (MQ below (xQl D A (wC ad cI cX) r σ') args s 0 0 A) 7 D A (wC ad cI cX) σ 98 [(0, .ref (ad 0)), (1, .int v1), (4, .int v4), (5, .int v5)] [] := by
  unfold mX8_found_L98 at h
  refine x_aload_n (pc := 98) X dX8_found_98 rfl 0 rfl ?_
  refine gX8_46 (pc := 99) X dX8_found_99 ?_
  refine x_iload (pc := 102) X dX8_found_102 3 rfl ?_
  refine x_i2l (pc := 104) X dX8_found_104 ?_
  refine x_iload_n (pc := 105) X dX8_found_105 rfl 1 rfl ?_
  obtain ⟨r106, σ106, hq106, h⟩ := xb2_some h
  refine x_calliS (pc := 106) (As := [.int v1]) (rest := [.long (Int32.toInt64 v5), .ref (ad 4)]) X (kJ6_bitCount_0f7a4 l X.2.2.2.2.2.2.2 F _ _ _ _ hq106) kvX8_214 ⟨rfl, rfl, Nat.le_of_ble_eq_true rfl, Nat.le_of_ble_eq_true rfl⟩ rfl rfl (Nat.le_of_ble_eq_true rfl) dX8_found_106 ?_
  refine x_i2l (pc := 109) X dX8_found_109 ?_
  obtain ⟨σ110, hq110, h⟩ := xb1_some h
  refine x_callvV (pc := 110) (As := [.long (Int32.toInt64 v5), .long (Int32.toInt64 r106)]) (rest := []) X (kX0_become l X.2.2.2.2.2.2.2 F _ _ _ _ hq110) kvX8_241 rfl (qX0) ⟨rfl, rfl, Nat.le_of_ble_eq_true rfl, Nat.le_of_ble_eq_true rfl⟩ rfl rfl (Nat.le_of_ble_eq_true rfl) dX8_found_110 ?_
  refine x_iload (pc := 113) X dX8_found_113 2 rfl ?_
  refine x_if_ne (pc := 115) X 128 dX8_found_115 (by decide) (fun hc => ?_) (fun hc => ?_)
  · have h := xif hc h
    refine x_aload_n (pc := 128) X dX8_found_128 rfl 0 rfl ?_
    refine gX8_46 (pc := 129) X dX8_found_129 ?_
    refine gX8_249 (pc := 132) X dX8_found_132 ?_
    refine x_sub [] rfl ?_
    exact wX8_found_L135 X hr hl F _ _ h
  · have h := xit hc h
    refine x_aload_n (pc := 118) X dX8_found_118 rfl 0 rfl ?_
    refine gX8_46 (pc := 119) X dX8_found_119 ?_
    refine gX8_245 (pc := 122) X dX8_found_122 ?_
    refine x_goto (pc := 125) X 135 dX8_found_125 (by decide) ?_
    refine x_sub [] rfl ?_
    exact wX8_found_L135 X hr hl F _ _ h
set_option maxRecDepth 100000 in
set_option maxHeartbeats 4000000 in
theorem wX8_found_L92 {p : Program} {l : Launch} {e : Env} {s : State} {m : MethodId} {args : Array Value} {below : List Frame} {meth : Method} {c : Code} {D : va_G} {A : Nat → Prop} {ad : Nat → Nat} {cI cX : ClassId} {r : Int64} {σ' : xSt} {c55 : Int32 → Int32 → Int32 → Int32 → Int32 → Int32 → xSt → Option (Int64 × xSt)} (X : xX p s m args c cX8_found 7 RX8 D (tyC cI cX) A (wC ad cI cX)) (hr : meth.sig.returnType = (some .long)) (hl : meth.locks = false) (F : Nat) (hc55 : ∀ (v1 : Int32) (v2 : Int32) (v3 : Int32) (v4 : Int32) (v5 : Int32) (v6 : Int32) (σ : xSt), c55 v1 v2 v3 v4 v5 v6 σ = some (r, σ') → xG p l e ({ frames := 2, cells := 0, slots := 0, locals := 55 }) s m args below meth c (MQ below (xQl D A (wC ad cI cX) r σ') args s 0 0 A) 7 D A (wC ad cI cX) σ 55 [(0, .ref (ad 0)), (1, .int v1), (2, .int v2), (3, .int v3), (4, .int v4), (5, .int v5), (6, .int v6)] []) (v1 : Int32) (v2 : Int32) (v3 : Int32) (v4 : Int32) (v5 : Int32) (v6 : Int32) (σ : xSt) (h : mX8_found_L92 F c55 v1 v2 v3 v4 v5 v6 σ = some (r, σ')) : xG p l e ({ frames := 2, cells := 0, slots := 0, locals := 55 }) s m args below meth c (MQ below (xQl D A (wC ad cI cX) r σ') args s 0 0 A) 7 D A (wC ad cI cX) σ 92 [(0, .ref (ad 0)), (1, .int v1), (2, .int v2), (3, .int v3), (4, .int v4), (5, .int v5), (6, .int v6)] [] := by
  unfold mX8_found_L92 at h
  refine x_iinc (pc := 92) (v := (v6 + 1)) (lv' := [(6, .int (v6 + 1)), (0, .ref (ad 0)), (1, .int v1), (2, .int v2), (3, .int v3), (4, .int v4), (5, .int v5)]) X dX8_found_92 6 rfl rfl (by decide) rfl ?_
  refine x_goto (pc := 95) X 55 dX8_found_95 (by decide) ?_
  refine x_sub [1, 2, 3, 4, 5, 6, 0] rfl ?_
  exact hc55 _ _ _ _ _ _ _ h
set_option maxRecDepth 100000 in
set_option maxHeartbeats 4000000 in
theorem wX8_found_S55 {p : Program} {l : Launch} {e : Env} {s : State} {m : MethodId} {args : Array Value} {below : List Frame} {meth : Method} {c : Code} {D : va_G} {A : Nat → Prop} {ad : Nat → Nat} {cI cX : ClassId} {r : Int64} {σ' : xSt} {c55 : Int32 → Int32 → Int32 → Int32 → Int32 → Int32 → xSt → Option (Int64 × xSt)} (X : xX p s m args c cX8_found 7 RX8 D (tyC cI cX) A (wC ad cI cX)) (hr : meth.sig.returnType = (some .long)) (hl : meth.locks = false) (F : Nat) (hc55 : ∀ (v1 : Int32) (v2 : Int32) (v3 : Int32) (v4 : Int32) (v5 : Int32) (v6 : Int32) (σ : xSt), c55 v1 v2 v3 v4 v5 v6 σ = some (r, σ') → xG p l e ({ frames := 2, cells := 0, slots := 0, locals := 55 }) s m args below meth c (MQ below (xQl D A (wC ad cI cX) r σ') args s 0 0 A) 7 D A (wC ad cI cX) σ 55 [(0, .ref (ad 0)), (1, .int v1), (2, .int v2), (3, .int v3), (4, .int v4), (5, .int v5), (6, .int v6)] []) (v1 : Int32) (v2 : Int32) (v3 : Int32) (v4 : Int32) (v5 : Int32) (v6 : Int32) (σ : xSt) (h : mX8_found_S55 F c55 v1 v2 v3 v4 v5 v6 σ = some (r, σ')) : xG p l e ({ frames := 2, cells := 0, slots := 0, locals := 55 }) s m args below meth c (MQ below (xQl D A (wC ad cI cX) r σ') args s 0 0 A) 7 D A (wC ad cI cX) σ 55 [(0, .ref (ad 0)), (1, .int v1), (2, .int v2), (3, .int v3), (4, .int v4), (5, .int v5), (6, .int v6)] [] := by
  unfold mX8_found_S55 at h
  refine x_iload (pc := 55) X dX8_found_55 6 rfl ?_
  refine x_bipush (pc := 57) (v := 24) X dX8_found_57 (by decide) ?_
  refine x_icmp_ge (pc := 59) X 98 dX8_found_59 (by decide) (fun hc => ?_) (fun hc => ?_)
  · have h := xit hc h
    refine x_sub [0, 1, 4, 5] rfl ?_
    exact wX8_found_L98 X hr hl F _ _ _ _ h
  · have h := xif hc h
    refine x_iload_n (pc := 62) X dX8_found_62 rfl 1 rfl ?_
    refine x_iload (pc := 63) X dX8_found_63 6 rfl ?_
    obtain ⟨r65, σ65, hq65, h⟩ := xb2_some h
    refine x_calliS (pc := 65) (As := [.int v1, .int v6]) (rest := []) X (kX8_holds l X.2.2.2.2.2.2.2 F _ _ _ _ _ hq65) kvX8_181 ⟨rfl, rfl, Nat.le_of_ble_eq_true rfl, Nat.le_of_ble_eq_true rfl⟩ rfl rfl (Nat.le_of_ble_eq_true rfl) dX8_found_65 ?_
    refine x_if_eq (pc := 68) X 92 dX8_found_68 (by decide) (fun hc => ?_) (fun hc => ?_)
    · have h := xit hc h
      refine x_sub [0, 1, 2, 3, 4, 5, 6] rfl ?_
      exact wX8_found_L92 X hr hl F hc55 _ _ _ _ _ _ _ h
    · have h := xif hc h
      refine x_aload_n (pc := 71) X dX8_found_71 rfl 0 rfl ?_
      refine gX8_12 (pc := 72) X dX8_found_72 ?_
      refine x_iload_n (pc := 75) X dX8_found_75 rfl 2 rfl ?_
      refine x_iload (pc := 76) X dX8_found_76 6 rfl ?_
      refine x_iconst (pc := 78) (v := 0) X dX8_found_78 (by decide) ?_
      obtain ⟨r79, σ79, hq79, h⟩ := xb2_some h
      refine x_calliV (pc := 79) (As := [.int v2, .int v6, .int 0]) (rest := []) X (kX2_tellsBehind l X.2.2.2.2.2.2.2 F _ _ _ _ _ _ hq79) kvX8_147 rfl (qX2) ⟨rfl, rfl, Nat.le_of_ble_eq_true rfl, Nat.le_of_ble_eq_true rfl⟩ rfl rfl (Nat.le_of_ble_eq_true rfl) dX8_found_79 ?_
      refine x_iload_n (pc := 82) X dX8_found_82 rfl 3 rfl ?_
      obtain ⟨r83, σ83, hq83, h⟩ := xb2_some h
      refine x_calliS (pc := 83) (As := [.int r79, .int v3]) (rest := []) X (kX8_holds l X.2.2.2.2.2.2.2 F _ _ _ _ _ hq83) kvX8_181 ⟨rfl, rfl, Nat.le_of_ble_eq_true rfl, Nat.le_of_ble_eq_true rfl⟩ rfl rfl (Nat.le_of_ble_eq_true rfl) dX8_found_83 ?_
      refine x_if_eq (pc := 86) X 92 dX8_found_86 (by decide) (fun hc => ?_) (fun hc => ?_)
      · have h := xit hc h
        refine x_sub [0, 1, 2, 3, 4, 5, 6] rfl ?_
        exact wX8_found_L92 X hr hl F hc55 _ _ _ _ _ _ _ h
      · have h := xif hc h
        refine x_iinc (pc := 89) (v := (v5 + 1)) (lv' := [(5, .int (v5 + 1)), (0, .ref (ad 0)), (1, .int v1), (2, .int v2), (3, .int v3), (4, .int v4), (6, .int v6)]) X dX8_found_89 5 rfl rfl (by decide) rfl ?_
        refine x_sub [1, 2, 3, 4, 5, 0, 6] rfl ?_
        exact wX8_found_L92 X hr hl F hc55 _ _ _ _ _ _ _ h
theorem wX8_found_L55 {p : Program} {l : Launch} {e : Env} {s : State} {m : MethodId} {args : Array Value} {below : List Frame} {meth : Method} {c : Code} {D : va_G} {A : Nat → Prop} {ad : Nat → Nat} {cI cX : ClassId} {r : Int64} {σ' : xSt} (X : xX p s m args c cX8_found 7 RX8 D (tyC cI cX) A (wC ad cI cX)) (hr : meth.sig.returnType = (some .long)) (hl : meth.locks = false) (F : Nat) : ∀ (n : Nat) (v1 : Int32) (v2 : Int32) (v3 : Int32) (v4 : Int32) (v5 : Int32) (v6 : Int32) (σ : xSt), mX8_found_L55 F n v1 v2 v3 v4 v5 v6 σ = some (r, σ') → xG p l e ({ frames := 2, cells := 0, slots := 0, locals := 55 }) s m args below meth c (MQ below (xQl D A (wC ad cI cX) r σ') args s 0 0 A) 7 D A (wC ad cI cX) σ 55 [(0, .ref (ad 0)), (1, .int v1), (2, .int v2), (3, .int v3), (4, .int v4), (5, .int v5), (6, .int v6)] [] := by
  intro n
  induction n with
  | zero => intro v1 v2 v3 v4 v5 v6 σ h; cases h
  | succ n ih => intro v1 v2 v3 v4 v5 v6 σ h; exact wX8_found_S55 X hr hl F ih v1 v2 v3 v4 v5 v6 σ h
set_option maxRecDepth 100000 in
set_option maxHeartbeats 4000000 in
theorem wX8_found_L43 {p : Program} {l : Launch} {e : Env} {s : State} {m : MethodId} {args : Array Value} {below : List Frame} {meth : Method} {c : Code} {D : va_G} {A : Nat → Prop} {ad : Nat → Nat} {cI cX : ClassId} {r : Int64} {σ' : xSt} (X : xX p s m args c cX8_found 7 RX8 D (tyC cI cX) A (wC ad cI cX)) (hr : meth.sig.returnType = (some .long)) (hl : meth.locks = false) (F : Nat) (σ : xSt) (h : mX8_found_L43 F σ = some (r, σ')) : xG p l e ({ frames := 2, cells := 0, slots := 0, locals := 55 }) s m args below meth c (MQ below (xQl D A (wC ad cI cX) r σ') args s 0 0 A) 7 D A (wC ad cI cX) σ 43 [] [] := by
  unfold mX8_found_L43 at h
  refine x_bipush (pc := 43) (v := (-2)) X dX8_found_43 (by decide) ?_
  obtain ⟨r45, σ45, hq45, h⟩ := xb2_some h
  refine x_calllS (pc := 45) (As := [.int (-2)]) (rest := []) X (kX8_longRefusal l X.2.2.2.2.2.2.2 F _ _ _ _ hq45) kvX8_233 ⟨rfl, rfl, Nat.le_of_ble_eq_true rfl, Nat.le_of_ble_eq_true rfl⟩ rfl rfl (Nat.le_of_ble_eq_true rfl) dX8_found_45 ?_
  exact x_lret (pc := 48) X hr hl h dX8_found_48
set_option maxRecDepth 100000 in
set_option maxHeartbeats 4000000 in
theorem kX8_found (l : Launch) {D : va_G} {A : Nat → Prop} {ad : Nat → Nat} {cI cX : ClassId} (hD : ∀ σ, va_D A ((wC ad cI cX) σ)) (F : Nat) (v1 : Int32) (v2 : Int32) (v3 : Int32) (v4 : Int32) (σ : xSt) (r : Int64) (σ' : xSt) (h : mX8_found F v1 v2 v3 v4 σ = some (r, σ')) : xM l yX8_found cX8_found 7 (some .long) ({ frames := 2, cells := 0, slots := 0, locals := 55 }) D (tyC cI cX) A (wC ad cI cX) [.ref (ad 0), .int v1, .int v2, .int v3, .int v4] σ (xQl D A (wC ad cI cX) r σ') := by
  refine xM_of (lv := [(0, .ref (ad 0)), (1, .int v1), (2, .int v2), (3, .int v3), (4, .int v4)]) [.ref (ad 0), .int v1, .int v2, .int v3, .int v4] (by decide) hD rfl (Nat.le_of_ble_eq_true rfl) ?_
  intro p e s m args below meth c X hr hl
  unfold mX8_found at h
  refine x_iload_n (pc := 0) X dX8_found_0 rfl 1 rfl ?_
  refine x_if_lt (pc := 1) X 43 dX8_found_1 (by decide) (fun hc => ?_) (fun hc => ?_)
  · have h := xit hc h
    refine x_sub [] rfl ?_
    exact wX8_found_L43 X hr hl F _ h
  · have h := xif hc h
    refine x_iload_n (pc := 4) X dX8_found_4 rfl 1 rfl ?_
    refine x_ldc (pc := 5) X kcX8_252 dX8_found_5 ?_
    refine x_icmp_gt (pc := 7) X 43 dX8_found_7 (by decide) (fun hc => ?_) (fun hc => ?_)
    · have h := xit hc h
      refine x_sub [] rfl ?_
      exact wX8_found_L43 X hr hl F _ h
    · have h := xif hc h
      refine x_aload_n (pc := 10) X dX8_found_10 rfl 0 rfl ?_
      refine gX8_12 (pc := 11) X dX8_found_11 ?_
      refine x_iload_n (pc := 14) X dX8_found_14 rfl 2 rfl ?_
      obtain ⟨r15, σ15, hq15, h⟩ := xb2_some h
      refine x_calliV (pc := 15) (As := [.int v2]) (rest := []) X (kX2_lacksThing l X.2.2.2.2.2.2.2 F _ _ _ _ hq15) kvX8_144 rfl (qX2) ⟨rfl, rfl, Nat.le_of_ble_eq_true rfl, Nat.le_of_ble_eq_true rfl⟩ rfl rfl (Nat.le_of_ble_eq_true rfl) dX8_found_15 ?_
      refine x_if_ne (pc := 18) X 43 dX8_found_18 (by decide) (fun hc => ?_) (fun hc => ?_)
      · have h := xif hc h
        refine x_sub [] rfl ?_
        exact wX8_found_L43 X hr hl F _ h
      · have h := xit hc h
        refine x_aload_n (pc := 21) X dX8_found_21 rfl 0 rfl ?_
        refine gX8_12 (pc := 22) X dX8_found_22 ?_
        refine x_iload_n (pc := 25) X dX8_found_25 rfl 3 rfl ?_
        obtain ⟨r26, σ26, hq26, h⟩ := xb2_some h
        refine x_calliV (pc := 26) (As := [.int v3]) (rest := []) X (kX2_lacksPerson l X.2.2.2.2.2.2.2 F _ _ _ _ hq26) kvX8_175 rfl (qX2) ⟨rfl, rfl, Nat.le_of_ble_eq_true rfl, Nat.le_of_ble_eq_true rfl⟩ rfl rfl (Nat.le_of_ble_eq_true rfl) dX8_found_26 ?_
        refine x_if_ne (pc := 29) X 43 dX8_found_29 (by decide) (fun hc => ?_) (fun hc => ?_)
        · have h := xif hc h
          refine x_sub [] rfl ?_
          exact wX8_found_L43 X hr hl F _ h
        · have h := xit hc h
          refine x_iload (pc := 32) X dX8_found_32 4 rfl ?_
          refine x_if_lt (pc := 34) X 43 dX8_found_34 (by decide) (fun hc => ?_) (fun hc => ?_)
          · have h := xit hc h
            refine x_sub [] rfl ?_
            exact wX8_found_L43 X hr hl F _ h
          · have h := xif hc h
            refine x_iload (pc := 37) X dX8_found_37 4 rfl ?_
            refine x_iconst (pc := 39) (v := 1) X dX8_found_39 (by decide) ?_
            refine x_icmp_le (pc := 40) X 49 dX8_found_40 (by decide) (fun hc => ?_) (fun hc => ?_)
            · have h := xit hc h
              refine x_iconst (pc := 49) (v := 0) X dX8_found_49 (by decide) ?_
              refine x_istore (pc := 50) (lv' := [(5, .int 0), (0, .ref (ad 0)), (1, .int v1), (2, .int v2), (3, .int v3), (4, .int v4)]) X dX8_found_50 (by decide) rfl ?_
              refine x_iconst (pc := 52) (v := 0) X dX8_found_52 (by decide) ?_
              refine x_istore (pc := 53) (lv' := [(6, .int 0), (5, .int 0), (0, .ref (ad 0)), (1, .int v1), (2, .int v2), (3, .int v3), (4, .int v4)]) X dX8_found_53 (by decide) rfl ?_
              refine x_sub [2, 3, 4, 5, 6, 1, 0] rfl ?_
              exact wX8_found_L55 X hr hl F F _ _ _ _ _ _ _ h
            · have h := xif hc h
              refine x_sub [] rfl ?_
              exact wX8_found_L43 X hr hl F _ h
set_option maxRecDepth 100000 in
set_option maxHeartbeats 4000000 in
theorem wX8_day_L18 {p : Program} {l : Launch} {e : Env} {s : State} {m : MethodId} {args : Array Value} {below : List Frame} {meth : Method} {c : Code} {D : va_G} {A : Nat → Prop} {ad : Nat → Nat} {cI cX : ClassId} {r : Int32} {σ' : xSt} (X : xX p s m args c cX8_day 4 RX8 D (tyC cI cX) A (wC ad cI cX)) (hr : meth.sig.returnType = (some .int)) (hl : meth.locks = false) (F : Nat) (σ : xSt) (h : mX8_day_L18 F σ = some (r, σ')) : xG p l e ({ frames := 3, cells := 0, slots := 0, locals := 82 }) s m args below meth c (MQ below (xQi D A (wC ad cI cX) r σ') args s 0 0 A) 4 D A (wC ad cI cX) σ 18 [] [] := by
  unfold mX8_day_L18 at h
  refine x_bipush (pc := 18) (v := (-2)) X dX8_day_18 (by decide) ?_
  exact x_iret (pc := 20) X hr hl h dX8_day_20
set_option maxRecDepth 100000 in
set_option maxHeartbeats 4000000 in
theorem kX8_day (l : Launch) {D : va_G} {A : Nat → Prop} {ad : Nat → Nat} {cI cX : ClassId} (hD : ∀ σ, va_D A ((wC ad cI cX) σ)) (F : Nat) (v1 : Int32) (v2 : Int32) (v3 : Int32) (σ : xSt) (r : Int32) (σ' : xSt) (h : mX8_day F v1 v2 v3 σ = some (r, σ')) : xM l yX8_day cX8_day 4 (some .int) ({ frames := 3, cells := 0, slots := 0, locals := 82 }) D (tyC cI cX) A (wC ad cI cX) [.ref (ad 0), .int v1, .int v2, .int v3] σ (xQi D A (wC ad cI cX) r σ') := by
  refine xM_of (lv := [(0, .ref (ad 0)), (1, .int v1), (2, .int v2), (3, .int v3)]) [.ref (ad 0), .int v1, .int v2, .int v3] (by decide) hD rfl (Nat.le_of_ble_eq_true rfl) ?_
  intro p e s m args below meth c X hr hl
  unfold mX8_day at h
  refine x_iload_n (pc := 0) X dX8_day_0 rfl 2 rfl ?_
  obtain ⟨r1, σ1, hq1, h⟩ := xb2_some h
  refine x_calliS (pc := 1) (As := [.int v2]) (rest := []) X (kX8_noHour l X.2.2.2.2.2.2.2 F _ _ _ _ hq1) kvX8_100 ⟨rfl, rfl, Nat.le_of_ble_eq_true rfl, Nat.le_of_ble_eq_true rfl⟩ rfl rfl (Nat.le_of_ble_eq_true rfl) dX8_day_1 ?_
  refine x_if_ne (pc := 4) X 18 dX8_day_4 (by decide) (fun hc => ?_) (fun hc => ?_)
  · have h := xif hc h
    refine x_sub [] rfl ?_
    exact wX8_day_L18 X hr hl F _ h
  · have h := xit hc h
    refine x_aload_n (pc := 7) X dX8_day_7 rfl 0 rfl ?_
    refine gX8_12 (pc := 8) X dX8_day_8 ?_
    refine x_iload_n (pc := 11) X dX8_day_11 rfl 3 rfl ?_
    obtain ⟨r12, σ12, hq12, h⟩ := xb2_some h
    refine x_calliV (pc := 12) (As := [.int v3]) (rest := []) X (kX2_lacksThing l X.2.2.2.2.2.2.2 F _ _ _ _ hq12) kvX8_144 rfl (qX2) ⟨rfl, rfl, Nat.le_of_ble_eq_true rfl, Nat.le_of_ble_eq_true rfl⟩ rfl rfl (Nat.le_of_ble_eq_true rfl) dX8_day_12 ?_
    refine x_if_eq (pc := 15) X 21 dX8_day_15 (by decide) (fun hc => ?_) (fun hc => ?_)
    · have h := xit hc h
      refine x_aload_n (pc := 21) X dX8_day_21 rfl 0 rfl ?_
      refine gX8_12 (pc := 22) X dX8_day_22 ?_
      refine x_iload_n (pc := 25) X dX8_day_25 rfl 1 rfl ?_
      refine x_iload_n (pc := 26) X dX8_day_26 rfl 2 rfl ?_
      refine x_iload_n (pc := 27) X dX8_day_27 rfl 3 rfl ?_
      obtain ⟨r28, σ28, hq28, h⟩ := xb2_some h
      refine x_calliV (pc := 28) (As := [.int v1, .int v2, .int v3]) (rest := []) X (kX2_tellsByLot l X.2.2.2.2.2.2.2 F _ _ _ _ _ _ hq28) kvX8_253 rfl (qX2) ⟨rfl, rfl, Nat.le_of_ble_eq_true rfl, Nat.le_of_ble_eq_true rfl⟩ rfl rfl (Nat.le_of_ble_eq_true rfl) dX8_day_28 ?_
      exact x_iret (pc := 31) X hr hl h dX8_day_31
    · have h := xif hc h
      refine x_sub [] rfl ?_
      exact wX8_day_L18 X hr hl F _ h
set_option maxRecDepth 100000 in
set_option maxHeartbeats 4000000 in
theorem wX8_noForm_L14 {p : Program} {l : Launch} {e : Env} {s : State} {m : MethodId} {args : Array Value} {below : List Frame} {meth : Method} {c : Code} {D : va_G} {A : Nat → Prop} {ad : Nat → Nat} {cI cX : ClassId} {r : Int32} {σ' : xSt} (X : xX p s m args c cX8_noForm 1 RX8 D (tyC cI cX) A (wC ad cI cX)) (hr : meth.sig.returnType = (some .boolean)) (hl : meth.locks = false) (F : Nat) (t0 : Int32) (σ : xSt) (h : mX8_noForm_L14 F t0 σ = some (r, σ')) : xG p l e ({ frames := 0, cells := 0, slots := 0, locals := 0 }) s m args below meth c (MQ below (xQi D A (wC ad cI cX) r σ') args s 0 0 A) 1 D A (wC ad cI cX) σ 14 [] [.int t0] := by
  unfold mX8_noForm_L14 at h
  obtain ⟨hb14, h⟩ := xck_some h
  exact x_zret (pc := 14) X hr hl hb14 h dX8_noForm_14
set_option maxRecDepth 100000 in
set_option maxHeartbeats 4000000 in
theorem wX8_noForm_L9 {p : Program} {l : Launch} {e : Env} {s : State} {m : MethodId} {args : Array Value} {below : List Frame} {meth : Method} {c : Code} {D : va_G} {A : Nat → Prop} {ad : Nat → Nat} {cI cX : ClassId} {r : Int32} {σ' : xSt} (X : xX p s m args c cX8_noForm 1 RX8 D (tyC cI cX) A (wC ad cI cX)) (hr : meth.sig.returnType = (some .boolean)) (hl : meth.locks = false) (F : Nat) (σ : xSt) (h : mX8_noForm_L9 F σ = some (r, σ')) : xG p l e ({ frames := 0, cells := 0, slots := 0, locals := 0 }) s m args below meth c (MQ below (xQi D A (wC ad cI cX) r σ') args s 0 0 A) 1 D A (wC ad cI cX) σ 9 [] [] := by
  unfold mX8_noForm_L9 at h
  refine x_iconst (pc := 9) (v := 1) X dX8_noForm_9 (by decide) ?_
  refine x_goto (pc := 10) X 14 dX8_noForm_10 (by decide) ?_
  refine x_sub [] rfl ?_
  exact wX8_noForm_L14 X hr hl F _ _ h
set_option maxRecDepth 100000 in
set_option maxHeartbeats 4000000 in
theorem kX8_noForm (l : Launch) {D : va_G} {A : Nat → Prop} {ad : Nat → Nat} {cI cX : ClassId} (hD : ∀ σ, va_D A ((wC ad cI cX) σ)) (F : Nat) (v0 : Int32) (σ : xSt) (r : Int32) (σ' : xSt) (h : mX8_noForm F v0 σ = some (r, σ')) : xM l yX8_noForm cX8_noForm 1 (some .boolean) ({ frames := 0, cells := 0, slots := 0, locals := 0 }) D (tyC cI cX) A (wC ad cI cX) [.int v0] σ (xQi D A (wC ad cI cX) r σ') := by
  refine xM_of (lv := [(0, .int v0)]) [.int v0] (by decide) hD rfl (Nat.le_of_ble_eq_true rfl) ?_
  intro p e s m args below meth c X hr hl
  unfold mX8_noForm at h
  refine x_iload_n (pc := 0) X dX8_noForm_0 rfl 0 rfl ?_
  refine x_if_lt (pc := 1) X 9 dX8_noForm_1 (by decide) (fun hc => ?_) (fun hc => ?_)
  · have h := xit hc h
    refine x_sub [] rfl ?_
    exact wX8_noForm_L9 X hr hl F _ h
  · have h := xif hc h
    refine x_iload_n (pc := 4) X dX8_noForm_4 rfl 0 rfl ?_
    refine x_iconst (pc := 5) (v := 3) X dX8_noForm_5 (by decide) ?_
    refine x_icmp_lt (pc := 6) X 13 dX8_noForm_6 (by decide) (fun hc => ?_) (fun hc => ?_)
    · have h := xit hc h
      refine x_iconst (pc := 13) (v := 0) X dX8_noForm_13 (by decide) ?_
      refine x_sub [] rfl ?_
      exact wX8_noForm_L14 X hr hl F _ _ h
    · have h := xif hc h
      refine x_sub [] rfl ?_
      exact wX8_noForm_L9 X hr hl F _ h
set_option maxRecDepth 100000 in
set_option maxHeartbeats 4000000 in
theorem wX8_sheet_L20 {p : Program} {l : Launch} {e : Env} {s : State} {m : MethodId} {args : Array Value} {below : List Frame} {meth : Method} {c : Code} {D : va_G} {A : Nat → Prop} {ad : Nat → Nat} {cI cX : ClassId} {r : Int32} {σ' : xSt} (X : xX p s m args c cX8_sheet 4 RX8 D (tyC cI cX) A (wC ad cI cX)) (hr : meth.sig.returnType = (some .int)) (hl : meth.locks = false) (F : Nat) (σ : xSt) (h : mX8_sheet_L20 F σ = some (r, σ')) : xG p l e ({ frames := 2, cells := 0, slots := 0, locals := 45 }) s m args below meth c (MQ below (xQi D A (wC ad cI cX) r σ') args s 0 0 A) 4 D A (wC ad cI cX) σ 20 [] [] := by
  unfold mX8_sheet_L20 at h
  refine x_bipush (pc := 20) (v := (-2)) X dX8_sheet_20 (by decide) ?_
  exact x_iret (pc := 22) X hr hl h dX8_sheet_22
set_option maxRecDepth 100000 in
set_option maxHeartbeats 4000000 in
theorem kX8_sheet (l : Launch) {D : va_G} {A : Nat → Prop} {ad : Nat → Nat} {cI cX : ClassId} (hD : ∀ σ, va_D A ((wC ad cI cX) σ)) (F : Nat) (v1 : Int32) (v2 : Int32) (v3 : Int32) (σ : xSt) (r : Int32) (σ' : xSt) (h : mX8_sheet F v1 v2 v3 σ = some (r, σ')) : xM l yX8_sheet cX8_sheet 4 (some .int) ({ frames := 2, cells := 0, slots := 0, locals := 45 }) D (tyC cI cX) A (wC ad cI cX) [.ref (ad 0), .int v1, .int v2, .int v3] σ (xQi D A (wC ad cI cX) r σ') := by
  refine xM_of (lv := [(0, .ref (ad 0)), (1, .int v1), (2, .int v2), (3, .int v3)]) [.ref (ad 0), .int v1, .int v2, .int v3] (by decide) hD rfl (Nat.le_of_ble_eq_true rfl) ?_
  intro p e s m args below meth c X hr hl
  unfold mX8_sheet at h
  refine x_iload_n (pc := 0) X dX8_sheet_0 rfl 1 rfl ?_
  obtain ⟨r1, σ1, hq1, h⟩ := xb2_some h
  refine x_calliS (pc := 1) (As := [.int v1]) (rest := []) X (kX8_noSheet l X.2.2.2.2.2.2.2 F _ _ _ _ hq1) kvX8_126 ⟨rfl, rfl, Nat.le_of_ble_eq_true rfl, Nat.le_of_ble_eq_true rfl⟩ rfl rfl (Nat.le_of_ble_eq_true rfl) dX8_sheet_1 ?_
  refine x_if_ne (pc := 4) X 20 dX8_sheet_4 (by decide) (fun hc => ?_) (fun hc => ?_)
  · have h := xif hc h
    refine x_sub [] rfl ?_
    exact wX8_sheet_L20 X hr hl F _ h
  · have h := xit hc h
    refine x_iload_n (pc := 7) X dX8_sheet_7 rfl 2 rfl ?_
    obtain ⟨r8, σ8, hq8, h⟩ := xb2_some h
    refine x_calliS (pc := 8) (As := [.int v2]) (rest := []) X (kX8_noForm l X.2.2.2.2.2.2.2 F _ _ _ _ hq8) kvX8_256 ⟨rfl, rfl, Nat.le_of_ble_eq_true rfl, Nat.le_of_ble_eq_true rfl⟩ rfl rfl (Nat.le_of_ble_eq_true rfl) dX8_sheet_8 ?_
    refine x_if_ne (pc := 11) X 20 dX8_sheet_11 (by decide) (fun hc => ?_) (fun hc => ?_)
    · have h := xif hc h
      refine x_sub [] rfl ?_
      exact wX8_sheet_L20 X hr hl F _ h
    · have h := xit hc h
      refine x_iload_n (pc := 14) X dX8_sheet_14 rfl 3 rfl ?_
      refine x_bipush (pc := 15) (v := 60) X dX8_sheet_15 (by decide) ?_
      refine x_icmp_le (pc := 17) X 23 dX8_sheet_17 (by decide) (fun hc => ?_) (fun hc => ?_)
      · have h := xit hc h
        refine x_iload_n (pc := 23) X dX8_sheet_23 rfl 3 rfl ?_
        refine x_if_ge (pc := 24) X 33 dX8_sheet_24 (by decide) (fun hc => ?_) (fun hc => ?_)
        · have h := xit hc h
          refine x_aload_n (pc := 33) X dX8_sheet_33 rfl 0 rfl ?_
          refine gX8_53 (pc := 34) X dX8_sheet_34 ?_
          refine x_iload_n (pc := 37) X dX8_sheet_37 rfl 1 rfl ?_
          obtain ⟨hb38, h⟩ := xck_some h
          refine x_aald (pc := 38) X hb38 dX8_sheet_38 ?_
          refine x_iload_n (pc := 39) X dX8_sheet_39 rfl 2 rfl ?_
          refine x_iload_n (pc := 40) X dX8_sheet_40 rfl 3 rfl ?_
          obtain ⟨σ41, hq41, h⟩ := xb1_some h
          refine x_callvV (pc := 41) (As := [.int v2, .int v3]) (rest := []) X (kX5_renew l X.2.2.2.2.2.2.2 F (Int32.toNatClampNeg v1) (xin_lt hb38) _ _ _ _ hq41) kvX8_259 rfl (qX5 (Int32.toNatClampNeg v1) (xin_lt hb38)) ⟨rfl, rfl, Nat.le_of_ble_eq_true rfl, Nat.le_of_ble_eq_true rfl⟩ rfl rfl (Nat.le_of_ble_eq_true rfl) dX8_sheet_41 ?_
          refine x_iload_n (pc := 44) X dX8_sheet_44 rfl 3 rfl ?_
          exact x_iret (pc := 45) X hr hl h dX8_sheet_45
        · have h := xif hc h
          refine x_aload_n (pc := 27) X dX8_sheet_27 rfl 0 rfl ?_
          refine x_iconst (pc := 28) (v := 5) X dX8_sheet_28 (by decide) ?_
          obtain ⟨r29, σ29, hq29, h⟩ := xb2_some h
          refine x_calliV (pc := 29) (As := [.int 5]) (rest := []) X (kX8_finding l X.2.2.2.2.2.2.2 F _ _ _ _ hq29) kvX8_132 rfl (qX8) ⟨rfl, rfl, Nat.le_of_ble_eq_true rfl, Nat.le_of_ble_eq_true rfl⟩ rfl rfl (Nat.le_of_ble_eq_true rfl) dX8_sheet_29 ?_
          exact x_iret (pc := 32) X hr hl h dX8_sheet_32
      · have h := xif hc h
        refine x_sub [] rfl ?_
        exact wX8_sheet_L20 X hr hl F _ h
set_option maxRecDepth 100000 in
set_option maxHeartbeats 4000000 in
theorem kX8_lose (l : Launch) {D : va_G} {A : Nat → Prop} {ad : Nat → Nat} {cI cX : ClassId} (hD : ∀ σ, va_D A ((wC ad cI cX) σ)) (F : Nat) (v1 : Int32) (σ : xSt) (r : Int32) (σ' : xSt) (h : mX8_lose F v1 σ = some (r, σ')) : xM l yX8_lose cX8_lose 3 (some .int) ({ frames := 1, cells := 0, slots := 0, locals := 21 }) D (tyC cI cX) A (wC ad cI cX) [.ref (ad 0), .int v1] σ (xQi D A (wC ad cI cX) r σ') := by
  refine xM_of (lv := [(0, .ref (ad 0)), (1, .int v1)]) [.ref (ad 0), .int v1] (by decide) hD rfl (Nat.le_of_ble_eq_true rfl) ?_
  intro p e s m args below meth c X hr hl
  unfold mX8_lose at h
  refine x_iload_n (pc := 0) X dX8_lose_0 rfl 1 rfl ?_
  obtain ⟨r1, σ1, hq1, h⟩ := xb2_some h
  refine x_calliS (pc := 1) (As := [.int v1]) (rest := []) X (kX8_noSheet l X.2.2.2.2.2.2.2 F _ _ _ _ hq1) kvX8_126 ⟨rfl, rfl, Nat.le_of_ble_eq_true rfl, Nat.le_of_ble_eq_true rfl⟩ rfl rfl (Nat.le_of_ble_eq_true rfl) dX8_lose_1 ?_
  refine x_if_eq (pc := 4) X 10 dX8_lose_4 (by decide) (fun hc => ?_) (fun hc => ?_)
  · have h := xit hc h
    refine x_aload_n (pc := 10) X dX8_lose_10 rfl 0 rfl ?_
    refine gX8_53 (pc := 11) X dX8_lose_11 ?_
    refine x_iload_n (pc := 14) X dX8_lose_14 rfl 1 rfl ?_
    obtain ⟨hb15, h⟩ := xck_some h
    refine x_aald (pc := 15) X hb15 dX8_lose_15 ?_
    obtain ⟨r16, σ16, hq16, h⟩ := xb2_some h
    refine x_calliV (pc := 16) (As := []) (rest := []) X (kX5_isLost l X.2.2.2.2.2.2.2 F (Int32.toNatClampNeg v1) (xin_lt hb15) _ _ _ hq16) kvX8_129 rfl (qX5 (Int32.toNatClampNeg v1) (xin_lt hb15)) ⟨rfl, rfl, Nat.le_of_ble_eq_true rfl, Nat.le_of_ble_eq_true rfl⟩ rfl rfl (Nat.le_of_ble_eq_true rfl) dX8_lose_16 ?_
    refine x_if_eq (pc := 19) X 28 dX8_lose_19 (by decide) (fun hc => ?_) (fun hc => ?_)
    · have h := xit hc h
      refine x_aload_n (pc := 28) X dX8_lose_28 rfl 0 rfl ?_
      refine gX8_53 (pc := 29) X dX8_lose_29 ?_
      refine x_iload_n (pc := 32) X dX8_lose_32 rfl 1 rfl ?_
      obtain ⟨hb33, h⟩ := xck_some h
      refine x_aald (pc := 33) X hb33 dX8_lose_33 ?_
      refine gX8_136 (pc := 34) X (Int32.toNatClampNeg v1) (xin_lt hb33) dX8_lose_34 ?_
      refine x_istore_n (pc := 37) (lv' := [(2, .int (xI σ16 (24 + (Int32.toNatClampNeg v1)))), (0, .ref (ad 0)), (1, .int v1)]) X dX8_lose_37 rfl (by decide) rfl ?_
      refine x_aload_n (pc := 38) X dX8_lose_38 rfl 1 rfl ?_
      refine gX8_53 (pc := 39) X dX8_lose_39 ?_
      refine x_iload_n (pc := 42) X dX8_lose_42 rfl 2 rfl ?_
      obtain ⟨hb43, h⟩ := xck_some h
      refine x_aald (pc := 43) X hb43 dX8_lose_43 ?_
      obtain ⟨σ44, hq44, h⟩ := xb1_some h
      refine x_callvV (pc := 44) (As := []) (rest := []) X (kX5_beLost l X.2.2.2.2.2.2.2 F (Int32.toNatClampNeg v1) (xin_lt hb43) _ _ hq44) kvX8_262 rfl (qX5 (Int32.toNatClampNeg v1) (xin_lt hb43)) ⟨rfl, rfl, Nat.le_of_ble_eq_true rfl, Nat.le_of_ble_eq_true rfl⟩ rfl rfl (Nat.le_of_ble_eq_true rfl) dX8_lose_44 ?_
      refine x_iload_n (pc := 47) X dX8_lose_47 rfl 0 rfl ?_
      exact x_iret (pc := 48) X hr hl h dX8_lose_48
    · have h := xif hc h
      refine x_aload_n (pc := 22) X dX8_lose_22 rfl 0 rfl ?_
      refine x_iconst (pc := 23) (v := 1) X dX8_lose_23 (by decide) ?_
      obtain ⟨r24, σ24, hq24, h⟩ := xb2_some h
      refine x_calliV (pc := 24) (As := [.int 1]) (rest := []) X (kX8_finding l X.2.2.2.2.2.2.2 F _ _ _ _ hq24) kvX8_132 rfl (qX8) ⟨rfl, rfl, Nat.le_of_ble_eq_true rfl, Nat.le_of_ble_eq_true rfl⟩ rfl rfl (Nat.le_of_ble_eq_true rfl) dX8_lose_24 ?_
      exact x_iret (pc := 27) X hr hl h dX8_lose_27
  · have h := xif hc h
    refine x_bipush (pc := 7) (v := (-2)) X dX8_lose_7 (by decide) ?_
    exact x_iret (pc := 9) X hr hl h dX8_lose_9
set_option maxRecDepth 100000 in
set_option maxHeartbeats 4000000 in
theorem wX8_put_L14 {p : Program} {l : Launch} {e : Env} {s : State} {m : MethodId} {args : Array Value} {below : List Frame} {meth : Method} {c : Code} {D : va_G} {A : Nat → Prop} {ad : Nat → Nat} {cI cX : ClassId} {r : Int32} {σ' : xSt} (X : xX p s m args c cX8_put 6 RX8 D (tyC cI cX) A (wC ad cI cX)) (hr : meth.sig.returnType = (some .int)) (hl : meth.locks = false) (F : Nat) (σ : xSt) (h : mX8_put_L14 F σ = some (r, σ')) : xG p l e ({ frames := 2, cells := 0, slots := 0, locals := 43 }) s m args below meth c (MQ below (xQi D A (wC ad cI cX) r σ') args s 0 0 A) 6 D A (wC ad cI cX) σ 14 [] [] := by
  unfold mX8_put_L14 at h
  refine x_bipush (pc := 14) (v := (-2)) X dX8_put_14 (by decide) ?_
  exact x_iret (pc := 16) X hr hl h dX8_put_16
set_option maxRecDepth 100000 in
set_option maxHeartbeats 4000000 in
theorem kX8_put (l : Launch) {D : va_G} {A : Nat → Prop} {ad : Nat → Nat} {cI cX : ClassId} (hD : ∀ σ, va_D A ((wC ad cI cX) σ)) (F : Nat) (v1 : Int32) (v2 : Int32) (v3 : Int32) (v4 : Int32) (σ : xSt) (r : Int32) (σ' : xSt) (h : mX8_put F v1 v2 v3 v4 σ = some (r, σ')) : xM l yX8_put cX8_put 6 (some .int) ({ frames := 2, cells := 0, slots := 0, locals := 43 }) D (tyC cI cX) A (wC ad cI cX) [.ref (ad 0), .int v1, .int v2, .int v3, .int v4] σ (xQi D A (wC ad cI cX) r σ') := by
  refine xM_of (lv := [(0, .ref (ad 0)), (1, .int v1), (2, .int v2), (3, .int v3), (4, .int v4)]) [.ref (ad 0), .int v1, .int v2, .int v3, .int v4] (by decide) hD rfl (Nat.le_of_ble_eq_true rfl) ?_
  intro p e s m args below meth c X hr hl
  unfold mX8_put at h
  refine x_iload_n (pc := 0) X dX8_put_0 rfl 1 rfl ?_
  obtain ⟨r1, σ1, hq1, h⟩ := xb2_some h
  refine x_calliS (pc := 1) (As := [.int v1]) (rest := []) X (kX8_noSheet l X.2.2.2.2.2.2.2 F _ _ _ _ hq1) kvX8_126 ⟨rfl, rfl, Nat.le_of_ble_eq_true rfl, Nat.le_of_ble_eq_true rfl⟩ rfl rfl (Nat.le_of_ble_eq_true rfl) dX8_put_1 ?_
  refine x_if_ne (pc := 4) X 14 dX8_put_4 (by decide) (fun hc => ?_) (fun hc => ?_)
  · have h := xif hc h
    refine x_sub [] rfl ?_
    exact wX8_put_L14 X hr hl F _ h
  · have h := xit hc h
    refine x_iload_n (pc := 7) X dX8_put_7 rfl 2 rfl ?_
    obtain ⟨r8, σ8, hq8, h⟩ := xb2_some h
    refine x_calliS (pc := 8) (As := [.int v2]) (rest := []) X (kX8_noForm l X.2.2.2.2.2.2.2 F _ _ _ _ hq8) kvX8_256 ⟨rfl, rfl, Nat.le_of_ble_eq_true rfl, Nat.le_of_ble_eq_true rfl⟩ rfl rfl (Nat.le_of_ble_eq_true rfl) dX8_put_8 ?_
    refine x_if_eq (pc := 11) X 17 dX8_put_11 (by decide) (fun hc => ?_) (fun hc => ?_)
    · have h := xit hc h
      refine x_aload_n (pc := 17) X dX8_put_17 rfl 0 rfl ?_
      refine gX8_53 (pc := 18) X dX8_put_18 ?_
      refine x_iload_n (pc := 21) X dX8_put_21 rfl 1 rfl ?_
      obtain ⟨hb22, h⟩ := xck_some h
      refine x_aald (pc := 22) X hb22 dX8_put_22 ?_
      refine x_iload_n (pc := 23) X dX8_put_23 rfl 2 rfl ?_
      refine x_iload_n (pc := 24) X dX8_put_24 rfl 3 rfl ?_
      obtain ⟨r25, σ25, hq25, h⟩ := xb2_some h
      refine x_calliV (pc := 25) (As := [.int v2, .int v3]) (rest := []) X (kX5_wrongWith l X.2.2.2.2.2.2.2 F (Int32.toNatClampNeg v1) (xin_lt hb22) _ _ _ _ _ hq25) kvX8_265 rfl (qX5 (Int32.toNatClampNeg v1) (xin_lt hb22)) ⟨rfl, rfl, Nat.le_of_ble_eq_true rfl, Nat.le_of_ble_eq_true rfl⟩ rfl rfl (Nat.le_of_ble_eq_true rfl) dX8_put_25 ?_
      refine x_istore (pc := 28) (lv' := [(5, .int r25), (0, .ref (ad 0)), (1, .int v1), (2, .int v2), (3, .int v3), (4, .int v4)]) X dX8_put_28 (by decide) rfl ?_
      refine x_iload (pc := 30) X dX8_put_30 0 rfl ?_
      refine x_if_eq (pc := 32) X 42 dX8_put_32 (by decide) (fun hc => ?_) (fun hc => ?_)
      · have h := xit hc h
        refine x_aload_n (pc := 42) X dX8_put_42 rfl 1 rfl ?_
        refine gX8_53 (pc := 43) X dX8_put_43 ?_
        refine x_iload_n (pc := 46) X dX8_put_46 rfl 2 rfl ?_
        obtain ⟨hb47, h⟩ := xck_some h
        refine x_aald (pc := 47) X hb47 dX8_put_47 ?_
        refine x_iload_n (pc := 48) X dX8_put_48 rfl 4 rfl ?_
        refine x_iload (pc := 49) X dX8_put_49 5 rfl ?_
        obtain ⟨σ51, hq51, h⟩ := xb1_some h
        refine x_callvV (pc := 51) (As := [.int v3, .int v4]) (rest := []) X (kX5_store l X.2.2.2.2.2.2.2 F (Int32.toNatClampNeg v1) (xin_lt hb47) _ _ _ _ hq51) kvX8_268 rfl (qX5 (Int32.toNatClampNeg v1) (xin_lt hb47)) ⟨rfl, rfl, Nat.le_of_ble_eq_true rfl, Nat.le_of_ble_eq_true rfl⟩ rfl rfl (Nat.le_of_ble_eq_true rfl) dX8_put_51 ?_
        refine x_iconst (pc := 54) (v := 1) X dX8_put_54 (by decide) ?_
        exact x_iret (pc := 55) X hr hl h dX8_put_55
      · have h := xif hc h
        refine x_aload_n (pc := 35) X dX8_put_35 rfl 1 rfl ?_
        refine x_iload (pc := 36) X dX8_put_36 0 rfl ?_
        obtain ⟨r38, σ38, hq38, h⟩ := xb2_some h
        refine x_calliV (pc := 38) (As := [.int r25]) (rest := []) X (kX8_finding l X.2.2.2.2.2.2.2 F _ _ _ _ hq38) kvX8_132 rfl (qX8) ⟨rfl, rfl, Nat.le_of_ble_eq_true rfl, Nat.le_of_ble_eq_true rfl⟩ rfl rfl (Nat.le_of_ble_eq_true rfl) dX8_put_38 ?_
        exact x_iret (pc := 41) X hr hl h dX8_put_41
    · have h := xif hc h
      refine x_sub [] rfl ?_
      exact wX8_put_L14 X hr hl F _ h
set_option maxRecDepth 100000 in
set_option maxHeartbeats 4000000 in
theorem wX8_get_L14 {p : Program} {l : Launch} {e : Env} {s : State} {m : MethodId} {args : Array Value} {below : List Frame} {meth : Method} {c : Code} {D : va_G} {A : Nat → Prop} {ad : Nat → Nat} {cI cX : ClassId} {r : Int32} {σ' : xSt} (X : xX p s m args c cX8_get 5 RX8 D (tyC cI cX) A (wC ad cI cX)) (hr : meth.sig.returnType = (some .int)) (hl : meth.locks = false) (F : Nat) (σ : xSt) (h : mX8_get_L14 F σ = some (r, σ')) : xG p l e ({ frames := 2, cells := 0, slots := 0, locals := 43 }) s m args below meth c (MQ below (xQi D A (wC ad cI cX) r σ') args s 0 0 A) 5 D A (wC ad cI cX) σ 14 [] [] := by
  unfold mX8_get_L14 at h
  refine x_ldcw (pc := 14) X kcX8_271 dX8_get_14 ?_
  exact x_iret (pc := 17) X hr hl h dX8_get_17
set_option maxRecDepth 100000 in
set_option maxHeartbeats 4000000 in
theorem kX8_get (l : Launch) {D : va_G} {A : Nat → Prop} {ad : Nat → Nat} {cI cX : ClassId} (hD : ∀ σ, va_D A ((wC ad cI cX) σ)) (F : Nat) (v1 : Int32) (v2 : Int32) (v3 : Int32) (σ : xSt) (r : Int32) (σ' : xSt) (h : mX8_get F v1 v2 v3 σ = some (r, σ')) : xM l yX8_get cX8_get 5 (some .int) ({ frames := 2, cells := 0, slots := 0, locals := 43 }) D (tyC cI cX) A (wC ad cI cX) [.ref (ad 0), .int v1, .int v2, .int v3] σ (xQi D A (wC ad cI cX) r σ') := by
  refine xM_of (lv := [(0, .ref (ad 0)), (1, .int v1), (2, .int v2), (3, .int v3)]) [.ref (ad 0), .int v1, .int v2, .int v3] (by decide) hD rfl (Nat.le_of_ble_eq_true rfl) ?_
  intro p e s m args below meth c X hr hl
  unfold mX8_get at h
  refine x_iload_n (pc := 0) X dX8_get_0 rfl 1 rfl ?_
  obtain ⟨r1, σ1, hq1, h⟩ := xb2_some h
  refine x_calliS (pc := 1) (As := [.int v1]) (rest := []) X (kX8_noSheet l X.2.2.2.2.2.2.2 F _ _ _ _ hq1) kvX8_126 ⟨rfl, rfl, Nat.le_of_ble_eq_true rfl, Nat.le_of_ble_eq_true rfl⟩ rfl rfl (Nat.le_of_ble_eq_true rfl) dX8_get_1 ?_
  refine x_if_ne (pc := 4) X 14 dX8_get_4 (by decide) (fun hc => ?_) (fun hc => ?_)
  · have h := xif hc h
    refine x_sub [] rfl ?_
    exact wX8_get_L14 X hr hl F _ h
  · have h := xit hc h
    refine x_iload_n (pc := 7) X dX8_get_7 rfl 2 rfl ?_
    obtain ⟨r8, σ8, hq8, h⟩ := xb2_some h
    refine x_calliS (pc := 8) (As := [.int v2]) (rest := []) X (kX8_noForm l X.2.2.2.2.2.2.2 F _ _ _ _ hq8) kvX8_256 ⟨rfl, rfl, Nat.le_of_ble_eq_true rfl, Nat.le_of_ble_eq_true rfl⟩ rfl rfl (Nat.le_of_ble_eq_true rfl) dX8_get_8 ?_
    refine x_if_eq (pc := 11) X 18 dX8_get_11 (by decide) (fun hc => ?_) (fun hc => ?_)
    · have h := xit hc h
      refine x_aload_n (pc := 18) X dX8_get_18 rfl 0 rfl ?_
      refine gX8_53 (pc := 19) X dX8_get_19 ?_
      refine x_iload_n (pc := 22) X dX8_get_22 rfl 1 rfl ?_
      obtain ⟨hb23, h⟩ := xck_some h
      refine x_aald (pc := 23) X hb23 dX8_get_23 ?_
      refine x_iload_n (pc := 24) X dX8_get_24 rfl 2 rfl ?_
      refine x_iload_n (pc := 25) X dX8_get_25 rfl 3 rfl ?_
      obtain ⟨r26, σ26, hq26, h⟩ := xb2_some h
      refine x_calliV (pc := 26) (As := [.int v2, .int v3]) (rest := []) X (kX5_wrongWith l X.2.2.2.2.2.2.2 F (Int32.toNatClampNeg v1) (xin_lt hb23) _ _ _ _ _ hq26) kvX8_265 rfl (qX5 (Int32.toNatClampNeg v1) (xin_lt hb23)) ⟨rfl, rfl, Nat.le_of_ble_eq_true rfl, Nat.le_of_ble_eq_true rfl⟩ rfl rfl (Nat.le_of_ble_eq_true rfl) dX8_get_26 ?_
      refine x_istore (pc := 29) (lv' := [(4, .int r26), (0, .ref (ad 0)), (1, .int v1), (2, .int v2), (3, .int v3)]) X dX8_get_29 (by decide) rfl ?_
      refine x_iload (pc := 31) X dX8_get_31 0 rfl ?_
      refine x_if_eq (pc := 33) X 47 dX8_get_33 (by decide) (fun hc => ?_) (fun hc => ?_)
      · have h := xit hc h
        refine x_aload_n (pc := 47) X dX8_get_47 rfl 1 rfl ?_
        refine gX8_53 (pc := 48) X dX8_get_48 ?_
        refine x_iload_n (pc := 51) X dX8_get_51 rfl 2 rfl ?_
        obtain ⟨hb52, h⟩ := xck_some h
        refine x_aald (pc := 52) X hb52 dX8_get_52 ?_
        refine x_iload_n (pc := 53) X dX8_get_53 rfl 4 rfl ?_
        obtain ⟨r54, σ54, hq54, h⟩ := xb2_some h
        refine x_calliV (pc := 54) (As := [.int v3]) (rest := []) X (kX5_item l X.2.2.2.2.2.2.2 F (Int32.toNatClampNeg v1) (xin_lt hb52) _ _ _ _ hq54) kvX8_137 rfl (qX5 (Int32.toNatClampNeg v1) (xin_lt hb52)) ⟨rfl, rfl, Nat.le_of_ble_eq_true rfl, Nat.le_of_ble_eq_true rfl⟩ rfl rfl (Nat.le_of_ble_eq_true rfl) dX8_get_54 ?_
        exact x_iret (pc := 57) X hr hl h dX8_get_57
      · have h := xif hc h
        refine x_aload_n (pc := 36) X dX8_get_36 rfl 1 rfl ?_
        refine x_iload (pc := 37) X dX8_get_37 0 rfl ?_
        obtain ⟨r39, σ39, hq39, h⟩ := xb2_some h
        refine x_calliV (pc := 39) (As := [.int r26]) (rest := []) X (kX8_finding l X.2.2.2.2.2.2.2 F _ _ _ _ hq39) kvX8_132 rfl (qX8) ⟨rfl, rfl, Nat.le_of_ble_eq_true rfl, Nat.le_of_ble_eq_true rfl⟩ rfl rfl (Nat.le_of_ble_eq_true rfl) dX8_get_39 ?_
        refine x_pop (pc := 42) X dX8_get_42 rfl ?_
        refine x_ldcw (pc := 43) X kcX8_271 dX8_get_43 ?_
        exact x_iret (pc := 46) X hr hl h dX8_get_46
    · have h := xif hc h
      refine x_sub [] rfl ?_
      exact wX8_get_L14 X hr hl F _ h
set_option maxRecDepth 100000 in
set_option maxHeartbeats 4000000 in
theorem wX8_copy_L102 {p : Program} {l : Launch} {e : Env} {s : State} {m : MethodId} {args : Array Value} {below : List Frame} {meth : Method} {c : Code} {D : va_G} {A : Nat → Prop} {ad : Nat → Nat} {cI cX : ClassId} {r : Int32} {σ' : xSt} (X : xX p s m args c cX8_copy 8 RX8 D (tyC cI cX) A (wC ad cI cX)) (hr : meth.sig.returnType = (some .int)) (hl : meth.locks = false) (F : Nat) (σ : xSt) (h : mX8_copy_L102 F σ = some (r, σ')) : xG p l e ({ frames := 1, cells := 0, slots := 0, locals := 40 }) s m args below meth c (MQ below (xQi D A (wC ad cI cX) r σ') args s 0 0 A) 8 D A (wC ad cI cX) σ 102 [(0, .ref (ad 0))] [] := by
  unfold mX8_copy_L102 at h
  refine x_aload_n (pc := 102) X dX8_copy_102 rfl 0 rfl ?_
  refine x_iconst (pc := 103) (v := 2) X dX8_copy_103 (by decide) ?_
  obtain ⟨r104, σ104, hq104, h⟩ := xb2_some h
  refine x_calliV (pc := 104) (As := [.int 2]) (rest := []) X (kX8_finding l X.2.2.2.2.2.2.2 F _ _ _ _ hq104) kvX8_132 rfl (qX8) ⟨rfl, rfl, Nat.le_of_ble_eq_true rfl, Nat.le_of_ble_eq_true rfl⟩ rfl rfl (Nat.le_of_ble_eq_true rfl) dX8_copy_104 ?_
  exact x_iret (pc := 107) X hr hl h dX8_copy_107
set_option maxRecDepth 100000 in
set_option maxHeartbeats 4000000 in
theorem wX8_copy_L49 {p : Program} {l : Launch} {e : Env} {s : State} {m : MethodId} {args : Array Value} {below : List Frame} {meth : Method} {c : Code} {D : va_G} {A : Nat → Prop} {ad : Nat → Nat} {cI cX : ClassId} {r : Int32} {σ' : xSt} (X : xX p s m args c cX8_copy 8 RX8 D (tyC cI cX) A (wC ad cI cX)) (hr : meth.sig.returnType = (some .int)) (hl : meth.locks = false) (F : Nat) (σ : xSt) (h : mX8_copy_L49 F σ = some (r, σ')) : xG p l e ({ frames := 1, cells := 0, slots := 0, locals := 40 }) s m args below meth c (MQ below (xQi D A (wC ad cI cX) r σ') args s 0 0 A) 8 D A (wC ad cI cX) σ 49 [(0, .ref (ad 0))] [] := by
  unfold mX8_copy_L49 at h
  refine x_aload_n (pc := 49) X dX8_copy_49 rfl 0 rfl ?_
  refine x_iconst (pc := 50) (v := 1) X dX8_copy_50 (by decide) ?_
  obtain ⟨r51, σ51, hq51, h⟩ := xb2_some h
  refine x_calliV (pc := 51) (As := [.int 1]) (rest := []) X (kX8_finding l X.2.2.2.2.2.2.2 F _ _ _ _ hq51) kvX8_132 rfl (qX8) ⟨rfl, rfl, Nat.le_of_ble_eq_true rfl, Nat.le_of_ble_eq_true rfl⟩ rfl rfl (Nat.le_of_ble_eq_true rfl) dX8_copy_51 ?_
  exact x_iret (pc := 54) X hr hl h dX8_copy_54
set_option maxRecDepth 100000 in
set_option maxHeartbeats 4000000 in
theorem wX8_copy_L14 {p : Program} {l : Launch} {e : Env} {s : State} {m : MethodId} {args : Array Value} {below : List Frame} {meth : Method} {c : Code} {D : va_G} {A : Nat → Prop} {ad : Nat → Nat} {cI cX : ClassId} {r : Int32} {σ' : xSt} (X : xX p s m args c cX8_copy 8 RX8 D (tyC cI cX) A (wC ad cI cX)) (hr : meth.sig.returnType = (some .int)) (hl : meth.locks = false) (F : Nat) (σ : xSt) (h : mX8_copy_L14 F σ = some (r, σ')) : xG p l e ({ frames := 1, cells := 0, slots := 0, locals := 40 }) s m args below meth c (MQ below (xQi D A (wC ad cI cX) r σ') args s 0 0 A) 8 D A (wC ad cI cX) σ 14 [] [] := by
  unfold mX8_copy_L14 at h
  refine x_bipush (pc := 14) (v := (-2)) X dX8_copy_14 (by decide) ?_
  exact x_iret (pc := 16) X hr hl h dX8_copy_16
set_option maxRecDepth 100000 in
set_option maxHeartbeats 4000000 in
theorem kX8_copy (l : Launch) {D : va_G} {A : Nat → Prop} {ad : Nat → Nat} {cI cX : ClassId} (hD : ∀ σ, va_D A ((wC ad cI cX) σ)) (F : Nat) (v1 : Int32) (v2 : Int32) (v3 : Int32) (v4 : Int32) (v5 : Int32) (σ : xSt) (r : Int32) (σ' : xSt) (h : mX8_copy F v1 v2 v3 v4 v5 σ = some (r, σ')) : xM l yX8_copy cX8_copy 8 (some .int) ({ frames := 1, cells := 0, slots := 0, locals := 40 }) D (tyC cI cX) A (wC ad cI cX) [.ref (ad 0), .int v1, .int v2, .int v3, .int v4, .int v5] σ (xQi D A (wC ad cI cX) r σ') := by
  refine xM_of (lv := [(0, .ref (ad 0)), (1, .int v1), (2, .int v2), (3, .int v3), (4, .int v4), (5, .int v5)]) [.ref (ad 0), .int v1, .int v2, .int v3, .int v4, .int v5] (by decide) hD rfl (Nat.le_of_ble_eq_true rfl) ?_
  intro p e s m args below meth c X hr hl
  unfold mX8_copy at h
  refine x_iload_n (pc := 0) X dX8_copy_0 rfl 1 rfl ?_
  obtain ⟨r1, σ1, hq1, h⟩ := xb2_some h
  refine x_calliS (pc := 1) (As := [.int v1]) (rest := []) X (kX8_noSheet l X.2.2.2.2.2.2.2 F _ _ _ _ hq1) kvX8_126 ⟨rfl, rfl, Nat.le_of_ble_eq_true rfl, Nat.le_of_ble_eq_true rfl⟩ rfl rfl (Nat.le_of_ble_eq_true rfl) dX8_copy_1 ?_
  refine x_if_ne (pc := 4) X 14 dX8_copy_4 (by decide) (fun hc => ?_) (fun hc => ?_)
  · have h := xif hc h
    refine x_sub [] rfl ?_
    exact wX8_copy_L14 X hr hl F _ h
  · have h := xit hc h
    refine x_iload_n (pc := 7) X dX8_copy_7 rfl 3 rfl ?_
    obtain ⟨r8, σ8, hq8, h⟩ := xb2_some h
    refine x_calliS (pc := 8) (As := [.int v3]) (rest := []) X (kX8_noSheet l X.2.2.2.2.2.2.2 F _ _ _ _ hq8) kvX8_126 ⟨rfl, rfl, Nat.le_of_ble_eq_true rfl, Nat.le_of_ble_eq_true rfl⟩ rfl rfl (Nat.le_of_ble_eq_true rfl) dX8_copy_8 ?_
    refine x_if_eq (pc := 11) X 17 dX8_copy_11 (by decide) (fun hc => ?_) (fun hc => ?_)
    · have h := xit hc h
      refine x_aload_n (pc := 17) X dX8_copy_17 rfl 0 rfl ?_
      refine gX8_53 (pc := 18) X dX8_copy_18 ?_
      refine x_iload_n (pc := 21) X dX8_copy_21 rfl 1 rfl ?_
      obtain ⟨hb22, h⟩ := xck_some h
      refine x_aald (pc := 22) X hb22 dX8_copy_22 ?_
      refine x_astore (pc := 23) (lv' := [(6, .ref (ad (37 + (Int32.toNatClampNeg v1)))), (0, .ref (ad 0)), (1, .int v1), (2, .int v2), (3, .int v3), (4, .int v4), (5, .int v5)]) X dX8_copy_23 (by decide) rfl ?_
      refine x_aload_n (pc := 25) X dX8_copy_25 rfl 1 rfl ?_
      refine gX8_53 (pc := 26) X dX8_copy_26 ?_
      refine x_iload_n (pc := 29) X dX8_copy_29 rfl 4 rfl ?_
      obtain ⟨hb30, h⟩ := xck_some h
      refine x_aald (pc := 30) X hb30 dX8_copy_30 ?_
      refine x_astore (pc := 31) (lv' := [(7, .ref (ad (37 + (Int32.toNatClampNeg v3)))), (6, .ref (ad (37 + (Int32.toNatClampNeg v1)))), (0, .ref (ad 0)), (1, .int v1), (2, .int v2), (3, .int v3), (4, .int v4), (5, .int v5)]) X dX8_copy_31 (by decide) rfl ?_
      refine x_aload (pc := 33) X dX8_copy_33 1 rfl ?_
      obtain ⟨r35, σ35, hq35, h⟩ := xb2_some h
      refine x_calliV (pc := 35) (As := []) (rest := []) X (kX5_isLost l X.2.2.2.2.2.2.2 F (Int32.toNatClampNeg v1) (xin_lt hb22) _ _ _ hq35) kvX8_129 rfl (qX5 (Int32.toNatClampNeg v1) (xin_lt hb22)) ⟨rfl, rfl, Nat.le_of_ble_eq_true rfl, Nat.le_of_ble_eq_true rfl⟩ rfl rfl (Nat.le_of_ble_eq_true rfl) dX8_copy_35 ?_
      refine x_if_ne (pc := 38) X 49 dX8_copy_38 (by decide) (fun hc => ?_) (fun hc => ?_)
      · have h := xif hc h
        refine x_sub [2] rfl ?_
        exact wX8_copy_L49 X hr hl F _ h
      · have h := xit hc h
        refine x_aload (pc := 41) X dX8_copy_41 0 rfl ?_
        obtain ⟨r43, σ43, hq43, h⟩ := xb2_some h
        refine x_calliV (pc := 43) (As := []) (rest := []) X (kX5_isLost l X.2.2.2.2.2.2.2 F (Int32.toNatClampNeg v3) (xin_lt hb30) _ _ _ hq43) kvX8_129 rfl (qX5 (Int32.toNatClampNeg v3) (xin_lt hb30)) ⟨rfl, rfl, Nat.le_of_ble_eq_true rfl, Nat.le_of_ble_eq_true rfl⟩ rfl rfl (Nat.le_of_ble_eq_true rfl) dX8_copy_43 ?_
        refine x_if_eq (pc := 46) X 55 dX8_copy_46 (by decide) (fun hc => ?_) (fun hc => ?_)
        · have h := xit hc h
          refine x_aload (pc := 55) X dX8_copy_55 1 rfl ?_
          refine gX8_272 (pc := 57) X (Int32.toNatClampNeg v1) (xin_lt hb22) dX8_copy_57 ?_
          refine x_aload (pc := 60) X dX8_copy_60 0 rfl ?_
          refine gX8_272 (pc := 62) X (Int32.toNatClampNeg v3) (xin_lt hb30) dX8_copy_62 ?_
          refine x_icmp_eq (pc := 65) X 74 dX8_copy_65 (by decide) (fun hc => ?_) (fun hc => ?_)
          · have h := xit hc h
            refine x_iload (pc := 74) X dX8_copy_74 7 rfl ?_
            refine x_if_lt (pc := 76) X 102 dX8_copy_76 (by decide) (fun hc => ?_) (fun hc => ?_)
            · have h := xit hc h
              refine x_sub [2] rfl ?_
              exact wX8_copy_L102 X hr hl F _ h
            · have h := xif hc h
              refine x_aload (pc := 79) X dX8_copy_79 1 rfl ?_
              refine x_iload_n (pc := 81) X dX8_copy_81 rfl 4 rfl ?_
              refine x_iload (pc := 82) X dX8_copy_82 7 rfl ?_
              obtain ⟨r84, σ84, hq84, h⟩ := xb2_some h
              refine x_calliV (pc := 84) (As := [.int v2, .int v5]) (rest := []) X (kX5_lacksRun l X.2.2.2.2.2.2.2 F (Int32.toNatClampNeg v1) (xin_lt hb22) _ _ _ _ _ hq84) kvX8_275 rfl (qX5 (Int32.toNatClampNeg v1) (xin_lt hb22)) ⟨rfl, rfl, Nat.le_of_ble_eq_true rfl, Nat.le_of_ble_eq_true rfl⟩ rfl rfl (Nat.le_of_ble_eq_true rfl) dX8_copy_84 ?_
              refine x_if_ne (pc := 87) X 102 dX8_copy_87 (by decide) (fun hc => ?_) (fun hc => ?_)
              · have h := xif hc h
                refine x_sub [2] rfl ?_
                exact wX8_copy_L102 X hr hl F _ h
              · have h := xit hc h
                refine x_aload (pc := 90) X dX8_copy_90 0 rfl ?_
                refine x_iload (pc := 92) X dX8_copy_92 6 rfl ?_
                refine x_iload (pc := 94) X dX8_copy_94 7 rfl ?_
                obtain ⟨r96, σ96, hq96, h⟩ := xb2_some h
                refine x_calliV (pc := 96) (As := [.int v4, .int v5]) (rest := []) X (kX5_lacksRun l X.2.2.2.2.2.2.2 F (Int32.toNatClampNeg v3) (xin_lt hb30) _ _ _ _ _ hq96) kvX8_275 rfl (qX5 (Int32.toNatClampNeg v3) (xin_lt hb30)) ⟨rfl, rfl, Nat.le_of_ble_eq_true rfl, Nat.le_of_ble_eq_true rfl⟩ rfl rfl (Nat.le_of_ble_eq_true rfl) dX8_copy_96 ?_
                refine x_if_eq (pc := 99) X 108 dX8_copy_99 (by decide) (fun hc => ?_) (fun hc => ?_)
                · have h := xit hc h
                  refine x_aload (pc := 108) X dX8_copy_108 1 rfl ?_
                  refine gX8_278 (pc := 110) X (Int32.toNatClampNeg v1) (xin_lt hb22) dX8_copy_110 ?_
                  refine x_iload_n (pc := 113) X dX8_copy_113 rfl 4 rfl ?_
                  refine x_aload (pc := 114) X dX8_copy_114 0 rfl ?_
                  refine gX8_278 (pc := 116) X (Int32.toNatClampNeg v3) (xin_lt hb30) dX8_copy_116 ?_
                  refine x_iload (pc := 119) X dX8_copy_119 6 rfl ?_
                  refine x_iload (pc := 121) X dX8_copy_121 7 rfl ?_
                  obtain ⟨hb123, h⟩ := xck_some h
                  refine x_copy (pc := 123) (σ' := (xsF σ96 (30 + (Int32.toNatClampNeg v3)) (va_cpy (xA σ96 (30 + (Int32.toNatClampNeg v1))) (xA σ96 (30 + (Int32.toNatClampNeg v3))) (Int32.toNatClampNeg v2) (Int32.toNatClampNeg v4) (Int32.toNatClampNeg v5)))) X kvX8_281 (41 + (Int32.toNatClampNeg v1)) (41 + (Int32.toNatClampNeg v3)) (qaX5_items (Int32.toNatClampNeg v1) (xin_lt hb22)) (qaX5_items (Int32.toNatClampNeg v3) (xin_lt hb30)) (saX5_items _ (Int32.toNatClampNeg v3) (xin_lt hb30)) rfl hb123 ⟨Nat.le_of_ble_eq_true rfl, Nat.le_of_ble_eq_true rfl⟩ dX8_copy_123 ?_
                  refine x_iconst (pc := 126) (v := 1) X dX8_copy_126 (by decide) ?_
                  exact x_iret (pc := 127) X hr hl h dX8_copy_127
                · have h := xif hc h
                  refine x_sub [2] rfl ?_
                  exact wX8_copy_L102 X hr hl F _ h
          · have h := xif hc h
            refine x_aload_n (pc := 68) X dX8_copy_68 rfl 2 rfl ?_
            refine x_iconst (pc := 69) (v := 4) X dX8_copy_69 (by decide) ?_
            obtain ⟨r70, σ70, hq70, h⟩ := xb2_some h
            refine x_calliV (pc := 70) (As := [.int 4]) (rest := []) X (kX8_finding l X.2.2.2.2.2.2.2 F _ _ _ _ hq70) kvX8_132 rfl (qX8) ⟨rfl, rfl, Nat.le_of_ble_eq_true rfl, Nat.le_of_ble_eq_true rfl⟩ rfl rfl (Nat.le_of_ble_eq_true rfl) dX8_copy_70 ?_
            exact x_iret (pc := 73) X hr hl h dX8_copy_73
        · have h := xif hc h
          refine x_sub [2] rfl ?_
          exact wX8_copy_L49 X hr hl F _ h
    · have h := xif hc h
      refine x_sub [] rfl ?_
      exact wX8_copy_L14 X hr hl F _ h
set_option maxRecDepth 100000 in
set_option maxHeartbeats 4000000 in
theorem wX8_write_L85 {p : Program} {l : Launch} {e : Env} {s : State} {m : MethodId} {args : Array Value} {below : List Frame} {meth : Method} {c : Code} {D : va_G} {A : Nat → Prop} {ad : Nat → Nat} {cI cX : ClassId} {r : Int32} {σ' : xSt} (X : xX p s m args c cX8_write 6 RX8 D (tyC cI cX) A (wC ad cI cX)) (hr : meth.sig.returnType = (some .int)) (hl : meth.locks = false) (F : Nat) (v4 : Int32) (σ : xSt) (h : mX8_write_L85 F v4 σ = some (r, σ')) : xG p l e ({ frames := 2, cells := 0, slots := 0, locals := 55 }) s m args below meth c (MQ below (xQi D A (wC ad cI cX) r σ') args s 0 0 A) 6 D A (wC ad cI cX) σ 85 [(4, .int v4)] [] := by
  unfold mX8_write_L85 at h
  refine x_iload (pc := 85) X dX8_write_85 0 rfl ?_
  exact x_iret (pc := 87) X hr hl h dX8_write_87
set_option maxRecDepth 100000 in
set_option maxHeartbeats 4000000 in
theorem wX8_write_S55 {p : Program} {l : Launch} {e : Env} {s : State} {m : MethodId} {args : Array Value} {below : List Frame} {meth : Method} {c : Code} {D : va_G} {A : Nat → Prop} {ad : Nat → Nat} {cI cX : ClassId} {r : Int32} {σ' : xSt} {c55 : Int32 → Nat → Int32 → Int32 → xSt → Option (Int32 × xSt)} (X : xX p s m args c cX8_write 6 RX8 D (tyC cI cX) A (wC ad cI cX)) (hr : meth.sig.returnType = (some .int)) (hl : meth.locks = false) (F : Nat) (hc55 : ∀ (v1 : Int32) (kv3 : Nat) (v4 : Int32) (v5 : Int32) (σ : xSt), c55 v1 kv3 v4 v5 σ = some (r, σ') → xG p l e ({ frames := 2, cells := 0, slots := 0, locals := 55 }) s m args below meth c (MQ below (xQi D A (wC ad cI cX) r σ') args s 0 0 A) 6 D A (wC ad cI cX) σ 55 [(0, .ref (ad 0)), (1, .int v1), (3, .ref (ad (37 + kv3))), (4, .int v4), (5, .int v5)] []) (v1 : Int32) (kv3 : Nat) (v4 : Int32) (v5 : Int32) (σ : xSt) (h : mX8_write_S55 F c55 v1 kv3 v4 v5 σ = some (r, σ')) : xG p l e ({ frames := 2, cells := 0, slots := 0, locals := 55 }) s m args below meth c (MQ below (xQi D A (wC ad cI cX) r σ') args s 0 0 A) 6 D A (wC ad cI cX) σ 55 [(0, .ref (ad 0)), (1, .int v1), (3, .ref (ad (37 + kv3))), (4, .int v4), (5, .int v5)] [] := by
  unfold mX8_write_S55 at h
  obtain ⟨hkv3, h⟩ := xck_some h
  have hkv3 := of_decide_eq_true hkv3
  refine x_iload (pc := 55) X dX8_write_55 4 rfl ?_
  refine x_iload (pc := 57) X dX8_write_57 3 rfl ?_
  refine x_icmp_ge (pc := 59) X 85 dX8_write_59 (by decide) (fun hc => ?_) (fun hc => ?_)
  · have h := xit hc h
    refine x_sub [3] rfl ?_
    exact wX8_write_L85 X hr hl F _ _ h
  · have h := xif hc h
    refine x_aload_n (pc := 62) X dX8_write_62 rfl 2 rfl ?_
    refine x_iload (pc := 63) X dX8_write_63 4 rfl ?_
    refine x_aload_n (pc := 65) X dX8_write_65 rfl 0 rfl ?_
    refine gX8_12 (pc := 66) X dX8_write_66 ?_
    refine x_iload_n (pc := 69) X dX8_write_69 rfl 1 rfl ?_
    refine x_iload (pc := 70) X dX8_write_70 4 rfl ?_
    refine x_iconst (pc := 72) (v := 0) X dX8_write_72 (by decide) ?_
    obtain ⟨r73, σ73, hq73, h⟩ := xb2_some h
    refine x_calliV (pc := 73) (As := [.int v1, .int v5, .int 0]) (rest := [.int v5, .ref (ad (37 + kv3))]) X (kX2_tellsBehind l X.2.2.2.2.2.2.2 F _ _ _ _ _ _ hq73) kvX8_147 rfl (qX2) ⟨rfl, rfl, Nat.le_of_ble_eq_true rfl, Nat.le_of_ble_eq_true rfl⟩ rfl rfl (Nat.le_of_ble_eq_true rfl) dX8_write_73 ?_
    obtain ⟨σ76, hq76, h⟩ := xb1_some h
    refine x_callvV (pc := 76) (As := [.int v5, .int r73]) (rest := []) X (kX5_store l X.2.2.2.2.2.2.2 F kv3 hkv3 _ _ _ _ hq76) kvX8_268 rfl (qX5 kv3 hkv3) ⟨rfl, rfl, Nat.le_of_ble_eq_true rfl, Nat.le_of_ble_eq_true rfl⟩ rfl rfl (Nat.le_of_ble_eq_true rfl) dX8_write_76 ?_
    refine x_iinc (pc := 79) (v := (v5 + 1)) (lv' := [(5, .int (v5 + 1)), (0, .ref (ad 0)), (1, .int v1), (3, .ref (ad (37 + kv3))), (4, .int v4)]) X dX8_write_79 4 rfl rfl (by decide) rfl ?_
    refine x_goto (pc := 82) X 55 dX8_write_82 (by decide) ?_
    refine x_sub [1, 2, 3, 4, 0] rfl ?_
    exact hc55 _ _ _ _ _ h
theorem wX8_write_L55 {p : Program} {l : Launch} {e : Env} {s : State} {m : MethodId} {args : Array Value} {below : List Frame} {meth : Method} {c : Code} {D : va_G} {A : Nat → Prop} {ad : Nat → Nat} {cI cX : ClassId} {r : Int32} {σ' : xSt} (X : xX p s m args c cX8_write 6 RX8 D (tyC cI cX) A (wC ad cI cX)) (hr : meth.sig.returnType = (some .int)) (hl : meth.locks = false) (F : Nat) : ∀ (n : Nat) (v1 : Int32) (kv3 : Nat) (v4 : Int32) (v5 : Int32) (σ : xSt), mX8_write_L55 F n v1 kv3 v4 v5 σ = some (r, σ') → xG p l e ({ frames := 2, cells := 0, slots := 0, locals := 55 }) s m args below meth c (MQ below (xQi D A (wC ad cI cX) r σ') args s 0 0 A) 6 D A (wC ad cI cX) σ 55 [(0, .ref (ad 0)), (1, .int v1), (3, .ref (ad (37 + kv3))), (4, .int v4), (5, .int v5)] [] := by
  intro n
  induction n with
  | zero => intro v1 kv3 v4 v5 σ h; cases h
  | succ n ih => intro v1 kv3 v4 v5 σ h; exact wX8_write_S55 X hr hl F ih v1 kv3 v4 v5 σ h
set_option maxRecDepth 100000 in
set_option maxHeartbeats 4000000 in
theorem wX8_write_L18 {p : Program} {l : Launch} {e : Env} {s : State} {m : MethodId} {args : Array Value} {below : List Frame} {meth : Method} {c : Code} {D : va_G} {A : Nat → Prop} {ad : Nat → Nat} {cI cX : ClassId} {r : Int32} {σ' : xSt} (X : xX p s m args c cX8_write 6 RX8 D (tyC cI cX) A (wC ad cI cX)) (hr : meth.sig.returnType = (some .int)) (hl : meth.locks = false) (F : Nat) (σ : xSt) (h : mX8_write_L18 F σ = some (r, σ')) : xG p l e ({ frames := 2, cells := 0, slots := 0, locals := 55 }) s m args below meth c (MQ below (xQi D A (wC ad cI cX) r σ') args s 0 0 A) 6 D A (wC ad cI cX) σ 18 [] [] := by
  unfold mX8_write_L18 at h
  refine x_bipush (pc := 18) (v := (-2)) X dX8_write_18 (by decide) ?_
  exact x_iret (pc := 20) X hr hl h dX8_write_20
set_option maxRecDepth 100000 in
set_option maxHeartbeats 4000000 in
theorem kX8_write (l : Launch) {D : va_G} {A : Nat → Prop} {ad : Nat → Nat} {cI cX : ClassId} (hD : ∀ σ, va_D A ((wC ad cI cX) σ)) (F : Nat) (v1 : Int32) (v2 : Int32) (σ : xSt) (r : Int32) (σ' : xSt) (h : mX8_write F v1 v2 σ = some (r, σ')) : xM l yX8_write cX8_write 6 (some .int) ({ frames := 2, cells := 0, slots := 0, locals := 55 }) D (tyC cI cX) A (wC ad cI cX) [.ref (ad 0), .int v1, .int v2] σ (xQi D A (wC ad cI cX) r σ') := by
  refine xM_of (lv := [(0, .ref (ad 0)), (1, .int v1), (2, .int v2)]) [.ref (ad 0), .int v1, .int v2] (by decide) hD rfl (Nat.le_of_ble_eq_true rfl) ?_
  intro p e s m args below meth c X hr hl
  unfold mX8_write at h
  refine x_aload_n (pc := 0) X dX8_write_0 rfl 0 rfl ?_
  refine gX8_12 (pc := 1) X dX8_write_1 ?_
  refine x_iload_n (pc := 4) X dX8_write_4 rfl 1 rfl ?_
  obtain ⟨r5, σ5, hq5, h⟩ := xb2_some h
  refine x_calliV (pc := 5) (As := [.int v1]) (rest := []) X (kX2_lacksThing l X.2.2.2.2.2.2.2 F _ _ _ _ hq5) kvX8_144 rfl (qX2) ⟨rfl, rfl, Nat.le_of_ble_eq_true rfl, Nat.le_of_ble_eq_true rfl⟩ rfl rfl (Nat.le_of_ble_eq_true rfl) dX8_write_5 ?_
  refine x_if_ne (pc := 8) X 18 dX8_write_8 (by decide) (fun hc => ?_) (fun hc => ?_)
  · have h := xif hc h
    refine x_sub [] rfl ?_
    exact wX8_write_L18 X hr hl F _ h
  · have h := xit hc h
    refine x_iload_n (pc := 11) X dX8_write_11 rfl 2 rfl ?_
    obtain ⟨r12, σ12, hq12, h⟩ := xb2_some h
    refine x_calliS (pc := 12) (As := [.int v2]) (rest := []) X (kX8_noSheet l X.2.2.2.2.2.2.2 F _ _ _ _ hq12) kvX8_126 ⟨rfl, rfl, Nat.le_of_ble_eq_true rfl, Nat.le_of_ble_eq_true rfl⟩ rfl rfl (Nat.le_of_ble_eq_true rfl) dX8_write_12 ?_
    refine x_if_eq (pc := 15) X 21 dX8_write_15 (by decide) (fun hc => ?_) (fun hc => ?_)
    · have h := xit hc h
      refine x_aload_n (pc := 21) X dX8_write_21 rfl 0 rfl ?_
      refine gX8_53 (pc := 22) X dX8_write_22 ?_
      refine x_iload_n (pc := 25) X dX8_write_25 rfl 2 rfl ?_
      obtain ⟨hb26, h⟩ := xck_some h
      refine x_aald (pc := 26) X hb26 dX8_write_26 ?_
      refine x_astore_n (pc := 27) (lv' := [(3, .ref (ad (37 + (Int32.toNatClampNeg v2)))), (0, .ref (ad 0)), (1, .int v1), (2, .int v2)]) X dX8_write_27 rfl (by decide) rfl ?_
      refine x_aload_n (pc := 28) X dX8_write_28 rfl 0 rfl ?_
      obtain ⟨r29, σ29, hq29, h⟩ := xb2_some h
      refine x_calliV (pc := 29) (As := []) (rest := []) X (kX5_isLost l X.2.2.2.2.2.2.2 F (Int32.toNatClampNeg v2) (xin_lt hb26) _ _ _ hq29) kvX8_129 rfl (qX5 (Int32.toNatClampNeg v2) (xin_lt hb26)) ⟨rfl, rfl, Nat.le_of_ble_eq_true rfl, Nat.le_of_ble_eq_true rfl⟩ rfl rfl (Nat.le_of_ble_eq_true rfl) dX8_write_29 ?_
      refine x_if_eq (pc := 32) X 41 dX8_write_32 (by decide) (fun hc => ?_) (fun hc => ?_)
      · have h := xit hc h
        refine x_aload_n (pc := 41) X dX8_write_41 rfl 0 rfl ?_
        refine gX8_136 (pc := 42) X (Int32.toNatClampNeg v2) (xin_lt hb26) dX8_write_42 ?_
        refine x_bipush (pc := 45) (v := 24) X dX8_write_45 (by decide) ?_
        refine x_mmin (pc := 47) X kvX8_287 ⟨Nat.le_of_ble_eq_true rfl, Nat.le_of_ble_eq_true rfl⟩ dX8_write_47 ?_
        refine x_istore (pc := 50) (lv' := [(4, .int (if 24 < (xI σ29 (24 + (Int32.toNatClampNeg v2))) then 24 else (xI σ29 (24 + (Int32.toNatClampNeg v2))))), (3, .ref (ad (37 + (Int32.toNatClampNeg v2)))), (0, .ref (ad 0)), (1, .int v1), (2, .int v2)]) X dX8_write_50 (by decide) rfl ?_
        refine x_iconst (pc := 52) (v := 0) X dX8_write_52 (by decide) ?_
        refine x_istore (pc := 53) (lv' := [(5, .int 0), (4, .int (if 24 < (xI σ29 (24 + (Int32.toNatClampNeg v2))) then 24 else (xI σ29 (24 + (Int32.toNatClampNeg v2))))), (3, .ref (ad (37 + (Int32.toNatClampNeg v2)))), (0, .ref (ad 0)), (1, .int v1), (2, .int v2)]) X dX8_write_53 (by decide) rfl ?_
        refine x_sub [3, 4, 2, 1, 0] rfl ?_
        exact wX8_write_L55 X hr hl F F _ _ _ _ _ h
      · have h := xif hc h
        refine x_aload_n (pc := 35) X dX8_write_35 rfl 1 rfl ?_
        refine x_iconst (pc := 36) (v := 1) X dX8_write_36 (by decide) ?_
        obtain ⟨r37, σ37, hq37, h⟩ := xb2_some h
        refine x_calliV (pc := 37) (As := [.int 1]) (rest := []) X (kX8_finding l X.2.2.2.2.2.2.2 F _ _ _ _ hq37) kvX8_132 rfl (qX8) ⟨rfl, rfl, Nat.le_of_ble_eq_true rfl, Nat.le_of_ble_eq_true rfl⟩ rfl rfl (Nat.le_of_ble_eq_true rfl) dX8_write_37 ?_
        exact x_iret (pc := 40) X hr hl h dX8_write_40
    · have h := xif hc h
      refine x_sub [] rfl ?_
      exact wX8_write_L18 X hr hl F _ h
set_option maxRecDepth 100000 in
set_option maxHeartbeats 4000000 in
theorem kX8_count (l : Launch) {D : va_G} {A : Nat → Prop} {ad : Nat → Nat} {cI cX : ClassId} (hD : ∀ σ, va_D A ((wC ad cI cX) σ)) (F : Nat) (v1 : Int32) (σ : xSt) (r : Int32) (σ' : xSt) (h : mX8_count F v1 σ = some (r, σ')) : xM l yX8_count cX8_count 2 (some .int) ({ frames := 3, cells := 0, slots := 0, locals := 77 }) D (tyC cI cX) A (wC ad cI cX) [.ref (ad 0), .int v1] σ (xQi D A (wC ad cI cX) r σ') := by
  refine xM_of (lv := [(0, .ref (ad 0)), (1, .int v1)]) [.ref (ad 0), .int v1] (by decide) hD rfl (Nat.le_of_ble_eq_true rfl) ?_
  intro p e s m args below meth c X hr hl
  unfold mX8_count at h
  refine x_iload_n (pc := 0) X dX8_count_0 rfl 1 rfl ?_
  rcases Decidable.em (v1 = 0) with hs0 | hs0
  · have h := xit hs0 h
    refine x_tableIn (pc := 1) X 52 dX8_count_1 (by rw [hs0]; decide) (by rw [hs0]; decide) (by rw [hs0]; rfl) (by decide) ?_
    refine x_aload_n (pc := 52) X dX8_count_52 rfl 0 rfl ?_
    refine gX8_12 (pc := 53) X dX8_count_53 ?_
    refine gX8_89 (pc := 56) X dX8_count_56 ?_
    refine gX8_211 (pc := 59) X 0 (by decide) dX8_count_59 ?_
    exact x_iret (pc := 62) X hr hl h dX8_count_62
  · have h := xif hs0 h
    rcases Decidable.em (v1 = 1) with hs1 | hs1
    · have h := xit hs1 h
      refine x_tableIn (pc := 1) X 63 dX8_count_1 (by rw [hs1]; decide) (by rw [hs1]; decide) (by rw [hs1]; rfl) (by decide) ?_
      refine x_aload_n (pc := 63) X dX8_count_63 rfl 0 rfl ?_
      refine gX8_12 (pc := 64) X dX8_count_64 ?_
      refine gX8_97 (pc := 67) X dX8_count_67 ?_
      refine gX8_211 (pc := 70) X 1 (by decide) dX8_count_70 ?_
      exact x_iret (pc := 73) X hr hl h dX8_count_73
    · have h := xif hs1 h
      rcases Decidable.em (v1 = 2) with hs2 | hs2
      · have h := xit hs2 h
        refine x_tableIn (pc := 1) X 74 dX8_count_1 (by rw [hs2]; decide) (by rw [hs2]; decide) (by rw [hs2]; rfl) (by decide) ?_
        refine x_aload_n (pc := 74) X dX8_count_74 rfl 0 rfl ?_
        refine gX8_12 (pc := 75) X dX8_count_75 ?_
        refine gX8_89 (pc := 78) X dX8_count_78 ?_
        refine gX8_79 (pc := 81) X 0 (by decide) dX8_count_81 ?_
        exact x_iret (pc := 84) X hr hl h dX8_count_84
      · have h := xif hs2 h
        rcases Decidable.em (v1 = 3) with hs3 | hs3
        · have h := xit hs3 h
          refine x_tableIn (pc := 1) X 85 dX8_count_1 (by rw [hs3]; decide) (by rw [hs3]; decide) (by rw [hs3]; rfl) (by decide) ?_
          refine x_aload_n (pc := 85) X dX8_count_85 rfl 0 rfl ?_
          refine gX8_12 (pc := 86) X dX8_count_86 ?_
          refine gX8_97 (pc := 89) X dX8_count_89 ?_
          refine gX8_79 (pc := 92) X 1 (by decide) dX8_count_92 ?_
          exact x_iret (pc := 95) X hr hl h dX8_count_95
        · have h := xif hs3 h
          rcases Decidable.em (v1 = 4) with hs4 | hs4
          · have h := xit hs4 h
            refine x_tableIn (pc := 1) X 96 dX8_count_1 (by rw [hs4]; decide) (by rw [hs4]; decide) (by rw [hs4]; rfl) (by decide) ?_
            refine x_aload_n (pc := 96) X dX8_count_96 rfl 0 rfl ?_
            refine gX8_12 (pc := 97) X dX8_count_97 ?_
            refine gX8_109 (pc := 100) X dX8_count_100 ?_
            refine gX8_117 (pc := 103) X 0 (by decide) dX8_count_103 ?_
            exact x_iret (pc := 106) X hr hl h dX8_count_106
          · have h := xif hs4 h
            rcases Decidable.em (v1 = 5) with hs5 | hs5
            · have h := xit hs5 h
              refine x_tableIn (pc := 1) X 107 dX8_count_1 (by rw [hs5]; decide) (by rw [hs5]; decide) (by rw [hs5]; rfl) (by decide) ?_
              refine x_aload_n (pc := 107) X dX8_count_107 rfl 0 rfl ?_
              refine gX8_12 (pc := 108) X dX8_count_108 ?_
              refine gX8_120 (pc := 111) X dX8_count_111 ?_
              refine gX8_117 (pc := 114) X 1 (by decide) dX8_count_114 ?_
              exact x_iret (pc := 117) X hr hl h dX8_count_117
            · have h := xif hs5 h
              rcases Decidable.em (v1 = 6) with hs6 | hs6
              · have h := xit hs6 h
                refine x_tableIn (pc := 1) X 118 dX8_count_1 (by rw [hs6]; decide) (by rw [hs6]; decide) (by rw [hs6]; rfl) (by decide) ?_
                refine x_aload_n (pc := 118) X dX8_count_118 rfl 0 rfl ?_
                refine gX8_21 (pc := 119) X dX8_count_119 ?_
                refine gX8_117 (pc := 122) X 2 (by decide) dX8_count_122 ?_
                exact x_iret (pc := 125) X hr hl h dX8_count_125
              · have h := xif hs6 h
                rcases Decidable.em (v1 = 7) with hs7 | hs7
                · have h := xit hs7 h
                  refine x_tableIn (pc := 1) X 126 dX8_count_1 (by rw [hs7]; decide) (by rw [hs7]; decide) (by rw [hs7]; rfl) (by decide) ?_
                  refine x_aload_n (pc := 126) X dX8_count_126 rfl 0 rfl ?_
                  refine gX8_12 (pc := 127) X dX8_count_127 ?_
                  obtain ⟨r130, σ130, hq130, h⟩ := xb2_some h
                  refine x_calliV (pc := 130) (As := []) (rest := []) X (kX2_layersAtTheEnd l X.2.2.2.2.2.2.2 F _ _ _ hq130) kvX8_292 rfl (qX2) ⟨rfl, rfl, Nat.le_of_ble_eq_true rfl, Nat.le_of_ble_eq_true rfl⟩ rfl rfl (Nat.le_of_ble_eq_true rfl) dX8_count_130 ?_
                  exact x_iret (pc := 133) X hr hl h dX8_count_133
                · have h := xif hs7 h
                  rcases Decidable.em (v1 = 8) with hs8 | hs8
                  · have h := xit hs8 h
                    refine x_tableIn (pc := 1) X 134 dX8_count_1 (by rw [hs8]; decide) (by rw [hs8]; decide) (by rw [hs8]; rfl) (by decide) ?_
                    refine x_aload_n (pc := 134) X dX8_count_134 rfl 0 rfl ?_
                    refine gX8_57 (pc := 135) X dX8_count_135 ?_
                    exact x_iret (pc := 138) X hr hl h dX8_count_138
                  · have h := xif hs8 h
                    refine x_tableOut (pc := 1) X 139 dX8_count_1 (xsw9 hs0 hs1 hs2 hs3 hs4 hs5 hs6 hs7 hs8) (by decide) ?_
                    refine x_bipush (pc := 139) (v := (-2)) X dX8_count_139 (by decide) ?_
                    exact x_iret (pc := 141) X hr hl h dX8_count_141
