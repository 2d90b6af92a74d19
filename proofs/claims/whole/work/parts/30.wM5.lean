set_option maxRecDepth 100000 in
set_option maxHeartbeats 4000000 in
theorem wX9_digest_L323 {p : Program} {l : Launch} {e : Env} {s : State} {m : MethodId} {args : Array Value} {below : List Frame} {meth : Method} {c : Code} {D : va_G} {A : Nat → Prop} {ad : Nat → Nat} {cI cX : ClassId} {r : Int64} {σ' : xSt} (X : xX p s m args c cX9_digest 5 RX9 D (tyM cI cX) A (wM ad cI cX)) (hr : meth.sig.returnType = (some .long)) (hl : meth.locks = false) (F : Nat) (t0 : Int64) (t1 : Int32) (σ : xSt) (h : mX9_digest_L323 F t0 t1 σ = some (r, σ')) : xG p l e ({ frames := 9, cells := 0, slots := 0, locals := 214 }) s m args below meth c (MQ below (xQl D A (wM ad cI cX) r σ') args s 0 0 A) 5 D A (wM ad cI cX) σ 323 [(0, .ref (ad 0))] [.int t1, .long t0] := by
  unfold mX9_digest_L323 at h
  refine x_i2l (pc := 323) X dX9_digest_323 ?_
  refine x_ladd (pc := 324) X dX9_digest_324 ?_
  refine x_lstore_n (pc := 325) (lv' := [(1, .long (t0 + (Int32.toInt64 t1))), (0, .ref (ad 0))]) X dX9_digest_325 rfl (by decide) rfl ?_
  refine x_aload_n (pc := 326) X dX9_digest_326 rfl 1 rfl ?_
  refine x_iconst (pc := 327) (v := 1) X dX9_digest_327 (by decide) ?_
  refine x_iconst (pc := 328) (v := 4) X dX9_digest_328 (by decide) ?_
  refine x_bipush (pc := 329) (v := 6) X dX9_digest_329 (by decide) ?_
  refine x_iconst (pc := 331) (v := (-1)) X dX9_digest_331 (by decide) ?_
  obtain ⟨r332, σ332, hq332, h⟩ := xb2_some h
  refine x_calliV (pc := 332) (As := [.int 1, .int 4, .int 6, .int (-1)]) (rest := []) X (kX9_airOf l X.2.2.2.2.2.2.2 F _ _ _ _ _ _ _ hq332) kvX9_273 rfl (qX9) ⟨rfl, rfl, Nat.le_of_ble_eq_true rfl, Nat.le_of_ble_eq_true rfl⟩ rfl rfl (Nat.le_of_ble_eq_true rfl) dX9_digest_332 ?_
  refine x_istore_n (pc := 335) (lv' := [(3, .int r332), (1, .long (t0 + (Int32.toInt64 t1))), (0, .ref (ad 0))]) X dX9_digest_335 rfl (by decide) rfl ?_
  refine x_ldc2 (pc := 336) X kcX9_336 dX9_digest_336 ?_
  refine x_lload_n (pc := 339) X dX9_digest_339 rfl 1 rfl ?_
  refine x_lmul (pc := 340) X dX9_digest_340 ?_
  refine x_iload_n (pc := 341) X dX9_digest_341 rfl 0 rfl ?_
  refine x_i2l (pc := 342) X dX9_digest_342 ?_
  refine x_ladd (pc := 343) X dX9_digest_343 ?_
  refine x_lstore_n (pc := 344) (lv' := [(1, .long ((31 * (t0 + (Int32.toInt64 t1))) + (Int32.toInt64 r332))), (3, .int r332), (0, .ref (ad 0))]) X dX9_digest_344 rfl (by decide) rfl ?_
  refine x_ldc2 (pc := 345) X kcX9_336 dX9_digest_345 ?_
  refine x_lload_n (pc := 348) X dX9_digest_348 rfl 0 rfl ?_
  refine x_lmul (pc := 349) X dX9_digest_349 ?_
  refine x_aload_n (pc := 350) X dX9_digest_350 rfl 2 rfl ?_
  refine x_iload_n (pc := 351) X dX9_digest_351 rfl 1 rfl ?_
  refine x_iconst (pc := 352) (v := 0) X dX9_digest_352 (by decide) ?_
  obtain ⟨r353, σ353, hq353, h⟩ := xb2_some h
  refine x_calliV (pc := 353) (As := [.int r332, .int 0]) (rest := [.long (31 * ((31 * (t0 + (Int32.toInt64 t1))) + (Int32.toInt64 r332)))]) X (kX9_ofRow l X.2.2.2.2.2.2.2 F _ _ _ _ _ hq353) kvX9_254 rfl (qX9) ⟨rfl, rfl, Nat.le_of_ble_eq_true rfl, Nat.le_of_ble_eq_true rfl⟩ rfl rfl (Nat.le_of_ble_eq_true rfl) dX9_digest_353 ?_
  refine x_i2l (pc := 356) X dX9_digest_356 ?_
  refine x_ladd (pc := 357) X dX9_digest_357 ?_
  exact x_lret (pc := 358) X hr hl h dX9_digest_358
set_option maxRecDepth 100000 in
set_option maxHeartbeats 4000000 in
theorem wX9_digest_L256 {p : Program} {l : Launch} {e : Env} {s : State} {m : MethodId} {args : Array Value} {below : List Frame} {meth : Method} {c : Code} {D : va_G} {A : Nat → Prop} {ad : Nat → Nat} {cI cX : ClassId} {r : Int64} {σ' : xSt} (X : xX p s m args c cX9_digest 5 RX9 D (tyM cI cX) A (wM ad cI cX)) (hr : meth.sig.returnType = (some .long)) (hl : meth.locks = false) (F : Nat) (v1 : Int64) (σ : xSt) (h : mX9_digest_L256 F v1 σ = some (r, σ')) : xG p l e ({ frames := 9, cells := 0, slots := 0, locals := 214 }) s m args below meth c (MQ below (xQl D A (wM ad cI cX) r σ') args s 0 0 A) 5 D A (wM ad cI cX) σ 256 [(0, .ref (ad 0)), (1, .long v1)] [] := by
  unfold mX9_digest_L256 at h
  refine x_ldc2 (pc := 256) X kcX9_336 dX9_digest_256 ?_
  refine x_lload_n (pc := 259) X dX9_digest_259 rfl 1 rfl ?_
  refine x_lmul (pc := 260) X dX9_digest_260 ?_
  refine x_aload_n (pc := 261) X dX9_digest_261 rfl 0 rfl ?_
  refine x_iconst (pc := 262) (v := (-1)) X dX9_digest_262 (by decide) ?_
  obtain ⟨r263, σ263, hq263, h⟩ := xb2_some h
  refine x_calliV (pc := 263) (As := [.int (-1)]) (rest := [.long (31 * v1)]) X (kX9_togetherOf l X.2.2.2.2.2.2.2 F _ _ _ _ hq263) kvX9_240 rfl (qX9) ⟨rfl, rfl, Nat.le_of_ble_eq_true rfl, Nat.le_of_ble_eq_true rfl⟩ rfl rfl (Nat.le_of_ble_eq_true rfl) dX9_digest_263 ?_
  refine x_i2l (pc := 266) X dX9_digest_266 ?_
  refine x_ladd (pc := 267) X dX9_digest_267 ?_
  refine x_lstore_n (pc := 268) (lv' := [(1, .long ((31 * v1) + (Int32.toInt64 r263))), (0, .ref (ad 0))]) X dX9_digest_268 rfl (by decide) rfl ?_
  refine x_ldc2 (pc := 269) X kcX9_336 dX9_digest_269 ?_
  refine x_lload_n (pc := 272) X dX9_digest_272 rfl 0 rfl ?_
  refine x_lmul (pc := 273) X dX9_digest_273 ?_
  refine x_aload_n (pc := 274) X dX9_digest_274 rfl 1 rfl ?_
  refine x_iconst (pc := 275) (v := 0) X dX9_digest_275 (by decide) ?_
  obtain ⟨r276, σ276, hq276, h⟩ := xb2_some h
  refine x_calliV (pc := 276) (As := [.int 0]) (rest := [.long (31 * ((31 * v1) + (Int32.toInt64 r263)))]) X (kX9_togetherOf l X.2.2.2.2.2.2.2 F _ _ _ _ hq276) kvX9_240 rfl (qX9) ⟨rfl, rfl, Nat.le_of_ble_eq_true rfl, Nat.le_of_ble_eq_true rfl⟩ rfl rfl (Nat.le_of_ble_eq_true rfl) dX9_digest_276 ?_
  refine x_i2l (pc := 279) X dX9_digest_279 ?_
  refine x_ladd (pc := 280) X dX9_digest_280 ?_
  refine x_lstore_n (pc := 281) (lv' := [(1, .long ((31 * ((31 * v1) + (Int32.toInt64 r263))) + (Int32.toInt64 r276))), (0, .ref (ad 0))]) X dX9_digest_281 rfl (by decide) rfl ?_
  refine x_aload_n (pc := 282) X dX9_digest_282 rfl 1 rfl ?_
  refine x_iconst (pc := 283) (v := 0) X dX9_digest_283 (by decide) ?_
  refine x_iconst (pc := 284) (v := 3) X dX9_digest_284 (by decide) ?_
  refine x_iconst (pc := 285) (v := 2) X dX9_digest_285 (by decide) ?_
  refine x_iconst (pc := 286) (v := 4) X dX9_digest_286 (by decide) ?_
  refine x_iconst (pc := 287) (v := (-1)) X dX9_digest_287 (by decide) ?_
  obtain ⟨r288, σ288, hq288, h⟩ := xb2_some h
  refine x_calliV (pc := 288) (As := [.int 0, .int 3, .int 2, .int 4, .int (-1)]) (rest := []) X (kX9_frame l X.2.2.2.2.2.2.2 F _ _ _ _ _ _ _ _ hq288) kvX9_365 rfl (qX9) ⟨rfl, rfl, Nat.le_of_ble_eq_true rfl, Nat.le_of_ble_eq_true rfl⟩ rfl rfl (Nat.le_of_ble_eq_true rfl) dX9_digest_288 ?_
  refine x_istore_n (pc := 291) (lv' := [(3, .int r288), (1, .long ((31 * ((31 * v1) + (Int32.toInt64 r263))) + (Int32.toInt64 r276))), (0, .ref (ad 0))]) X dX9_digest_291 rfl (by decide) rfl ?_
  refine x_ldc2 (pc := 292) X kcX9_336 dX9_digest_292 ?_
  refine x_lload_n (pc := 295) X dX9_digest_295 rfl 1 rfl ?_
  refine x_lmul (pc := 296) X dX9_digest_296 ?_
  refine x_iload_n (pc := 297) X dX9_digest_297 rfl 0 rfl ?_
  refine x_i2l (pc := 298) X dX9_digest_298 ?_
  refine x_ladd (pc := 299) X dX9_digest_299 ?_
  refine x_lstore_n (pc := 300) (lv' := [(1, .long ((31 * ((31 * ((31 * v1) + (Int32.toInt64 r263))) + (Int32.toInt64 r276))) + (Int32.toInt64 r288))), (3, .int r288), (0, .ref (ad 0))]) X dX9_digest_300 rfl (by decide) rfl ?_
  refine x_ldc2 (pc := 301) X kcX9_336 dX9_digest_301 ?_
  refine x_lload_n (pc := 304) X dX9_digest_304 rfl 0 rfl ?_
  refine x_lmul (pc := 305) X dX9_digest_305 ?_
  refine x_iload_n (pc := 306) X dX9_digest_306 rfl 1 rfl ?_
  refine x_bipush (pc := 307) (v := (-2)) X dX9_digest_307 (by decide) ?_
  refine x_icmp_ne (pc := 309) X 317 dX9_digest_309 (by decide) (fun hc => ?_) (fun hc => ?_)
  · have h := xif hc h
    refine x_aload_n (pc := 317) X dX9_digest_317 rfl 2 rfl ?_
    refine x_iload_n (pc := 318) X dX9_digest_318 rfl 1 rfl ?_
    refine x_iconst (pc := 319) (v := 0) X dX9_digest_319 (by decide) ?_
    obtain ⟨r320, σ320, hq320, h⟩ := xb2_some h
    refine x_calliV (pc := 320) (As := [.int r288, .int 0]) (rest := [.long (31 * ((31 * ((31 * ((31 * v1) + (Int32.toInt64 r263))) + (Int32.toInt64 r276))) + (Int32.toInt64 r288)))]) X (kX9_ofRow l X.2.2.2.2.2.2.2 F _ _ _ _ _ hq320) kvX9_254 rfl (qX9) ⟨rfl, rfl, Nat.le_of_ble_eq_true rfl, Nat.le_of_ble_eq_true rfl⟩ rfl rfl (Nat.le_of_ble_eq_true rfl) dX9_digest_320 ?_
    refine x_sub [2] rfl ?_
    exact wX9_digest_L323 X hr hl F _ _ _ h
  · have h := xit hc h
    refine x_bipush (pc := 312) (v := (-2)) X dX9_digest_312 (by decide) ?_
    refine x_goto (pc := 314) X 323 dX9_digest_314 (by decide) ?_
    refine x_sub [2] rfl ?_
    exact wX9_digest_L323 X hr hl F _ _ _ h
set_option maxRecDepth 100000 in
set_option maxHeartbeats 4000000 in
theorem wX9_digest_S214 {p : Program} {l : Launch} {e : Env} {s : State} {m : MethodId} {args : Array Value} {below : List Frame} {meth : Method} {c : Code} {D : va_G} {A : Nat → Prop} {ad : Nat → Nat} {cI cX : ClassId} {r : Int64} {σ' : xSt} {c214 : Int64 → Int32 → xSt → Option (Int64 × xSt)} (X : xX p s m args c cX9_digest 5 RX9 D (tyM cI cX) A (wM ad cI cX)) (hr : meth.sig.returnType = (some .long)) (hl : meth.locks = false) (F : Nat) (hc214 : ∀ (v1 : Int64) (v3 : Int32) (σ : xSt), c214 v1 v3 σ = some (r, σ') → xG p l e ({ frames := 9, cells := 0, slots := 0, locals := 214 }) s m args below meth c (MQ below (xQl D A (wM ad cI cX) r σ') args s 0 0 A) 5 D A (wM ad cI cX) σ 214 [(0, .ref (ad 0)), (1, .long v1), (3, .int v3)] []) (v1 : Int64) (v3 : Int32) (σ : xSt) (h : mX9_digest_S214 F c214 v1 v3 σ = some (r, σ')) : xG p l e ({ frames := 9, cells := 0, slots := 0, locals := 214 }) s m args below meth c (MQ below (xQl D A (wM ad cI cX) r σ') args s 0 0 A) 5 D A (wM ad cI cX) σ 214 [(0, .ref (ad 0)), (1, .long v1), (3, .int v3)] [] := by
  unfold mX9_digest_S214 at h
  refine x_iload_n (pc := 214) X dX9_digest_214 rfl 2 rfl ?_
  refine x_aload_n (pc := 215) X dX9_digest_215 rfl 0 rfl ?_
  refine gX9_151 (pc := 216) X dX9_digest_216 ?_
  refine x_icmp_ge (pc := 219) X 256 dX9_digest_219 (by decide) (fun hc => ?_) (fun hc => ?_)
  · have h := xit hc h
    refine x_sub [0, 1] rfl ?_
    exact wX9_digest_L256 X hr hl F _ _ h
  · have h := xif hc h
    refine x_ldc2 (pc := 222) X kcX9_336 dX9_digest_222 ?_
    refine x_lload_n (pc := 225) X dX9_digest_225 rfl 1 rfl ?_
    refine x_lmul (pc := 226) X dX9_digest_226 ?_
    refine x_aload_n (pc := 227) X dX9_digest_227 rfl 0 rfl ?_
    refine x_iload_n (pc := 228) X dX9_digest_228 rfl 2 rfl ?_
    obtain ⟨r229, σ229, hq229, h⟩ := xb2_some h
    refine x_calliV (pc := 229) (As := [.int v3]) (rest := [.long (31 * v1)]) X (kX9_whoOf l X.2.2.2.2.2.2.2 F _ _ _ _ hq229) kvX9_295 rfl (qX9) ⟨rfl, rfl, Nat.le_of_ble_eq_true rfl, Nat.le_of_ble_eq_true rfl⟩ rfl rfl (Nat.le_of_ble_eq_true rfl) dX9_digest_229 ?_
    refine x_i2l (pc := 232) X dX9_digest_232 ?_
    refine x_ladd (pc := 233) X dX9_digest_233 ?_
    refine x_lstore_n (pc := 234) (lv' := [(1, .long ((31 * v1) + (Int32.toInt64 r229))), (0, .ref (ad 0)), (3, .int v3)]) X dX9_digest_234 rfl (by decide) rfl ?_
    refine x_ldc2 (pc := 235) X kcX9_336 dX9_digest_235 ?_
    refine x_lload_n (pc := 238) X dX9_digest_238 rfl 0 rfl ?_
    refine x_lmul (pc := 239) X dX9_digest_239 ?_
    refine x_aload_n (pc := 240) X dX9_digest_240 rfl 1 rfl ?_
    refine x_iload_n (pc := 241) X dX9_digest_241 rfl 2 rfl ?_
    refine x_bipush (pc := 242) (v := 9) X dX9_digest_242 (by decide) ?_
    obtain ⟨r244, σ244, hq244, h⟩ := xb2_some h
    refine x_calliV (pc := 244) (As := [.int v3, .int 9]) (rest := [.long (31 * ((31 * v1) + (Int32.toInt64 r229)))]) X (kX9_standOf l X.2.2.2.2.2.2.2 F _ _ _ _ _ hq244) kvX9_298 rfl (qX9) ⟨rfl, rfl, Nat.le_of_ble_eq_true rfl, Nat.le_of_ble_eq_true rfl⟩ rfl rfl (Nat.le_of_ble_eq_true rfl) dX9_digest_244 ?_
    refine x_i2l (pc := 247) X dX9_digest_247 ?_
    refine x_ladd (pc := 248) X dX9_digest_248 ?_
    refine x_lstore_n (pc := 249) (lv' := [(1, .long ((31 * ((31 * v1) + (Int32.toInt64 r229))) + (Int32.toInt64 r244))), (0, .ref (ad 0)), (3, .int v3)]) X dX9_digest_249 rfl (by decide) rfl ?_
    refine x_iinc (pc := 250) (v := (v3 + 1)) (lv' := [(3, .int (v3 + 1)), (1, .long ((31 * ((31 * v1) + (Int32.toInt64 r229))) + (Int32.toInt64 r244))), (0, .ref (ad 0))]) X dX9_digest_250 2 rfl rfl (by decide) rfl ?_
    refine x_goto (pc := 253) X 214 dX9_digest_253 (by decide) ?_
    refine x_sub [2, 1, 0] rfl ?_
    exact hc214 _ _ _ h
theorem wX9_digest_L214 {p : Program} {l : Launch} {e : Env} {s : State} {m : MethodId} {args : Array Value} {below : List Frame} {meth : Method} {c : Code} {D : va_G} {A : Nat → Prop} {ad : Nat → Nat} {cI cX : ClassId} {r : Int64} {σ' : xSt} (X : xX p s m args c cX9_digest 5 RX9 D (tyM cI cX) A (wM ad cI cX)) (hr : meth.sig.returnType = (some .long)) (hl : meth.locks = false) (F : Nat) : ∀ (n : Nat) (v1 : Int64) (v3 : Int32) (σ : xSt), mX9_digest_L214 F n v1 v3 σ = some (r, σ') → xG p l e ({ frames := 9, cells := 0, slots := 0, locals := 214 }) s m args below meth c (MQ below (xQl D A (wM ad cI cX) r σ') args s 0 0 A) 5 D A (wM ad cI cX) σ 214 [(0, .ref (ad 0)), (1, .long v1), (3, .int v3)] [] := by
  intro n
  induction n with
  | zero => intro v1 v3 σ h; cases h
  | succ n ih => intro v1 v3 σ h; exact wX9_digest_S214 X hr hl F ih v1 v3 σ h
set_option maxRecDepth 100000 in
set_option maxHeartbeats 4000000 in
theorem wX9_digest_L175 {p : Program} {l : Launch} {e : Env} {s : State} {m : MethodId} {args : Array Value} {below : List Frame} {meth : Method} {c : Code} {D : va_G} {A : Nat → Prop} {ad : Nat → Nat} {cI cX : ClassId} {r : Int64} {σ' : xSt} (X : xX p s m args c cX9_digest 5 RX9 D (tyM cI cX) A (wM ad cI cX)) (hr : meth.sig.returnType = (some .long)) (hl : meth.locks = false) (F : Nat) (v1 : Int64) (σ : xSt) (h : mX9_digest_L175 F v1 σ = some (r, σ')) : xG p l e ({ frames := 9, cells := 0, slots := 0, locals := 214 }) s m args below meth c (MQ below (xQl D A (wM ad cI cX) r σ') args s 0 0 A) 5 D A (wM ad cI cX) σ 175 [(0, .ref (ad 0)), (1, .long v1)] [] := by
  unfold mX9_digest_L175 at h
  refine x_aload_n (pc := 175) X dX9_digest_175 rfl 0 rfl ?_
  refine x_lload_n (pc := 176) X dX9_digest_176 rfl 1 rfl ?_
  refine x_iconst (pc := 177) (v := 0) X dX9_digest_177 (by decide) ?_
  obtain ⟨r178, σ178, hq178, h⟩ := xb2_some h
  refine x_calllV (pc := 178) (As := [.long v1, .int 0]) (rest := []) X (kX9_hourDigest l X.2.2.2.2.2.2.2 F _ _ _ _ _ hq178) kvX9_362 rfl (qX9) ⟨rfl, rfl, Nat.le_of_ble_eq_true rfl, Nat.le_of_ble_eq_true rfl⟩ rfl rfl (Nat.le_of_ble_eq_true rfl) dX9_digest_178 ?_
  refine x_lstore_n (pc := 181) (lv' := [(1, .long r178), (0, .ref (ad 0))]) X dX9_digest_181 rfl (by decide) rfl ?_
  refine x_aload_n (pc := 182) X dX9_digest_182 rfl 1 rfl ?_
  refine x_lload_n (pc := 183) X dX9_digest_183 rfl 0 rfl ?_
  refine x_iconst (pc := 184) (v := 1) X dX9_digest_184 (by decide) ?_
  obtain ⟨r185, σ185, hq185, h⟩ := xb2_some h
  refine x_calllV (pc := 185) (As := [.long r178, .int 1]) (rest := []) X (kX9_hourDigest l X.2.2.2.2.2.2.2 F _ _ _ _ _ hq185) kvX9_362 rfl (qX9) ⟨rfl, rfl, Nat.le_of_ble_eq_true rfl, Nat.le_of_ble_eq_true rfl⟩ rfl rfl (Nat.le_of_ble_eq_true rfl) dX9_digest_185 ?_
  refine x_lstore_n (pc := 188) (lv' := [(1, .long r185), (0, .ref (ad 0))]) X dX9_digest_188 rfl (by decide) rfl ?_
  refine x_aload_n (pc := 189) X dX9_digest_189 rfl 1 rfl ?_
  refine x_lload_n (pc := 190) X dX9_digest_190 rfl 0 rfl ?_
  refine x_iconst (pc := 191) (v := 5) X dX9_digest_191 (by decide) ?_
  obtain ⟨r192, σ192, hq192, h⟩ := xb2_some h
  refine x_calllV (pc := 192) (As := [.long r185, .int 5]) (rest := []) X (kX9_hourDigest l X.2.2.2.2.2.2.2 F _ _ _ _ _ hq192) kvX9_362 rfl (qX9) ⟨rfl, rfl, Nat.le_of_ble_eq_true rfl, Nat.le_of_ble_eq_true rfl⟩ rfl rfl (Nat.le_of_ble_eq_true rfl) dX9_digest_192 ?_
  refine x_lstore_n (pc := 195) (lv' := [(1, .long r192), (0, .ref (ad 0))]) X dX9_digest_195 rfl (by decide) rfl ?_
  refine x_aload_n (pc := 196) X dX9_digest_196 rfl 1 rfl ?_
  refine x_lload_n (pc := 197) X dX9_digest_197 rfl 0 rfl ?_
  refine x_bipush (pc := 198) (v := 10) X dX9_digest_198 (by decide) ?_
  obtain ⟨r200, σ200, hq200, h⟩ := xb2_some h
  refine x_calllV (pc := 200) (As := [.long r192, .int 10]) (rest := []) X (kX9_hourDigest l X.2.2.2.2.2.2.2 F _ _ _ _ _ hq200) kvX9_362 rfl (qX9) ⟨rfl, rfl, Nat.le_of_ble_eq_true rfl, Nat.le_of_ble_eq_true rfl⟩ rfl rfl (Nat.le_of_ble_eq_true rfl) dX9_digest_200 ?_
  refine x_lstore_n (pc := 203) (lv' := [(1, .long r200), (0, .ref (ad 0))]) X dX9_digest_203 rfl (by decide) rfl ?_
  refine x_aload_n (pc := 204) X dX9_digest_204 rfl 1 rfl ?_
  refine x_lload_n (pc := 205) X dX9_digest_205 rfl 0 rfl ?_
  refine x_bipush (pc := 206) (v := 23) X dX9_digest_206 (by decide) ?_
  obtain ⟨r208, σ208, hq208, h⟩ := xb2_some h
  refine x_calllV (pc := 208) (As := [.long r200, .int 23]) (rest := []) X (kX9_hourDigest l X.2.2.2.2.2.2.2 F _ _ _ _ _ hq208) kvX9_362 rfl (qX9) ⟨rfl, rfl, Nat.le_of_ble_eq_true rfl, Nat.le_of_ble_eq_true rfl⟩ rfl rfl (Nat.le_of_ble_eq_true rfl) dX9_digest_208 ?_
  refine x_lstore_n (pc := 211) (lv' := [(1, .long r208), (0, .ref (ad 0))]) X dX9_digest_211 rfl (by decide) rfl ?_
  refine x_iconst (pc := 212) (v := 0) X dX9_digest_212 (by decide) ?_
  refine x_istore_n (pc := 213) (lv' := [(3, .int 0), (1, .long r208), (0, .ref (ad 0))]) X dX9_digest_213 rfl (by decide) rfl ?_
  refine x_sub [2, 1, 0] rfl ?_
  exact wX9_digest_L214 X hr hl F F _ _ _ h
set_option maxRecDepth 100000 in
set_option maxHeartbeats 4000000 in
theorem wX9_digest_L120 {p : Program} {l : Launch} {e : Env} {s : State} {m : MethodId} {args : Array Value} {below : List Frame} {meth : Method} {c : Code} {D : va_G} {A : Nat → Prop} {ad : Nat → Nat} {cI cX : ClassId} {r : Int64} {σ' : xSt} {c82 : Int64 → Int32 → xSt → Option (Int64 × xSt)} (X : xX p s m args c cX9_digest 5 RX9 D (tyM cI cX) A (wM ad cI cX)) (hr : meth.sig.returnType = (some .long)) (hl : meth.locks = false) (F : Nat) (hc82 : ∀ (v1 : Int64) (v3 : Int32) (σ : xSt), c82 v1 v3 σ = some (r, σ') → xG p l e ({ frames := 9, cells := 0, slots := 0, locals := 214 }) s m args below meth c (MQ below (xQl D A (wM ad cI cX) r σ') args s 0 0 A) 5 D A (wM ad cI cX) σ 82 [(0, .ref (ad 0)), (1, .long v1), (3, .int v3)] []) (v1 : Int64) (v3 : Int32) (σ : xSt) (h : mX9_digest_L120 F c82 v1 v3 σ = some (r, σ')) : xG p l e ({ frames := 9, cells := 0, slots := 0, locals := 214 }) s m args below meth c (MQ below (xQl D A (wM ad cI cX) r σ') args s 0 0 A) 5 D A (wM ad cI cX) σ 120 [(0, .ref (ad 0)), (1, .long v1), (3, .int v3)] [] := by
  unfold mX9_digest_L120 at h
  refine x_aload_n (pc := 120) X dX9_digest_120 rfl 0 rfl ?_
  refine x_iload_n (pc := 121) X dX9_digest_121 rfl 2 rfl ?_
  refine x_iconst (pc := 122) (v := 3) X dX9_digest_122 (by decide) ?_
  refine x_iconst (pc := 123) (v := 5) X dX9_digest_123 (by decide) ?_
  refine x_iconst (pc := 124) (v := (-1)) X dX9_digest_124 (by decide) ?_
  obtain ⟨r125, σ125, hq125, h⟩ := xb2_some h
  refine x_calliV (pc := 125) (As := [.int v3, .int 3, .int 5, .int (-1)]) (rest := []) X (kX9_hideOf l X.2.2.2.2.2.2.2 F _ _ _ _ _ _ _ hq125) kvX9_257 rfl (qX9) ⟨rfl, rfl, Nat.le_of_ble_eq_true rfl, Nat.le_of_ble_eq_true rfl⟩ rfl rfl (Nat.le_of_ble_eq_true rfl) dX9_digest_125 ?_
  refine x_istore (pc := 128) (lv' := [(4, .int r125), (0, .ref (ad 0)), (1, .long v1), (3, .int v3)]) X dX9_digest_128 (by decide) rfl ?_
  refine x_ldc2 (pc := 130) X kcX9_336 dX9_digest_130 ?_
  refine x_lload_n (pc := 133) X dX9_digest_133 rfl 2 rfl ?_
  refine x_lmul (pc := 134) X dX9_digest_134 ?_
  refine x_iload (pc := 135) X dX9_digest_135 0 rfl ?_
  refine x_i2l (pc := 137) X dX9_digest_137 ?_
  refine x_ladd (pc := 138) X dX9_digest_138 ?_
  refine x_lstore_n (pc := 139) (lv' := [(1, .long ((31 * v1) + (Int32.toInt64 r125))), (4, .int r125), (0, .ref (ad 0)), (3, .int v3)]) X dX9_digest_139 rfl (by decide) rfl ?_
  refine x_ldc2 (pc := 140) X kcX9_336 dX9_digest_140 ?_
  refine x_lload_n (pc := 143) X dX9_digest_143 rfl 0 rfl ?_
  refine x_lmul (pc := 144) X dX9_digest_144 ?_
  refine x_aload_n (pc := 145) X dX9_digest_145 rfl 2 rfl ?_
  refine x_iload (pc := 146) X dX9_digest_146 1 rfl ?_
  refine x_iconst (pc := 148) (v := 0) X dX9_digest_148 (by decide) ?_
  obtain ⟨r149, σ149, hq149, h⟩ := xb2_some h
  refine x_calliV (pc := 149) (As := [.int r125, .int 0]) (rest := [.long (31 * ((31 * v1) + (Int32.toInt64 r125)))]) X (kX9_ofRow l X.2.2.2.2.2.2.2 F _ _ _ _ _ hq149) kvX9_254 rfl (qX9) ⟨rfl, rfl, Nat.le_of_ble_eq_true rfl, Nat.le_of_ble_eq_true rfl⟩ rfl rfl (Nat.le_of_ble_eq_true rfl) dX9_digest_149 ?_
  refine x_i2l (pc := 152) X dX9_digest_152 ?_
  refine x_ladd (pc := 153) X dX9_digest_153 ?_
  refine x_lstore_n (pc := 154) (lv' := [(1, .long ((31 * ((31 * v1) + (Int32.toInt64 r125))) + (Int32.toInt64 r149))), (4, .int r125), (0, .ref (ad 0)), (3, .int v3)]) X dX9_digest_154 rfl (by decide) rfl ?_
  refine x_ldc2 (pc := 155) X kcX9_336 dX9_digest_155 ?_
  refine x_lload_n (pc := 158) X dX9_digest_158 rfl 0 rfl ?_
  refine x_lmul (pc := 159) X dX9_digest_159 ?_
  refine x_aload_n (pc := 160) X dX9_digest_160 rfl 2 rfl ?_
  refine x_iload_n (pc := 161) X dX9_digest_161 rfl 3 rfl ?_
  refine x_iconst (pc := 162) (v := 0) X dX9_digest_162 (by decide) ?_
  obtain ⟨r163, σ163, hq163, h⟩ := xb2_some h
  refine x_calliV (pc := 163) (As := [.int v3, .int 0]) (rest := [.long (31 * ((31 * ((31 * v1) + (Int32.toInt64 r125))) + (Int32.toInt64 r149)))]) X (kX9_when l X.2.2.2.2.2.2.2 F _ _ _ _ _ hq163) kvX9_359 rfl (qX9) ⟨rfl, rfl, Nat.le_of_ble_eq_true rfl, Nat.le_of_ble_eq_true rfl⟩ rfl rfl (Nat.le_of_ble_eq_true rfl) dX9_digest_163 ?_
  refine x_i2l (pc := 166) X dX9_digest_166 ?_
  refine x_ladd (pc := 167) X dX9_digest_167 ?_
  refine x_lstore_n (pc := 168) (lv' := [(1, .long ((31 * ((31 * ((31 * v1) + (Int32.toInt64 r125))) + (Int32.toInt64 r149))) + (Int32.toInt64 r163))), (4, .int r125), (0, .ref (ad 0)), (3, .int v3)]) X dX9_digest_168 rfl (by decide) rfl ?_
  refine x_iinc (pc := 169) (v := (v3 + 1)) (lv' := [(3, .int (v3 + 1)), (1, .long ((31 * ((31 * ((31 * v1) + (Int32.toInt64 r125))) + (Int32.toInt64 r149))) + (Int32.toInt64 r163))), (4, .int r125), (0, .ref (ad 0))]) X dX9_digest_169 3 rfl rfl (by decide) rfl ?_
  refine x_goto (pc := 172) X 82 dX9_digest_172 (by decide) ?_
  refine x_sub [3, 1, 0] rfl ?_
  exact hc82 _ _ _ h
set_option maxRecDepth 100000 in
set_option maxHeartbeats 4000000 in
theorem wX9_digest_S93 {p : Program} {l : Launch} {e : Env} {s : State} {m : MethodId} {args : Array Value} {below : List Frame} {meth : Method} {c : Code} {D : va_G} {A : Nat → Prop} {ad : Nat → Nat} {cI cX : ClassId} {r : Int64} {σ' : xSt} {c82 : Int64 → Int32 → xSt → Option (Int64 × xSt)} {c93 : Int64 → Int32 → Int32 → xSt → Option (Int64 × xSt)} (X : xX p s m args c cX9_digest 5 RX9 D (tyM cI cX) A (wM ad cI cX)) (hr : meth.sig.returnType = (some .long)) (hl : meth.locks = false) (F : Nat) (hc82 : ∀ (v1 : Int64) (v3 : Int32) (σ : xSt), c82 v1 v3 σ = some (r, σ') → xG p l e ({ frames := 9, cells := 0, slots := 0, locals := 214 }) s m args below meth c (MQ below (xQl D A (wM ad cI cX) r σ') args s 0 0 A) 5 D A (wM ad cI cX) σ 82 [(0, .ref (ad 0)), (1, .long v1), (3, .int v3)] []) (hc93 : ∀ (v1 : Int64) (v3 : Int32) (v4 : Int32) (σ : xSt), c93 v1 v3 v4 σ = some (r, σ') → xG p l e ({ frames := 9, cells := 0, slots := 0, locals := 214 }) s m args below meth c (MQ below (xQl D A (wM ad cI cX) r σ') args s 0 0 A) 5 D A (wM ad cI cX) σ 93 [(0, .ref (ad 0)), (1, .long v1), (3, .int v3), (4, .int v4)] []) (v1 : Int64) (v3 : Int32) (v4 : Int32) (σ : xSt) (h : mX9_digest_S93 F c82 c93 v1 v3 v4 σ = some (r, σ')) : xG p l e ({ frames := 9, cells := 0, slots := 0, locals := 214 }) s m args below meth c (MQ below (xQl D A (wM ad cI cX) r σ') args s 0 0 A) 5 D A (wM ad cI cX) σ 93 [(0, .ref (ad 0)), (1, .long v1), (3, .int v3), (4, .int v4)] [] := by
  unfold mX9_digest_S93 at h
  refine x_iload (pc := 93) X dX9_digest_93 3 rfl ?_
  refine x_iconst (pc := 95) (v := 3) X dX9_digest_95 (by decide) ?_
  refine x_icmp_ge (pc := 96) X 120 dX9_digest_96 (by decide) (fun hc => ?_) (fun hc => ?_)
  · have h := xit hc h
    refine x_sub [0, 1, 2] rfl ?_
    exact wX9_digest_L120 X hr hl F hc82 _ _ _ h
  · have h := xif hc h
    refine x_ldc2 (pc := 99) X kcX9_336 dX9_digest_99 ?_
    refine x_lload_n (pc := 102) X dX9_digest_102 rfl 1 rfl ?_
    refine x_lmul (pc := 103) X dX9_digest_103 ?_
    refine x_aload_n (pc := 104) X dX9_digest_104 rfl 0 rfl ?_
    refine x_iload_n (pc := 105) X dX9_digest_105 rfl 2 rfl ?_
    refine x_iload (pc := 106) X dX9_digest_106 3 rfl ?_
    obtain ⟨r108, σ108, hq108, h⟩ := xb2_some h
    refine x_calliV (pc := 108) (As := [.int v3, .int v4]) (rest := [.long (31 * v1)]) X (kX9_personOf l X.2.2.2.2.2.2.2 F _ _ _ _ _ hq108) kvX9_139 rfl (qX9) ⟨rfl, rfl, Nat.le_of_ble_eq_true rfl, Nat.le_of_ble_eq_true rfl⟩ rfl rfl (Nat.le_of_ble_eq_true rfl) dX9_digest_108 ?_
    refine x_i2l (pc := 111) X dX9_digest_111 ?_
    refine x_ladd (pc := 112) X dX9_digest_112 ?_
    refine x_lstore_n (pc := 113) (lv' := [(1, .long ((31 * v1) + (Int32.toInt64 r108))), (0, .ref (ad 0)), (3, .int v3), (4, .int v4)]) X dX9_digest_113 rfl (by decide) rfl ?_
    refine x_iinc (pc := 114) (v := (v4 + 1)) (lv' := [(4, .int (v4 + 1)), (1, .long ((31 * v1) + (Int32.toInt64 r108))), (0, .ref (ad 0)), (3, .int v3)]) X dX9_digest_114 3 rfl rfl (by decide) rfl ?_
    refine x_goto (pc := 117) X 93 dX9_digest_117 (by decide) ?_
    refine x_sub [2, 1, 3, 0] rfl ?_
    exact hc93 _ _ _ _ h
theorem wX9_digest_L93 {p : Program} {l : Launch} {e : Env} {s : State} {m : MethodId} {args : Array Value} {below : List Frame} {meth : Method} {c : Code} {D : va_G} {A : Nat → Prop} {ad : Nat → Nat} {cI cX : ClassId} {r : Int64} {σ' : xSt} {c82 : Int64 → Int32 → xSt → Option (Int64 × xSt)} (X : xX p s m args c cX9_digest 5 RX9 D (tyM cI cX) A (wM ad cI cX)) (hr : meth.sig.returnType = (some .long)) (hl : meth.locks = false) (F : Nat) (hc82 : ∀ (v1 : Int64) (v3 : Int32) (σ : xSt), c82 v1 v3 σ = some (r, σ') → xG p l e ({ frames := 9, cells := 0, slots := 0, locals := 214 }) s m args below meth c (MQ below (xQl D A (wM ad cI cX) r σ') args s 0 0 A) 5 D A (wM ad cI cX) σ 82 [(0, .ref (ad 0)), (1, .long v1), (3, .int v3)] []) : ∀ (n : Nat) (v1 : Int64) (v3 : Int32) (v4 : Int32) (σ : xSt), mX9_digest_L93 F c82 n v1 v3 v4 σ = some (r, σ') → xG p l e ({ frames := 9, cells := 0, slots := 0, locals := 214 }) s m args below meth c (MQ below (xQl D A (wM ad cI cX) r σ') args s 0 0 A) 5 D A (wM ad cI cX) σ 93 [(0, .ref (ad 0)), (1, .long v1), (3, .int v3), (4, .int v4)] [] := by
  intro n
  induction n with
  | zero => intro v1 v3 v4 σ h; cases h
  | succ n ih => intro v1 v3 v4 σ h; exact wX9_digest_S93 X hr hl F hc82 ih v1 v3 v4 σ h
set_option maxRecDepth 100000 in
set_option maxHeartbeats 4000000 in
theorem wX9_digest_S82 {p : Program} {l : Launch} {e : Env} {s : State} {m : MethodId} {args : Array Value} {below : List Frame} {meth : Method} {c : Code} {D : va_G} {A : Nat → Prop} {ad : Nat → Nat} {cI cX : ClassId} {r : Int64} {σ' : xSt} {c82 : Int64 → Int32 → xSt → Option (Int64 × xSt)} (X : xX p s m args c cX9_digest 5 RX9 D (tyM cI cX) A (wM ad cI cX)) (hr : meth.sig.returnType = (some .long)) (hl : meth.locks = false) (F : Nat) (hc82 : ∀ (v1 : Int64) (v3 : Int32) (σ : xSt), c82 v1 v3 σ = some (r, σ') → xG p l e ({ frames := 9, cells := 0, slots := 0, locals := 214 }) s m args below meth c (MQ below (xQl D A (wM ad cI cX) r σ') args s 0 0 A) 5 D A (wM ad cI cX) σ 82 [(0, .ref (ad 0)), (1, .long v1), (3, .int v3)] []) (v1 : Int64) (v3 : Int32) (σ : xSt) (h : mX9_digest_S82 F c82 v1 v3 σ = some (r, σ')) : xG p l e ({ frames := 9, cells := 0, slots := 0, locals := 214 }) s m args below meth c (MQ below (xQl D A (wM ad cI cX) r σ') args s 0 0 A) 5 D A (wM ad cI cX) σ 82 [(0, .ref (ad 0)), (1, .long v1), (3, .int v3)] [] := by
  unfold mX9_digest_S82 at h
  refine x_iload_n (pc := 82) X dX9_digest_82 rfl 2 rfl ?_
  refine x_aload_n (pc := 83) X dX9_digest_83 rfl 0 rfl ?_
  refine gX9_113 (pc := 84) X dX9_digest_84 ?_
  refine x_icmp_ge (pc := 87) X 175 dX9_digest_87 (by decide) (fun hc => ?_) (fun hc => ?_)
  · have h := xit hc h
    refine x_sub [0, 1] rfl ?_
    exact wX9_digest_L175 X hr hl F _ _ h
  · have h := xif hc h
    refine x_iconst (pc := 90) (v := 0) X dX9_digest_90 (by decide) ?_
    refine x_istore (pc := 91) (lv' := [(4, .int 0), (0, .ref (ad 0)), (1, .long v1), (3, .int v3)]) X dX9_digest_91 (by decide) rfl ?_
    refine x_sub [1, 2, 3, 0] rfl ?_
    exact wX9_digest_L93 X hr hl F hc82 F _ _ _ _ h
theorem wX9_digest_L82 {p : Program} {l : Launch} {e : Env} {s : State} {m : MethodId} {args : Array Value} {below : List Frame} {meth : Method} {c : Code} {D : va_G} {A : Nat → Prop} {ad : Nat → Nat} {cI cX : ClassId} {r : Int64} {σ' : xSt} (X : xX p s m args c cX9_digest 5 RX9 D (tyM cI cX) A (wM ad cI cX)) (hr : meth.sig.returnType = (some .long)) (hl : meth.locks = false) (F : Nat) : ∀ (n : Nat) (v1 : Int64) (v3 : Int32) (σ : xSt), mX9_digest_L82 F n v1 v3 σ = some (r, σ') → xG p l e ({ frames := 9, cells := 0, slots := 0, locals := 214 }) s m args below meth c (MQ below (xQl D A (wM ad cI cX) r σ') args s 0 0 A) 5 D A (wM ad cI cX) σ 82 [(0, .ref (ad 0)), (1, .long v1), (3, .int v3)] [] := by
  intro n
  induction n with
  | zero => intro v1 v3 σ h; cases h
  | succ n ih => intro v1 v3 σ h; exact wX9_digest_S82 X hr hl F ih v1 v3 σ h
set_option maxRecDepth 100000 in
set_option maxHeartbeats 4000000 in
theorem wX9_digest_L80 {p : Program} {l : Launch} {e : Env} {s : State} {m : MethodId} {args : Array Value} {below : List Frame} {meth : Method} {c : Code} {D : va_G} {A : Nat → Prop} {ad : Nat → Nat} {cI cX : ClassId} {r : Int64} {σ' : xSt} (X : xX p s m args c cX9_digest 5 RX9 D (tyM cI cX) A (wM ad cI cX)) (hr : meth.sig.returnType = (some .long)) (hl : meth.locks = false) (F : Nat) (v1 : Int64) (σ : xSt) (h : mX9_digest_L80 F v1 σ = some (r, σ')) : xG p l e ({ frames := 9, cells := 0, slots := 0, locals := 214 }) s m args below meth c (MQ below (xQl D A (wM ad cI cX) r σ') args s 0 0 A) 5 D A (wM ad cI cX) σ 80 [(0, .ref (ad 0)), (1, .long v1)] [] := by
  unfold mX9_digest_L80 at h
  refine x_iconst (pc := 80) (v := 0) X dX9_digest_80 (by decide) ?_
  refine x_istore_n (pc := 81) (lv' := [(3, .int 0), (0, .ref (ad 0)), (1, .long v1)]) X dX9_digest_81 rfl (by decide) rfl ?_
  refine x_sub [1, 2, 0] rfl ?_
  exact wX9_digest_L82 X hr hl F F _ _ _ h
set_option maxRecDepth 100000 in
set_option maxHeartbeats 4000000 in
theorem wX9_digest_S59 {p : Program} {l : Launch} {e : Env} {s : State} {m : MethodId} {args : Array Value} {below : List Frame} {meth : Method} {c : Code} {D : va_G} {A : Nat → Prop} {ad : Nat → Nat} {cI cX : ClassId} {r : Int64} {σ' : xSt} {c59 : Int64 → Int32 → xSt → Option (Int64 × xSt)} (X : xX p s m args c cX9_digest 5 RX9 D (tyM cI cX) A (wM ad cI cX)) (hr : meth.sig.returnType = (some .long)) (hl : meth.locks = false) (F : Nat) (hc59 : ∀ (v1 : Int64) (v3 : Int32) (σ : xSt), c59 v1 v3 σ = some (r, σ') → xG p l e ({ frames := 9, cells := 0, slots := 0, locals := 214 }) s m args below meth c (MQ below (xQl D A (wM ad cI cX) r σ') args s 0 0 A) 5 D A (wM ad cI cX) σ 59 [(0, .ref (ad 0)), (1, .long v1), (3, .int v3)] []) (v1 : Int64) (v3 : Int32) (σ : xSt) (h : mX9_digest_S59 F c59 v1 v3 σ = some (r, σ')) : xG p l e ({ frames := 9, cells := 0, slots := 0, locals := 214 }) s m args below meth c (MQ below (xQl D A (wM ad cI cX) r σ') args s 0 0 A) 5 D A (wM ad cI cX) σ 59 [(0, .ref (ad 0)), (1, .long v1), (3, .int v3)] [] := by
  unfold mX9_digest_S59 at h
  refine x_iload_n (pc := 59) X dX9_digest_59 rfl 2 rfl ?_
  refine x_aload_n (pc := 60) X dX9_digest_60 rfl 0 rfl ?_
  refine gX9_109 (pc := 61) X dX9_digest_61 ?_
  refine x_icmp_ge (pc := 64) X 80 dX9_digest_64 (by decide) (fun hc => ?_) (fun hc => ?_)
  · have h := xit hc h
    refine x_sub [0, 1] rfl ?_
    exact wX9_digest_L80 X hr hl F _ _ h
  · have h := xif hc h
    refine x_aload_n (pc := 67) X dX9_digest_67 rfl 0 rfl ?_
    refine x_lload_n (pc := 68) X dX9_digest_68 rfl 1 rfl ?_
    refine x_iload_n (pc := 69) X dX9_digest_69 rfl 2 rfl ?_
    obtain ⟨r70, σ70, hq70, h⟩ := xb2_some h
    refine x_calllV (pc := 70) (As := [.long v1, .int v3]) (rest := []) X (kX9_thingDigest l X.2.2.2.2.2.2.2 F _ _ _ _ _ hq70) kvX9_355 rfl (qX9) ⟨rfl, rfl, Nat.le_of_ble_eq_true rfl, Nat.le_of_ble_eq_true rfl⟩ rfl rfl (Nat.le_of_ble_eq_true rfl) dX9_digest_70 ?_
    refine x_lstore_n (pc := 73) (lv' := [(1, .long r70), (0, .ref (ad 0)), (3, .int v3)]) X dX9_digest_73 rfl (by decide) rfl ?_
    refine x_iinc (pc := 74) (v := (v3 + 1)) (lv' := [(3, .int (v3 + 1)), (1, .long r70), (0, .ref (ad 0))]) X dX9_digest_74 2 rfl rfl (by decide) rfl ?_
    refine x_goto (pc := 77) X 59 dX9_digest_77 (by decide) ?_
    refine x_sub [2, 1, 0] rfl ?_
    exact hc59 _ _ _ h
theorem wX9_digest_L59 {p : Program} {l : Launch} {e : Env} {s : State} {m : MethodId} {args : Array Value} {below : List Frame} {meth : Method} {c : Code} {D : va_G} {A : Nat → Prop} {ad : Nat → Nat} {cI cX : ClassId} {r : Int64} {σ' : xSt} (X : xX p s m args c cX9_digest 5 RX9 D (tyM cI cX) A (wM ad cI cX)) (hr : meth.sig.returnType = (some .long)) (hl : meth.locks = false) (F : Nat) : ∀ (n : Nat) (v1 : Int64) (v3 : Int32) (σ : xSt), mX9_digest_L59 F n v1 v3 σ = some (r, σ') → xG p l e ({ frames := 9, cells := 0, slots := 0, locals := 214 }) s m args below meth c (MQ below (xQl D A (wM ad cI cX) r σ') args s 0 0 A) 5 D A (wM ad cI cX) σ 59 [(0, .ref (ad 0)), (1, .long v1), (3, .int v3)] [] := by
  intro n
  induction n with
  | zero => intro v1 v3 σ h; cases h
  | succ n ih => intro v1 v3 σ h; exact wX9_digest_S59 X hr hl F ih v1 v3 σ h
set_option maxRecDepth 100000 in
set_option maxHeartbeats 4000000 in
theorem wX9_digest_L31 {p : Program} {l : Launch} {e : Env} {s : State} {m : MethodId} {args : Array Value} {below : List Frame} {meth : Method} {c : Code} {D : va_G} {A : Nat → Prop} {ad : Nat → Nat} {cI cX : ClassId} {r : Int64} {σ' : xSt} (X : xX p s m args c cX9_digest 5 RX9 D (tyM cI cX) A (wM ad cI cX)) (hr : meth.sig.returnType = (some .long)) (hl : meth.locks = false) (F : Nat) (v1 : Int64) (σ : xSt) (h : mX9_digest_L31 F v1 σ = some (r, σ')) : xG p l e ({ frames := 9, cells := 0, slots := 0, locals := 214 }) s m args below meth c (MQ below (xQl D A (wM ad cI cX) r σ') args s 0 0 A) 5 D A (wM ad cI cX) σ 31 [(0, .ref (ad 0)), (1, .long v1)] [] := by
  unfold mX9_digest_L31 at h
  refine x_ldc2 (pc := 31) X kcX9_336 dX9_digest_31 ?_
  refine x_lload_n (pc := 34) X dX9_digest_34 rfl 1 rfl ?_
  refine x_lmul (pc := 35) X dX9_digest_35 ?_
  refine x_aload_n (pc := 36) X dX9_digest_36 rfl 0 rfl ?_
  refine x_iconst (pc := 37) (v := 0) X dX9_digest_37 (by decide) ?_
  obtain ⟨r38, σ38, hq38, h⟩ := xb2_some h
  refine x_calliV (pc := 38) (As := [.int 0]) (rest := [.long (31 * v1)]) X (kX9_faultOf l X.2.2.2.2.2.2.2 F _ _ _ _ hq38) kvX9_124 rfl (qX9) ⟨rfl, rfl, Nat.le_of_ble_eq_true rfl, Nat.le_of_ble_eq_true rfl⟩ rfl rfl (Nat.le_of_ble_eq_true rfl) dX9_digest_38 ?_
  refine x_i2l (pc := 41) X dX9_digest_41 ?_
  refine x_ladd (pc := 42) X dX9_digest_42 ?_
  refine x_lstore_n (pc := 43) (lv' := [(1, .long ((31 * v1) + (Int32.toInt64 r38))), (0, .ref (ad 0))]) X dX9_digest_43 rfl (by decide) rfl ?_
  refine x_ldc2 (pc := 44) X kcX9_336 dX9_digest_44 ?_
  refine x_lload_n (pc := 47) X dX9_digest_47 rfl 0 rfl ?_
  refine x_lmul (pc := 48) X dX9_digest_48 ?_
  refine x_aload_n (pc := 49) X dX9_digest_49 rfl 1 rfl ?_
  refine x_iconst (pc := 50) (v := 1) X dX9_digest_50 (by decide) ?_
  obtain ⟨r51, σ51, hq51, h⟩ := xb2_some h
  refine x_calliV (pc := 51) (As := [.int 1]) (rest := [.long (31 * ((31 * v1) + (Int32.toInt64 r38)))]) X (kX9_faultOf l X.2.2.2.2.2.2.2 F _ _ _ _ hq51) kvX9_124 rfl (qX9) ⟨rfl, rfl, Nat.le_of_ble_eq_true rfl, Nat.le_of_ble_eq_true rfl⟩ rfl rfl (Nat.le_of_ble_eq_true rfl) dX9_digest_51 ?_
  refine x_i2l (pc := 54) X dX9_digest_54 ?_
  refine x_ladd (pc := 55) X dX9_digest_55 ?_
  refine x_lstore_n (pc := 56) (lv' := [(1, .long ((31 * ((31 * v1) + (Int32.toInt64 r38))) + (Int32.toInt64 r51))), (0, .ref (ad 0))]) X dX9_digest_56 rfl (by decide) rfl ?_
  refine x_iconst (pc := 57) (v := 0) X dX9_digest_57 (by decide) ?_
  refine x_istore_n (pc := 58) (lv' := [(3, .int 0), (1, .long ((31 * ((31 * v1) + (Int32.toInt64 r38))) + (Int32.toInt64 r51))), (0, .ref (ad 0))]) X dX9_digest_58 rfl (by decide) rfl ?_
  refine x_sub [2, 1, 0] rfl ?_
  exact wX9_digest_L59 X hr hl F F _ _ _ h
set_option maxRecDepth 100000 in
set_option maxHeartbeats 4000000 in
theorem wX9_digest_S6 {p : Program} {l : Launch} {e : Env} {s : State} {m : MethodId} {args : Array Value} {below : List Frame} {meth : Method} {c : Code} {D : va_G} {A : Nat → Prop} {ad : Nat → Nat} {cI cX : ClassId} {r : Int64} {σ' : xSt} {c6 : Int64 → Int32 → xSt → Option (Int64 × xSt)} (X : xX p s m args c cX9_digest 5 RX9 D (tyM cI cX) A (wM ad cI cX)) (hr : meth.sig.returnType = (some .long)) (hl : meth.locks = false) (F : Nat) (hc6 : ∀ (v1 : Int64) (v3 : Int32) (σ : xSt), c6 v1 v3 σ = some (r, σ') → xG p l e ({ frames := 9, cells := 0, slots := 0, locals := 214 }) s m args below meth c (MQ below (xQl D A (wM ad cI cX) r σ') args s 0 0 A) 5 D A (wM ad cI cX) σ 6 [(0, .ref (ad 0)), (1, .long v1), (3, .int v3)] []) (v1 : Int64) (v3 : Int32) (σ : xSt) (h : mX9_digest_S6 F c6 v1 v3 σ = some (r, σ')) : xG p l e ({ frames := 9, cells := 0, slots := 0, locals := 214 }) s m args below meth c (MQ below (xQl D A (wM ad cI cX) r σ') args s 0 0 A) 5 D A (wM ad cI cX) σ 6 [(0, .ref (ad 0)), (1, .long v1), (3, .int v3)] [] := by
  unfold mX9_digest_S6 at h
  refine x_iload_n (pc := 6) X dX9_digest_6 rfl 2 rfl ?_
  refine x_bipush (pc := 7) (v := 8) X dX9_digest_7 (by decide) ?_
  refine x_icmp_ge (pc := 9) X 31 dX9_digest_9 (by decide) (fun hc => ?_) (fun hc => ?_)
  · have h := xit hc h
    refine x_sub [0, 1] rfl ?_
    exact wX9_digest_L31 X hr hl F _ _ h
  · have h := xif hc h
    refine x_ldc2 (pc := 12) X kcX9_336 dX9_digest_12 ?_
    refine x_lload_n (pc := 15) X dX9_digest_15 rfl 1 rfl ?_
    refine x_lmul (pc := 16) X dX9_digest_16 ?_
    refine x_aload_n (pc := 17) X dX9_digest_17 rfl 0 rfl ?_
    refine x_iload_n (pc := 18) X dX9_digest_18 rfl 2 rfl ?_
    obtain ⟨r19, σ19, hq19, h⟩ := xb2_some h
    refine x_calliV (pc := 19) (As := [.int v3]) (rest := [.long (31 * v1)]) X (kX9_count l X.2.2.2.2.2.2.2 F _ _ _ _ hq19) kvX9_352 rfl (qX9) ⟨rfl, rfl, Nat.le_of_ble_eq_true rfl, Nat.le_of_ble_eq_true rfl⟩ rfl rfl (Nat.le_of_ble_eq_true rfl) dX9_digest_19 ?_
    refine x_i2l (pc := 22) X dX9_digest_22 ?_
    refine x_ladd (pc := 23) X dX9_digest_23 ?_
    refine x_lstore_n (pc := 24) (lv' := [(1, .long ((31 * v1) + (Int32.toInt64 r19))), (0, .ref (ad 0)), (3, .int v3)]) X dX9_digest_24 rfl (by decide) rfl ?_
    refine x_iinc (pc := 25) (v := (v3 + 1)) (lv' := [(3, .int (v3 + 1)), (1, .long ((31 * v1) + (Int32.toInt64 r19))), (0, .ref (ad 0))]) X dX9_digest_25 2 rfl rfl (by decide) rfl ?_
    refine x_goto (pc := 28) X 6 dX9_digest_28 (by decide) ?_
    refine x_sub [2, 1, 0] rfl ?_
    exact hc6 _ _ _ h
theorem wX9_digest_L6 {p : Program} {l : Launch} {e : Env} {s : State} {m : MethodId} {args : Array Value} {below : List Frame} {meth : Method} {c : Code} {D : va_G} {A : Nat → Prop} {ad : Nat → Nat} {cI cX : ClassId} {r : Int64} {σ' : xSt} (X : xX p s m args c cX9_digest 5 RX9 D (tyM cI cX) A (wM ad cI cX)) (hr : meth.sig.returnType = (some .long)) (hl : meth.locks = false) (F : Nat) : ∀ (n : Nat) (v1 : Int64) (v3 : Int32) (σ : xSt), mX9_digest_L6 F n v1 v3 σ = some (r, σ') → xG p l e ({ frames := 9, cells := 0, slots := 0, locals := 214 }) s m args below meth c (MQ below (xQl D A (wM ad cI cX) r σ') args s 0 0 A) 5 D A (wM ad cI cX) σ 6 [(0, .ref (ad 0)), (1, .long v1), (3, .int v3)] [] := by
  intro n
  induction n with
  | zero => intro v1 v3 σ h; cases h
  | succ n ih => intro v1 v3 σ h; exact wX9_digest_S6 X hr hl F ih v1 v3 σ h
set_option maxRecDepth 100000 in
set_option maxHeartbeats 4000000 in
theorem kX9_digest (l : Launch) {D : va_G} {A : Nat → Prop} {ad : Nat → Nat} {cI cX : ClassId} (hD : ∀ σ, va_D A ((wM ad cI cX) σ)) (F : Nat) (σ : xSt) (r : Int64) (σ' : xSt) (h : mX9_digest F σ = some (r, σ')) : xM l yX9_digest cX9_digest 5 (some .long) ({ frames := 9, cells := 0, slots := 0, locals := 214 }) D (tyM cI cX) A (wM ad cI cX) [.ref (ad 0)] σ (xQl D A (wM ad cI cX) r σ') := by
  refine xM_of (lv := [(0, .ref (ad 0))]) [.ref (ad 0)] (by decide) hD rfl (Nat.le_of_ble_eq_true rfl) ?_
  intro p e s m args below meth c X hr hl
  unfold mX9_digest at h
  refine x_ldc2 (pc := 0) X kcX9_350 dX9_digest_0 ?_
  refine x_lstore_n (pc := 3) (lv' := [(1, .long 17), (0, .ref (ad 0))]) X dX9_digest_3 rfl (by decide) rfl ?_
  refine x_iconst (pc := 4) (v := 0) X dX9_digest_4 (by decide) ?_
  refine x_istore_n (pc := 5) (lv' := [(3, .int 0), (1, .long 17), (0, .ref (ad 0))]) X dX9_digest_5 rfl (by decide) rfl ?_
  refine x_sub [2, 1, 0] rfl ?_
  exact wX9_digest_L6 X hr hl F F _ _ _ h
