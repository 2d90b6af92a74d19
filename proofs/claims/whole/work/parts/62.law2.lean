def zP_type (F : Nat) (Rel : xSt → xSt → Prop) : Prop := ∀ σc σm : xSt, Rel σc σm → ∀ (a1 a2 : Int32), ∃ (r : Int32) (σc' σm' : xSt), mX8_type F a1 a2 σc = some (r, σc') ∧ mX9_type F a1 a2 σm = some (r, σm') ∧ Rel σc' σm'
set_option maxRecDepth 100000 in
set_option maxHeartbeats 4000000 in
theorem z_case_type {p : Program} {l : Launch} {e : Env} {s : State} {m : MethodId} {below : List Frame} {meth : Method} {c : Code} {D : va_G} {adC adM : Nat → Nat} {cI cZ cS : ClassId} {b L td cs sl : Nat} {xs : Nat → Int32} {σc σm : xSt} (Z : zX p s m meth c D adC adM cI cZ cS b L td cs sl xs) (F n : Nat) (Rel : xSt → xSt → Prop) (hO : zP_type F Rel) (hn : n + 6 ≤ L) (hL : L ≤ 384) (hR : Rel σc σm) (kk : ∀ σc' σm', Rel σc' σm' → zG p l e s m below meth c D adC adM cI cZ cS b cs sl σc' σm' 1473 [(0, .ref b), (1, .ref (adC 0)), (2, .ref (adM 0)), (3, .int (nI n))] []) : zG p l e s m below meth c D adC adM cI cZ cS b cs sl σc σm 192 [(0, .ref b), (1, .ref (adC 0)), (2, .ref (adM 0)), (3, .int (nI n))] [] := by
  obtain ⟨r, σc', σm', h1, h2, hR'⟩ := hO σc σm hR (xs (n + 1)) (xs (n + 2))
  refine z_aload_n (pc := 192) Z dL_law_192 rfl 1 rfl ?_
  refine z_aload_n (pc := 193) Z dL_law_193 rfl 0 rfl ?_
  refine z_iload_n (pc := 194) Z dL_law_194 rfl 3 rfl ?_
  refine z_iconst (pc := 195) (v := 1) Z dL_law_195 (by decide) ?_
  refine z_iadd (pc := 196) Z dL_law_196 ?_
  refine z_sld (pc := 197) Z (n + 1) (nI_add n 1) (by omega) (by omega) dL_law_197 ?_
  refine z_aload_n (pc := 198) Z dL_law_198 rfl 0 rfl ?_
  refine z_iload_n (pc := 199) Z dL_law_199 rfl 3 rfl ?_
  refine z_iconst (pc := 200) (v := 2) Z dL_law_200 (by decide) ?_
  refine z_iadd (pc := 201) Z dL_law_201 ?_
  refine z_sld (pc := 202) Z (n + 2) (nI_add n 2) (by omega) (by omega) dL_law_202 ?_
  refine z_callCi (pc := 203) (As := [.int (xs (n + 1)), .int (xs (n + 2))]) (rest := []) Z (kX8_type l (zX_C Z).2.2.2.2.2.2.2 F _ _ _ _ _ h1) kvL_13 rfl ⟨rfl, rfl, Nat.le_of_ble_eq_true rfl, Nat.le_of_ble_eq_true rfl⟩ rfl rfl (Nat.le_of_ble_eq_true rfl) dL_law_203 ?_
  refine z_aload_n (pc := 206) Z dL_law_206 rfl 2 rfl ?_
  refine z_aload_n (pc := 207) Z dL_law_207 rfl 0 rfl ?_
  refine z_iload_n (pc := 208) Z dL_law_208 rfl 3 rfl ?_
  refine z_iconst (pc := 209) (v := 1) Z dL_law_209 (by decide) ?_
  refine z_iadd (pc := 210) Z dL_law_210 ?_
  refine z_sld (pc := 211) Z (n + 1) (nI_add n 1) (by omega) (by omega) dL_law_211 ?_
  refine z_aload_n (pc := 212) Z dL_law_212 rfl 0 rfl ?_
  refine z_iload_n (pc := 213) Z dL_law_213 rfl 3 rfl ?_
  refine z_iconst (pc := 214) (v := 2) Z dL_law_214 (by decide) ?_
  refine z_iadd (pc := 215) Z dL_law_215 ?_
  refine z_sld (pc := 216) Z (n + 2) (nI_add n 2) (by omega) (by omega) dL_law_216 ?_
  refine z_callMi (pc := 217) (As := [.int (xs (n + 1)), .int (xs (n + 2))]) (rest := [.int r]) Z (kX9_type l (zX_M Z).2.2.2.2.2.2.2 F _ _ _ _ _ h2) kvL_17 rfl ⟨rfl, rfl, Nat.le_of_ble_eq_true rfl, Nat.le_of_ble_eq_true rfl⟩ rfl rfl (Nat.le_of_ble_eq_true rfl) dL_law_217 ?_
  refine z_icmp_eq (pc := 220) Z 1473 dL_law_220 (by decide) ?_
  exact kk σc' σm' hR'
def zP_wipe (F : Nat) (Rel : xSt → xSt → Prop) : Prop := ∀ σc σm : xSt, Rel σc σm → ∀ (a1 : Int32), ∃ (r : Int32) (σc' σm' : xSt), mX8_wipe F a1 σc = some (r, σc') ∧ mX9_wipe F a1 σm = some (r, σm') ∧ Rel σc' σm'
set_option maxRecDepth 100000 in
set_option maxHeartbeats 4000000 in
theorem z_case_wipe {p : Program} {l : Launch} {e : Env} {s : State} {m : MethodId} {below : List Frame} {meth : Method} {c : Code} {D : va_G} {adC adM : Nat → Nat} {cI cZ cS : ClassId} {b L td cs sl : Nat} {xs : Nat → Int32} {σc σm : xSt} (Z : zX p s m meth c D adC adM cI cZ cS b L td cs sl xs) (F n : Nat) (Rel : xSt → xSt → Prop) (hO : zP_wipe F Rel) (hn : n + 6 ≤ L) (hL : L ≤ 384) (hR : Rel σc σm) (kk : ∀ σc' σm', Rel σc' σm' → zG p l e s m below meth c D adC adM cI cZ cS b cs sl σc' σm' 1473 [(0, .ref b), (1, .ref (adC 0)), (2, .ref (adM 0)), (3, .int (nI n))] []) : zG p l e s m below meth c D adC adM cI cZ cS b cs sl σc σm 225 [(0, .ref b), (1, .ref (adC 0)), (2, .ref (adM 0)), (3, .int (nI n))] [] := by
  obtain ⟨r, σc', σm', h1, h2, hR'⟩ := hO σc σm hR (xs (n + 1))
  refine z_aload_n (pc := 225) Z dL_law_225 rfl 1 rfl ?_
  refine z_aload_n (pc := 226) Z dL_law_226 rfl 0 rfl ?_
  refine z_iload_n (pc := 227) Z dL_law_227 rfl 3 rfl ?_
  refine z_iconst (pc := 228) (v := 1) Z dL_law_228 (by decide) ?_
  refine z_iadd (pc := 229) Z dL_law_229 ?_
  refine z_sld (pc := 230) Z (n + 1) (nI_add n 1) (by omega) (by omega) dL_law_230 ?_
  refine z_callCi (pc := 231) (As := [.int (xs (n + 1))]) (rest := []) Z (kX8_wipe l (zX_C Z).2.2.2.2.2.2.2 F _ _ _ _ h1) kvL_18 rfl ⟨rfl, rfl, Nat.le_of_ble_eq_true rfl, Nat.le_of_ble_eq_true rfl⟩ rfl rfl (Nat.le_of_ble_eq_true rfl) dL_law_231 ?_
  refine z_aload_n (pc := 234) Z dL_law_234 rfl 2 rfl ?_
  refine z_aload_n (pc := 235) Z dL_law_235 rfl 0 rfl ?_
  refine z_iload_n (pc := 236) Z dL_law_236 rfl 3 rfl ?_
  refine z_iconst (pc := 237) (v := 1) Z dL_law_237 (by decide) ?_
  refine z_iadd (pc := 238) Z dL_law_238 ?_
  refine z_sld (pc := 239) Z (n + 1) (nI_add n 1) (by omega) (by omega) dL_law_239 ?_
  refine z_callMi (pc := 240) (As := [.int (xs (n + 1))]) (rest := [.int r]) Z (kX9_wipe l (zX_M Z).2.2.2.2.2.2.2 F _ _ _ _ h2) kvL_22 rfl ⟨rfl, rfl, Nat.le_of_ble_eq_true rfl, Nat.le_of_ble_eq_true rfl⟩ rfl rfl (Nat.le_of_ble_eq_true rfl) dL_law_240 ?_
  refine z_icmp_eq (pc := 243) Z 1473 dL_law_243 (by decide) ?_
  exact kk σc' σm' hR'
def zP_undo (F : Nat) (Rel : xSt → xSt → Prop) : Prop := ∀ σc σm : xSt, Rel σc σm → ∀ (a1 : Int32), ∃ (r : Int32) (σc' σm' : xSt), mX8_undo F a1 σc = some (r, σc') ∧ mX9_undo F a1 σm = some (r, σm') ∧ Rel σc' σm'
set_option maxRecDepth 100000 in
set_option maxHeartbeats 4000000 in
theorem z_case_undo {p : Program} {l : Launch} {e : Env} {s : State} {m : MethodId} {below : List Frame} {meth : Method} {c : Code} {D : va_G} {adC adM : Nat → Nat} {cI cZ cS : ClassId} {b L td cs sl : Nat} {xs : Nat → Int32} {σc σm : xSt} (Z : zX p s m meth c D adC adM cI cZ cS b L td cs sl xs) (F n : Nat) (Rel : xSt → xSt → Prop) (hO : zP_undo F Rel) (hn : n + 6 ≤ L) (hL : L ≤ 384) (hR : Rel σc σm) (kk : ∀ σc' σm', Rel σc' σm' → zG p l e s m below meth c D adC adM cI cZ cS b cs sl σc' σm' 1473 [(0, .ref b), (1, .ref (adC 0)), (2, .ref (adM 0)), (3, .int (nI n))] []) : zG p l e s m below meth c D adC adM cI cZ cS b cs sl σc σm 248 [(0, .ref b), (1, .ref (adC 0)), (2, .ref (adM 0)), (3, .int (nI n))] [] := by
  obtain ⟨r, σc', σm', h1, h2, hR'⟩ := hO σc σm hR (xs (n + 1))
  refine z_aload_n (pc := 248) Z dL_law_248 rfl 1 rfl ?_
  refine z_aload_n (pc := 249) Z dL_law_249 rfl 0 rfl ?_
  refine z_iload_n (pc := 250) Z dL_law_250 rfl 3 rfl ?_
  refine z_iconst (pc := 251) (v := 1) Z dL_law_251 (by decide) ?_
  refine z_iadd (pc := 252) Z dL_law_252 ?_
  refine z_sld (pc := 253) Z (n + 1) (nI_add n 1) (by omega) (by omega) dL_law_253 ?_
  refine z_callCi (pc := 254) (As := [.int (xs (n + 1))]) (rest := []) Z (kX8_undo l (zX_C Z).2.2.2.2.2.2.2 F _ _ _ _ h1) kvL_23 rfl ⟨rfl, rfl, Nat.le_of_ble_eq_true rfl, Nat.le_of_ble_eq_true rfl⟩ rfl rfl (Nat.le_of_ble_eq_true rfl) dL_law_254 ?_
  refine z_aload_n (pc := 257) Z dL_law_257 rfl 2 rfl ?_
  refine z_aload_n (pc := 258) Z dL_law_258 rfl 0 rfl ?_
  refine z_iload_n (pc := 259) Z dL_law_259 rfl 3 rfl ?_
  refine z_iconst (pc := 260) (v := 1) Z dL_law_260 (by decide) ?_
  refine z_iadd (pc := 261) Z dL_law_261 ?_
  refine z_sld (pc := 262) Z (n + 1) (nI_add n 1) (by omega) (by omega) dL_law_262 ?_
  refine z_callMi (pc := 263) (As := [.int (xs (n + 1))]) (rest := [.int r]) Z (kX9_undo l (zX_M Z).2.2.2.2.2.2.2 F _ _ _ _ h2) kvL_26 rfl ⟨rfl, rfl, Nat.le_of_ble_eq_true rfl, Nat.le_of_ble_eq_true rfl⟩ rfl rfl (Nat.le_of_ble_eq_true rfl) dL_law_263 ?_
  refine z_icmp_eq (pc := 266) Z 1473 dL_law_266 (by decide) ?_
  exact kk σc' σm' hR'
def zP_fault (F : Nat) (Rel : xSt → xSt → Prop) : Prop := ∀ σc σm : xSt, Rel σc σm → ∀ (a1 : Int32), ∃ (r : Int32) (σc' σm' : xSt), mX8_fault F a1 σc = some (r, σc') ∧ mX9_fault F a1 σm = some (r, σm') ∧ Rel σc' σm'
set_option maxRecDepth 100000 in
set_option maxHeartbeats 4000000 in
theorem z_case_fault {p : Program} {l : Launch} {e : Env} {s : State} {m : MethodId} {below : List Frame} {meth : Method} {c : Code} {D : va_G} {adC adM : Nat → Nat} {cI cZ cS : ClassId} {b L td cs sl : Nat} {xs : Nat → Int32} {σc σm : xSt} (Z : zX p s m meth c D adC adM cI cZ cS b L td cs sl xs) (F n : Nat) (Rel : xSt → xSt → Prop) (hO : zP_fault F Rel) (hn : n + 6 ≤ L) (hL : L ≤ 384) (hR : Rel σc σm) (kk : ∀ σc' σm', Rel σc' σm' → zG p l e s m below meth c D adC adM cI cZ cS b cs sl σc' σm' 1473 [(0, .ref b), (1, .ref (adC 0)), (2, .ref (adM 0)), (3, .int (nI n))] []) : zG p l e s m below meth c D adC adM cI cZ cS b cs sl σc σm 271 [(0, .ref b), (1, .ref (adC 0)), (2, .ref (adM 0)), (3, .int (nI n))] [] := by
  obtain ⟨r, σc', σm', h1, h2, hR'⟩ := hO σc σm hR (xs (n + 1))
  refine z_aload_n (pc := 271) Z dL_law_271 rfl 1 rfl ?_
  refine z_aload_n (pc := 272) Z dL_law_272 rfl 0 rfl ?_
  refine z_iload_n (pc := 273) Z dL_law_273 rfl 3 rfl ?_
  refine z_iconst (pc := 274) (v := 1) Z dL_law_274 (by decide) ?_
  refine z_iadd (pc := 275) Z dL_law_275 ?_
  refine z_sld (pc := 276) Z (n + 1) (nI_add n 1) (by omega) (by omega) dL_law_276 ?_
  refine z_callCi (pc := 277) (As := [.int (xs (n + 1))]) (rest := []) Z (kX8_fault l (zX_C Z).2.2.2.2.2.2.2 F _ _ _ _ h1) kvL_27 rfl ⟨rfl, rfl, Nat.le_of_ble_eq_true rfl, Nat.le_of_ble_eq_true rfl⟩ rfl rfl (Nat.le_of_ble_eq_true rfl) dL_law_277 ?_
  refine z_aload_n (pc := 280) Z dL_law_280 rfl 2 rfl ?_
  refine z_aload_n (pc := 281) Z dL_law_281 rfl 0 rfl ?_
  refine z_iload_n (pc := 282) Z dL_law_282 rfl 3 rfl ?_
  refine z_iconst (pc := 283) (v := 1) Z dL_law_283 (by decide) ?_
  refine z_iadd (pc := 284) Z dL_law_284 ?_
  refine z_sld (pc := 285) Z (n + 1) (nI_add n 1) (by omega) (by omega) dL_law_285 ?_
  refine z_callMi (pc := 286) (As := [.int (xs (n + 1))]) (rest := [.int r]) Z (kX9_fault l (zX_M Z).2.2.2.2.2.2.2 F _ _ _ _ h2) kvL_30 rfl ⟨rfl, rfl, Nat.le_of_ble_eq_true rfl, Nat.le_of_ble_eq_true rfl⟩ rfl rfl (Nat.le_of_ble_eq_true rfl) dL_law_286 ?_
  refine z_icmp_eq (pc := 289) Z 1473 dL_law_289 (by decide) ?_
  exact kk σc' σm' hR'
def zP_thing (F : Nat) (Rel : xSt → xSt → Prop) : Prop := ∀ σc σm : xSt, Rel σc σm → ∀ (a1 a2 : Int32), ∃ (r : Int32) (σc' σm' : xSt), mX8_thing F a1 a2 σc = some (r, σc') ∧ mX9_thing F a1 a2 σm = some (r, σm') ∧ Rel σc' σm'
set_option maxRecDepth 100000 in
set_option maxHeartbeats 4000000 in
theorem z_case_thing {p : Program} {l : Launch} {e : Env} {s : State} {m : MethodId} {below : List Frame} {meth : Method} {c : Code} {D : va_G} {adC adM : Nat → Nat} {cI cZ cS : ClassId} {b L td cs sl : Nat} {xs : Nat → Int32} {σc σm : xSt} (Z : zX p s m meth c D adC adM cI cZ cS b L td cs sl xs) (F n : Nat) (Rel : xSt → xSt → Prop) (hO : zP_thing F Rel) (hn : n + 6 ≤ L) (hL : L ≤ 384) (hR : Rel σc σm) (kk : ∀ σc' σm', Rel σc' σm' → zG p l e s m below meth c D adC adM cI cZ cS b cs sl σc' σm' 1473 [(0, .ref b), (1, .ref (adC 0)), (2, .ref (adM 0)), (3, .int (nI n))] []) : zG p l e s m below meth c D adC adM cI cZ cS b cs sl σc σm 294 [(0, .ref b), (1, .ref (adC 0)), (2, .ref (adM 0)), (3, .int (nI n))] [] := by
  obtain ⟨r, σc', σm', h1, h2, hR'⟩ := hO σc σm hR (xs (n + 1)) (xs (n + 2))
  refine z_aload_n (pc := 294) Z dL_law_294 rfl 1 rfl ?_
  refine z_aload_n (pc := 295) Z dL_law_295 rfl 0 rfl ?_
  refine z_iload_n (pc := 296) Z dL_law_296 rfl 3 rfl ?_
  refine z_iconst (pc := 297) (v := 1) Z dL_law_297 (by decide) ?_
  refine z_iadd (pc := 298) Z dL_law_298 ?_
  refine z_sld (pc := 299) Z (n + 1) (nI_add n 1) (by omega) (by omega) dL_law_299 ?_
  refine z_aload_n (pc := 300) Z dL_law_300 rfl 0 rfl ?_
  refine z_iload_n (pc := 301) Z dL_law_301 rfl 3 rfl ?_
  refine z_iconst (pc := 302) (v := 2) Z dL_law_302 (by decide) ?_
  refine z_iadd (pc := 303) Z dL_law_303 ?_
  refine z_sld (pc := 304) Z (n + 2) (nI_add n 2) (by omega) (by omega) dL_law_304 ?_
  refine z_callCi (pc := 305) (As := [.int (xs (n + 1)), .int (xs (n + 2))]) (rest := []) Z (kX8_thing l (zX_C Z).2.2.2.2.2.2.2 F _ _ _ _ _ h1) kvL_31 rfl ⟨rfl, rfl, Nat.le_of_ble_eq_true rfl, Nat.le_of_ble_eq_true rfl⟩ rfl rfl (Nat.le_of_ble_eq_true rfl) dL_law_305 ?_
  refine z_aload_n (pc := 308) Z dL_law_308 rfl 2 rfl ?_
  refine z_aload_n (pc := 309) Z dL_law_309 rfl 0 rfl ?_
  refine z_iload_n (pc := 310) Z dL_law_310 rfl 3 rfl ?_
  refine z_iconst (pc := 311) (v := 1) Z dL_law_311 (by decide) ?_
  refine z_iadd (pc := 312) Z dL_law_312 ?_
  refine z_sld (pc := 313) Z (n + 1) (nI_add n 1) (by omega) (by omega) dL_law_313 ?_
  refine z_aload_n (pc := 314) Z dL_law_314 rfl 0 rfl ?_
  refine z_iload_n (pc := 315) Z dL_law_315 rfl 3 rfl ?_
  refine z_iconst (pc := 316) (v := 2) Z dL_law_316 (by decide) ?_
  refine z_iadd (pc := 317) Z dL_law_317 ?_
  refine z_sld (pc := 318) Z (n + 2) (nI_add n 2) (by omega) (by omega) dL_law_318 ?_
  refine z_callMi (pc := 319) (As := [.int (xs (n + 1)), .int (xs (n + 2))]) (rest := [.int r]) Z (kX9_thing l (zX_M Z).2.2.2.2.2.2.2 F _ _ _ _ _ h2) kvL_34 rfl ⟨rfl, rfl, Nat.le_of_ble_eq_true rfl, Nat.le_of_ble_eq_true rfl⟩ rfl rfl (Nat.le_of_ble_eq_true rfl) dL_law_319 ?_
  refine z_icmp_eq (pc := 322) Z 1473 dL_law_322 (by decide) ?_
  exact kk σc' σm' hR'
def zP_person (F : Nat) (Rel : xSt → xSt → Prop) : Prop := ∀ σc σm : xSt, Rel σc σm → ∀ (a1 a2 : Int32), ∃ (r : Int32) (σc' σm' : xSt), mX8_person F a1 a2 σc = some (r, σc') ∧ mX9_person F a1 a2 σm = some (r, σm') ∧ Rel σc' σm'
set_option maxRecDepth 100000 in
set_option maxHeartbeats 4000000 in
theorem z_case_person {p : Program} {l : Launch} {e : Env} {s : State} {m : MethodId} {below : List Frame} {meth : Method} {c : Code} {D : va_G} {adC adM : Nat → Nat} {cI cZ cS : ClassId} {b L td cs sl : Nat} {xs : Nat → Int32} {σc σm : xSt} (Z : zX p s m meth c D adC adM cI cZ cS b L td cs sl xs) (F n : Nat) (Rel : xSt → xSt → Prop) (hO : zP_person F Rel) (hn : n + 6 ≤ L) (hL : L ≤ 384) (hR : Rel σc σm) (kk : ∀ σc' σm', Rel σc' σm' → zG p l e s m below meth c D adC adM cI cZ cS b cs sl σc' σm' 1473 [(0, .ref b), (1, .ref (adC 0)), (2, .ref (adM 0)), (3, .int (nI n))] []) : zG p l e s m below meth c D adC adM cI cZ cS b cs sl σc σm 327 [(0, .ref b), (1, .ref (adC 0)), (2, .ref (adM 0)), (3, .int (nI n))] [] := by
  obtain ⟨r, σc', σm', h1, h2, hR'⟩ := hO σc σm hR (xs (n + 1)) (xs (n + 2))
  refine z_aload_n (pc := 327) Z dL_law_327 rfl 1 rfl ?_
  refine z_aload_n (pc := 328) Z dL_law_328 rfl 0 rfl ?_
  refine z_iload_n (pc := 329) Z dL_law_329 rfl 3 rfl ?_
  refine z_iconst (pc := 330) (v := 1) Z dL_law_330 (by decide) ?_
  refine z_iadd (pc := 331) Z dL_law_331 ?_
  refine z_sld (pc := 332) Z (n + 1) (nI_add n 1) (by omega) (by omega) dL_law_332 ?_
  refine z_aload_n (pc := 333) Z dL_law_333 rfl 0 rfl ?_
  refine z_iload_n (pc := 334) Z dL_law_334 rfl 3 rfl ?_
  refine z_iconst (pc := 335) (v := 2) Z dL_law_335 (by decide) ?_
  refine z_iadd (pc := 336) Z dL_law_336 ?_
  refine z_sld (pc := 337) Z (n + 2) (nI_add n 2) (by omega) (by omega) dL_law_337 ?_
  refine z_callCi (pc := 338) (As := [.int (xs (n + 1)), .int (xs (n + 2))]) (rest := []) Z (kX8_person l (zX_C Z).2.2.2.2.2.2.2 F _ _ _ _ _ h1) kvL_35 rfl ⟨rfl, rfl, Nat.le_of_ble_eq_true rfl, Nat.le_of_ble_eq_true rfl⟩ rfl rfl (Nat.le_of_ble_eq_true rfl) dL_law_338 ?_
  refine z_aload_n (pc := 341) Z dL_law_341 rfl 2 rfl ?_
  refine z_aload_n (pc := 342) Z dL_law_342 rfl 0 rfl ?_
  refine z_iload_n (pc := 343) Z dL_law_343 rfl 3 rfl ?_
  refine z_iconst (pc := 344) (v := 1) Z dL_law_344 (by decide) ?_
  refine z_iadd (pc := 345) Z dL_law_345 ?_
  refine z_sld (pc := 346) Z (n + 1) (nI_add n 1) (by omega) (by omega) dL_law_346 ?_
  refine z_aload_n (pc := 347) Z dL_law_347 rfl 0 rfl ?_
  refine z_iload_n (pc := 348) Z dL_law_348 rfl 3 rfl ?_
  refine z_iconst (pc := 349) (v := 2) Z dL_law_349 (by decide) ?_
  refine z_iadd (pc := 350) Z dL_law_350 ?_
  refine z_sld (pc := 351) Z (n + 2) (nI_add n 2) (by omega) (by omega) dL_law_351 ?_
  refine z_callMi (pc := 352) (As := [.int (xs (n + 1)), .int (xs (n + 2))]) (rest := [.int r]) Z (kX9_person l (zX_M Z).2.2.2.2.2.2.2 F _ _ _ _ _ h2) kvL_38 rfl ⟨rfl, rfl, Nat.le_of_ble_eq_true rfl, Nat.le_of_ble_eq_true rfl⟩ rfl rfl (Nat.le_of_ble_eq_true rfl) dL_law_352 ?_
  refine z_icmp_eq (pc := 355) Z 1473 dL_law_355 (by decide) ?_
  exact kk σc' σm' hR'
def zP_sit (F : Nat) (Rel : xSt → xSt → Prop) : Prop := ∀ σc σm : xSt, Rel σc σm → ∀ (a1 a2 a3 : Int32), ∃ (r : Int32) (σc' σm' : xSt), mX8_sit F a1 a2 a3 σc = some (r, σc') ∧ mX9_sit F a1 a2 a3 σm = some (r, σm') ∧ Rel σc' σm'
set_option maxRecDepth 100000 in
set_option maxHeartbeats 4000000 in
theorem z_case_sit {p : Program} {l : Launch} {e : Env} {s : State} {m : MethodId} {below : List Frame} {meth : Method} {c : Code} {D : va_G} {adC adM : Nat → Nat} {cI cZ cS : ClassId} {b L td cs sl : Nat} {xs : Nat → Int32} {σc σm : xSt} (Z : zX p s m meth c D adC adM cI cZ cS b L td cs sl xs) (F n : Nat) (Rel : xSt → xSt → Prop) (hO : zP_sit F Rel) (hn : n + 6 ≤ L) (hL : L ≤ 384) (hR : Rel σc σm) (kk : ∀ σc' σm', Rel σc' σm' → zG p l e s m below meth c D adC adM cI cZ cS b cs sl σc' σm' 1473 [(0, .ref b), (1, .ref (adC 0)), (2, .ref (adM 0)), (3, .int (nI n))] []) : zG p l e s m below meth c D adC adM cI cZ cS b cs sl σc σm 360 [(0, .ref b), (1, .ref (adC 0)), (2, .ref (adM 0)), (3, .int (nI n))] [] := by
  obtain ⟨r, σc', σm', h1, h2, hR'⟩ := hO σc σm hR (xs (n + 1)) (xs (n + 2)) (xs (n + 3))
  refine z_aload_n (pc := 360) Z dL_law_360 rfl 1 rfl ?_
  refine z_aload_n (pc := 361) Z dL_law_361 rfl 0 rfl ?_
  refine z_iload_n (pc := 362) Z dL_law_362 rfl 3 rfl ?_
  refine z_iconst (pc := 363) (v := 1) Z dL_law_363 (by decide) ?_
  refine z_iadd (pc := 364) Z dL_law_364 ?_
  refine z_sld (pc := 365) Z (n + 1) (nI_add n 1) (by omega) (by omega) dL_law_365 ?_
  refine z_aload_n (pc := 366) Z dL_law_366 rfl 0 rfl ?_
  refine z_iload_n (pc := 367) Z dL_law_367 rfl 3 rfl ?_
  refine z_iconst (pc := 368) (v := 2) Z dL_law_368 (by decide) ?_
  refine z_iadd (pc := 369) Z dL_law_369 ?_
  refine z_sld (pc := 370) Z (n + 2) (nI_add n 2) (by omega) (by omega) dL_law_370 ?_
  refine z_aload_n (pc := 371) Z dL_law_371 rfl 0 rfl ?_
  refine z_iload_n (pc := 372) Z dL_law_372 rfl 3 rfl ?_
  refine z_iconst (pc := 373) (v := 3) Z dL_law_373 (by decide) ?_
  refine z_iadd (pc := 374) Z dL_law_374 ?_
  refine z_sld (pc := 375) Z (n + 3) (nI_add n 3) (by omega) (by omega) dL_law_375 ?_
  refine z_callCi (pc := 376) (As := [.int (xs (n + 1)), .int (xs (n + 2)), .int (xs (n + 3))]) (rest := []) Z (kX8_sit l (zX_C Z).2.2.2.2.2.2.2 F _ _ _ _ _ _ h1) kvL_39 rfl ⟨rfl, rfl, Nat.le_of_ble_eq_true rfl, Nat.le_of_ble_eq_true rfl⟩ rfl rfl (Nat.le_of_ble_eq_true rfl) dL_law_376 ?_
  refine z_aload_n (pc := 379) Z dL_law_379 rfl 2 rfl ?_
  refine z_aload_n (pc := 380) Z dL_law_380 rfl 0 rfl ?_
  refine z_iload_n (pc := 381) Z dL_law_381 rfl 3 rfl ?_
  refine z_iconst (pc := 382) (v := 1) Z dL_law_382 (by decide) ?_
  refine z_iadd (pc := 383) Z dL_law_383 ?_
  refine z_sld (pc := 384) Z (n + 1) (nI_add n 1) (by omega) (by omega) dL_law_384 ?_
  refine z_aload_n (pc := 385) Z dL_law_385 rfl 0 rfl ?_
  refine z_iload_n (pc := 386) Z dL_law_386 rfl 3 rfl ?_
  refine z_iconst (pc := 387) (v := 2) Z dL_law_387 (by decide) ?_
  refine z_iadd (pc := 388) Z dL_law_388 ?_
  refine z_sld (pc := 389) Z (n + 2) (nI_add n 2) (by omega) (by omega) dL_law_389 ?_
  refine z_aload_n (pc := 390) Z dL_law_390 rfl 0 rfl ?_
  refine z_iload_n (pc := 391) Z dL_law_391 rfl 3 rfl ?_
  refine z_iconst (pc := 392) (v := 3) Z dL_law_392 (by decide) ?_
  refine z_iadd (pc := 393) Z dL_law_393 ?_
  refine z_sld (pc := 394) Z (n + 3) (nI_add n 3) (by omega) (by omega) dL_law_394 ?_
  refine z_callMi (pc := 395) (As := [.int (xs (n + 1)), .int (xs (n + 2)), .int (xs (n + 3))]) (rest := [.int r]) Z (kX9_sit l (zX_M Z).2.2.2.2.2.2.2 F _ _ _ _ _ _ h2) kvL_43 rfl ⟨rfl, rfl, Nat.le_of_ble_eq_true rfl, Nat.le_of_ble_eq_true rfl⟩ rfl rfl (Nat.le_of_ble_eq_true rfl) dL_law_395 ?_
  refine z_icmp_eq (pc := 398) Z 1473 dL_law_398 (by decide) ?_
  exact kk σc' σm' hR'
def zP_window (F : Nat) (Rel : xSt → xSt → Prop) : Prop := ∀ σc σm : xSt, Rel σc σm → ∀ (a1 a2 : Int32), ∃ (r : Int32) (σc' σm' : xSt), mX8_window F a1 a2 σc = some (r, σc') ∧ mX9_window F a1 a2 σm = some (r, σm') ∧ Rel σc' σm'
set_option maxRecDepth 100000 in
set_option maxHeartbeats 4000000 in
theorem z_case_window {p : Program} {l : Launch} {e : Env} {s : State} {m : MethodId} {below : List Frame} {meth : Method} {c : Code} {D : va_G} {adC adM : Nat → Nat} {cI cZ cS : ClassId} {b L td cs sl : Nat} {xs : Nat → Int32} {σc σm : xSt} (Z : zX p s m meth c D adC adM cI cZ cS b L td cs sl xs) (F n : Nat) (Rel : xSt → xSt → Prop) (hO : zP_window F Rel) (hn : n + 6 ≤ L) (hL : L ≤ 384) (hR : Rel σc σm) (kk : ∀ σc' σm', Rel σc' σm' → zG p l e s m below meth c D adC adM cI cZ cS b cs sl σc' σm' 1473 [(0, .ref b), (1, .ref (adC 0)), (2, .ref (adM 0)), (3, .int (nI n))] []) : zG p l e s m below meth c D adC adM cI cZ cS b cs sl σc σm 403 [(0, .ref b), (1, .ref (adC 0)), (2, .ref (adM 0)), (3, .int (nI n))] [] := by
  obtain ⟨r, σc', σm', h1, h2, hR'⟩ := hO σc σm hR (xs (n + 1)) (xs (n + 2))
  refine z_aload_n (pc := 403) Z dL_law_403 rfl 1 rfl ?_
  refine z_aload_n (pc := 404) Z dL_law_404 rfl 0 rfl ?_
  refine z_iload_n (pc := 405) Z dL_law_405 rfl 3 rfl ?_
  refine z_iconst (pc := 406) (v := 1) Z dL_law_406 (by decide) ?_
  refine z_iadd (pc := 407) Z dL_law_407 ?_
  refine z_sld (pc := 408) Z (n + 1) (nI_add n 1) (by omega) (by omega) dL_law_408 ?_
  refine z_aload_n (pc := 409) Z dL_law_409 rfl 0 rfl ?_
  refine z_iload_n (pc := 410) Z dL_law_410 rfl 3 rfl ?_
  refine z_iconst (pc := 411) (v := 2) Z dL_law_411 (by decide) ?_
  refine z_iadd (pc := 412) Z dL_law_412 ?_
  refine z_sld (pc := 413) Z (n + 2) (nI_add n 2) (by omega) (by omega) dL_law_413 ?_
  refine z_callCi (pc := 414) (As := [.int (xs (n + 1)), .int (xs (n + 2))]) (rest := []) Z (kX8_window l (zX_C Z).2.2.2.2.2.2.2 F _ _ _ _ _ h1) kvL_44 rfl ⟨rfl, rfl, Nat.le_of_ble_eq_true rfl, Nat.le_of_ble_eq_true rfl⟩ rfl rfl (Nat.le_of_ble_eq_true rfl) dL_law_414 ?_
  refine z_aload_n (pc := 417) Z dL_law_417 rfl 2 rfl ?_
  refine z_aload_n (pc := 418) Z dL_law_418 rfl 0 rfl ?_
  refine z_iload_n (pc := 419) Z dL_law_419 rfl 3 rfl ?_
  refine z_iconst (pc := 420) (v := 1) Z dL_law_420 (by decide) ?_
  refine z_iadd (pc := 421) Z dL_law_421 ?_
  refine z_sld (pc := 422) Z (n + 1) (nI_add n 1) (by omega) (by omega) dL_law_422 ?_
  refine z_aload_n (pc := 423) Z dL_law_423 rfl 0 rfl ?_
  refine z_iload_n (pc := 424) Z dL_law_424 rfl 3 rfl ?_
  refine z_iconst (pc := 425) (v := 2) Z dL_law_425 (by decide) ?_
  refine z_iadd (pc := 426) Z dL_law_426 ?_
  refine z_sld (pc := 427) Z (n + 2) (nI_add n 2) (by omega) (by omega) dL_law_427 ?_
  refine z_callMi (pc := 428) (As := [.int (xs (n + 1)), .int (xs (n + 2))]) (rest := [.int r]) Z (kX9_window l (zX_M Z).2.2.2.2.2.2.2 F _ _ _ _ _ h2) kvL_47 rfl ⟨rfl, rfl, Nat.le_of_ble_eq_true rfl, Nat.le_of_ble_eq_true rfl⟩ rfl rfl (Nat.le_of_ble_eq_true rfl) dL_law_428 ?_
  refine z_icmp_eq (pc := 431) Z 1473 dL_law_431 (by decide) ?_
  exact kk σc' σm' hR'
def zP_back (F : Nat) (Rel : xSt → xSt → Prop) : Prop := ∀ σc σm : xSt, Rel σc σm → ∀ (a1 : Int32), ∃ (r : Int32) (σc' σm' : xSt), mX8_back F a1 σc = some (r, σc') ∧ mX9_back F a1 σm = some (r, σm') ∧ Rel σc' σm'
set_option maxRecDepth 100000 in
set_option maxHeartbeats 4000000 in
theorem z_case_back {p : Program} {l : Launch} {e : Env} {s : State} {m : MethodId} {below : List Frame} {meth : Method} {c : Code} {D : va_G} {adC adM : Nat → Nat} {cI cZ cS : ClassId} {b L td cs sl : Nat} {xs : Nat → Int32} {σc σm : xSt} (Z : zX p s m meth c D adC adM cI cZ cS b L td cs sl xs) (F n : Nat) (Rel : xSt → xSt → Prop) (hO : zP_back F Rel) (hn : n + 6 ≤ L) (hL : L ≤ 384) (hR : Rel σc σm) (kk : ∀ σc' σm', Rel σc' σm' → zG p l e s m below meth c D adC adM cI cZ cS b cs sl σc' σm' 1473 [(0, .ref b), (1, .ref (adC 0)), (2, .ref (adM 0)), (3, .int (nI n))] []) : zG p l e s m below meth c D adC adM cI cZ cS b cs sl σc σm 436 [(0, .ref b), (1, .ref (adC 0)), (2, .ref (adM 0)), (3, .int (nI n))] [] := by
  obtain ⟨r, σc', σm', h1, h2, hR'⟩ := hO σc σm hR (xs (n + 1))
  refine z_aload_n (pc := 436) Z dL_law_436 rfl 1 rfl ?_
  refine z_aload_n (pc := 437) Z dL_law_437 rfl 0 rfl ?_
  refine z_iload_n (pc := 438) Z dL_law_438 rfl 3 rfl ?_
  refine z_iconst (pc := 439) (v := 1) Z dL_law_439 (by decide) ?_
  refine z_iadd (pc := 440) Z dL_law_440 ?_
  refine z_sld (pc := 441) Z (n + 1) (nI_add n 1) (by omega) (by omega) dL_law_441 ?_
  refine z_callCi (pc := 442) (As := [.int (xs (n + 1))]) (rest := []) Z (kX8_back l (zX_C Z).2.2.2.2.2.2.2 F _ _ _ _ h1) kvL_48 rfl ⟨rfl, rfl, Nat.le_of_ble_eq_true rfl, Nat.le_of_ble_eq_true rfl⟩ rfl rfl (Nat.le_of_ble_eq_true rfl) dL_law_442 ?_
  refine z_aload_n (pc := 445) Z dL_law_445 rfl 2 rfl ?_
  refine z_aload_n (pc := 446) Z dL_law_446 rfl 0 rfl ?_
  refine z_iload_n (pc := 447) Z dL_law_447 rfl 3 rfl ?_
  refine z_iconst (pc := 448) (v := 1) Z dL_law_448 (by decide) ?_
  refine z_iadd (pc := 449) Z dL_law_449 ?_
  refine z_sld (pc := 450) Z (n + 1) (nI_add n 1) (by omega) (by omega) dL_law_450 ?_
  refine z_callMi (pc := 451) (As := [.int (xs (n + 1))]) (rest := [.int r]) Z (kX9_back l (zX_M Z).2.2.2.2.2.2.2 F _ _ _ _ h2) kvL_51 rfl ⟨rfl, rfl, Nat.le_of_ble_eq_true rfl, Nat.le_of_ble_eq_true rfl⟩ rfl rfl (Nat.le_of_ble_eq_true rfl) dL_law_451 ?_
  refine z_icmp_eq (pc := 454) Z 1473 dL_law_454 (by decide) ?_
  exact kk σc' σm' hR'
def zP_read (F : Nat) (Rel : xSt → xSt → Prop) : Prop := ∀ σc σm : xSt, Rel σc σm → ∀ (a1 : Int32), ∃ (r : Int32) (σc' σm' : xSt), mX8_read F a1 σc = some (r, σc') ∧ mX9_read F a1 σm = some (r, σm') ∧ Rel σc' σm'
set_option maxRecDepth 100000 in
set_option maxHeartbeats 4000000 in
theorem z_case_read {p : Program} {l : Launch} {e : Env} {s : State} {m : MethodId} {below : List Frame} {meth : Method} {c : Code} {D : va_G} {adC adM : Nat → Nat} {cI cZ cS : ClassId} {b L td cs sl : Nat} {xs : Nat → Int32} {σc σm : xSt} (Z : zX p s m meth c D adC adM cI cZ cS b L td cs sl xs) (F n : Nat) (Rel : xSt → xSt → Prop) (hO : zP_read F Rel) (hn : n + 6 ≤ L) (hL : L ≤ 384) (hR : Rel σc σm) (kk : ∀ σc' σm', Rel σc' σm' → zG p l e s m below meth c D adC adM cI cZ cS b cs sl σc' σm' 1473 [(0, .ref b), (1, .ref (adC 0)), (2, .ref (adM 0)), (3, .int (nI n))] []) : zG p l e s m below meth c D adC adM cI cZ cS b cs sl σc σm 459 [(0, .ref b), (1, .ref (adC 0)), (2, .ref (adM 0)), (3, .int (nI n))] [] := by
  obtain ⟨r, σc', σm', h1, h2, hR'⟩ := hO σc σm hR (xs (n + 1))
  refine z_aload_n (pc := 459) Z dL_law_459 rfl 1 rfl ?_
  refine z_aload_n (pc := 460) Z dL_law_460 rfl 0 rfl ?_
  refine z_iload_n (pc := 461) Z dL_law_461 rfl 3 rfl ?_
  refine z_iconst (pc := 462) (v := 1) Z dL_law_462 (by decide) ?_
  refine z_iadd (pc := 463) Z dL_law_463 ?_
  refine z_sld (pc := 464) Z (n + 1) (nI_add n 1) (by omega) (by omega) dL_law_464 ?_
  refine z_callCi (pc := 465) (As := [.int (xs (n + 1))]) (rest := []) Z (kX8_read l (zX_C Z).2.2.2.2.2.2.2 F _ _ _ _ h1) kvL_52 rfl ⟨rfl, rfl, Nat.le_of_ble_eq_true rfl, Nat.le_of_ble_eq_true rfl⟩ rfl rfl (Nat.le_of_ble_eq_true rfl) dL_law_465 ?_
  refine z_aload_n (pc := 468) Z dL_law_468 rfl 2 rfl ?_
  refine z_aload_n (pc := 469) Z dL_law_469 rfl 0 rfl ?_
  refine z_iload_n (pc := 470) Z dL_law_470 rfl 3 rfl ?_
  refine z_iconst (pc := 471) (v := 1) Z dL_law_471 (by decide) ?_
  refine z_iadd (pc := 472) Z dL_law_472 ?_
  refine z_sld (pc := 473) Z (n + 1) (nI_add n 1) (by omega) (by omega) dL_law_473 ?_
  refine z_callMi (pc := 474) (As := [.int (xs (n + 1))]) (rest := [.int r]) Z (kX9_read l (zX_M Z).2.2.2.2.2.2.2 F _ _ _ _ h2) kvL_55 rfl ⟨rfl, rfl, Nat.le_of_ble_eq_true rfl, Nat.le_of_ble_eq_true rfl⟩ rfl rfl (Nat.le_of_ble_eq_true rfl) dL_law_474 ?_
  refine z_icmp_eq (pc := 477) Z 1473 dL_law_477 (by decide) ?_
  exact kk σc' σm' hR'
def zP_layers (F : Nat) (Rel : xSt → xSt → Prop) : Prop := ∀ σc σm : xSt, Rel σc σm → ∀ (a1 a2 a3 : Int32), ∃ (r : Int32) (σc' σm' : xSt), mX8_layers F a1 a2 a3 σc = some (r, σc') ∧ mX9_layers F a1 a2 a3 σm = some (r, σm') ∧ Rel σc' σm'
set_option maxRecDepth 100000 in
set_option maxHeartbeats 4000000 in
theorem z_case_layers {p : Program} {l : Launch} {e : Env} {s : State} {m : MethodId} {below : List Frame} {meth : Method} {c : Code} {D : va_G} {adC adM : Nat → Nat} {cI cZ cS : ClassId} {b L td cs sl : Nat} {xs : Nat → Int32} {σc σm : xSt} (Z : zX p s m meth c D adC adM cI cZ cS b L td cs sl xs) (F n : Nat) (Rel : xSt → xSt → Prop) (hO : zP_layers F Rel) (hn : n + 6 ≤ L) (hL : L ≤ 384) (hR : Rel σc σm) (kk : ∀ σc' σm', Rel σc' σm' → zG p l e s m below meth c D adC adM cI cZ cS b cs sl σc' σm' 1473 [(0, .ref b), (1, .ref (adC 0)), (2, .ref (adM 0)), (3, .int (nI n))] []) : zG p l e s m below meth c D adC adM cI cZ cS b cs sl σc σm 482 [(0, .ref b), (1, .ref (adC 0)), (2, .ref (adM 0)), (3, .int (nI n))] [] := by
  obtain ⟨r, σc', σm', h1, h2, hR'⟩ := hO σc σm hR (xs (n + 1)) (xs (n + 2)) (xs (n + 3))
  refine z_aload_n (pc := 482) Z dL_law_482 rfl 1 rfl ?_
  refine z_aload_n (pc := 483) Z dL_law_483 rfl 0 rfl ?_
  refine z_iload_n (pc := 484) Z dL_law_484 rfl 3 rfl ?_
  refine z_iconst (pc := 485) (v := 1) Z dL_law_485 (by decide) ?_
  refine z_iadd (pc := 486) Z dL_law_486 ?_
  refine z_sld (pc := 487) Z (n + 1) (nI_add n 1) (by omega) (by omega) dL_law_487 ?_
  refine z_aload_n (pc := 488) Z dL_law_488 rfl 0 rfl ?_
  refine z_iload_n (pc := 489) Z dL_law_489 rfl 3 rfl ?_
  refine z_iconst (pc := 490) (v := 2) Z dL_law_490 (by decide) ?_
  refine z_iadd (pc := 491) Z dL_law_491 ?_
  refine z_sld (pc := 492) Z (n + 2) (nI_add n 2) (by omega) (by omega) dL_law_492 ?_
  refine z_aload_n (pc := 493) Z dL_law_493 rfl 0 rfl ?_
  refine z_iload_n (pc := 494) Z dL_law_494 rfl 3 rfl ?_
  refine z_iconst (pc := 495) (v := 3) Z dL_law_495 (by decide) ?_
  refine z_iadd (pc := 496) Z dL_law_496 ?_
  refine z_sld (pc := 497) Z (n + 3) (nI_add n 3) (by omega) (by omega) dL_law_497 ?_
  refine z_callCi (pc := 498) (As := [.int (xs (n + 1)), .int (xs (n + 2)), .int (xs (n + 3))]) (rest := []) Z (kX8_layers l (zX_C Z).2.2.2.2.2.2.2 F _ _ _ _ _ _ h1) kvL_56 rfl ⟨rfl, rfl, Nat.le_of_ble_eq_true rfl, Nat.le_of_ble_eq_true rfl⟩ rfl rfl (Nat.le_of_ble_eq_true rfl) dL_law_498 ?_
  refine z_aload_n (pc := 501) Z dL_law_501 rfl 2 rfl ?_
  refine z_aload_n (pc := 502) Z dL_law_502 rfl 0 rfl ?_
  refine z_iload_n (pc := 503) Z dL_law_503 rfl 3 rfl ?_
  refine z_iconst (pc := 504) (v := 1) Z dL_law_504 (by decide) ?_
  refine z_iadd (pc := 505) Z dL_law_505 ?_
  refine z_sld (pc := 506) Z (n + 1) (nI_add n 1) (by omega) (by omega) dL_law_506 ?_
  refine z_aload_n (pc := 507) Z dL_law_507 rfl 0 rfl ?_
  refine z_iload_n (pc := 508) Z dL_law_508 rfl 3 rfl ?_
  refine z_iconst (pc := 509) (v := 2) Z dL_law_509 (by decide) ?_
  refine z_iadd (pc := 510) Z dL_law_510 ?_
  refine z_sld (pc := 511) Z (n + 2) (nI_add n 2) (by omega) (by omega) dL_law_511 ?_
  refine z_aload_n (pc := 512) Z dL_law_512 rfl 0 rfl ?_
  refine z_iload_n (pc := 513) Z dL_law_513 rfl 3 rfl ?_
  refine z_iconst (pc := 514) (v := 3) Z dL_law_514 (by decide) ?_
  refine z_iadd (pc := 515) Z dL_law_515 ?_
  refine z_sld (pc := 516) Z (n + 3) (nI_add n 3) (by omega) (by omega) dL_law_516 ?_
  refine z_callMi (pc := 517) (As := [.int (xs (n + 1)), .int (xs (n + 2)), .int (xs (n + 3))]) (rest := [.int r]) Z (kX9_layers l (zX_M Z).2.2.2.2.2.2.2 F _ _ _ _ _ _ h2) kvL_59 rfl ⟨rfl, rfl, Nat.le_of_ble_eq_true rfl, Nat.le_of_ble_eq_true rfl⟩ rfl rfl (Nat.le_of_ble_eq_true rfl) dL_law_517 ?_
  refine z_icmp_eq (pc := 520) Z 1473 dL_law_520 (by decide) ?_
  exact kk σc' σm' hR'
def zP_strong (F : Nat) (Rel : xSt → xSt → Prop) : Prop := ∀ σc σm : xSt, Rel σc σm → ∀ (a1 a2 a3 : Int32), ∃ (r : Int32) (σc' σm' : xSt), mX8_strong F a1 a2 a3 σc = some (r, σc') ∧ mX9_strong F a1 a2 a3 σm = some (r, σm') ∧ Rel σc' σm'
set_option maxRecDepth 100000 in
set_option maxHeartbeats 4000000 in
theorem z_case_strong {p : Program} {l : Launch} {e : Env} {s : State} {m : MethodId} {below : List Frame} {meth : Method} {c : Code} {D : va_G} {adC adM : Nat → Nat} {cI cZ cS : ClassId} {b L td cs sl : Nat} {xs : Nat → Int32} {σc σm : xSt} (Z : zX p s m meth c D adC adM cI cZ cS b L td cs sl xs) (F n : Nat) (Rel : xSt → xSt → Prop) (hO : zP_strong F Rel) (hn : n + 6 ≤ L) (hL : L ≤ 384) (hR : Rel σc σm) (kk : ∀ σc' σm', Rel σc' σm' → zG p l e s m below meth c D adC adM cI cZ cS b cs sl σc' σm' 1473 [(0, .ref b), (1, .ref (adC 0)), (2, .ref (adM 0)), (3, .int (nI n))] []) : zG p l e s m below meth c D adC adM cI cZ cS b cs sl σc σm 525 [(0, .ref b), (1, .ref (adC 0)), (2, .ref (adM 0)), (3, .int (nI n))] [] := by
  obtain ⟨r, σc', σm', h1, h2, hR'⟩ := hO σc σm hR (xs (n + 1)) (xs (n + 2)) (xs (n + 3))
  refine z_aload_n (pc := 525) Z dL_law_525 rfl 1 rfl ?_
  refine z_aload_n (pc := 526) Z dL_law_526 rfl 0 rfl ?_
  refine z_iload_n (pc := 527) Z dL_law_527 rfl 3 rfl ?_
  refine z_iconst (pc := 528) (v := 1) Z dL_law_528 (by decide) ?_
  refine z_iadd (pc := 529) Z dL_law_529 ?_
  refine z_sld (pc := 530) Z (n + 1) (nI_add n 1) (by omega) (by omega) dL_law_530 ?_
  refine z_aload_n (pc := 531) Z dL_law_531 rfl 0 rfl ?_
  refine z_iload_n (pc := 532) Z dL_law_532 rfl 3 rfl ?_
  refine z_iconst (pc := 533) (v := 2) Z dL_law_533 (by decide) ?_
  refine z_iadd (pc := 534) Z dL_law_534 ?_
  refine z_sld (pc := 535) Z (n + 2) (nI_add n 2) (by omega) (by omega) dL_law_535 ?_
  refine z_aload_n (pc := 536) Z dL_law_536 rfl 0 rfl ?_
  refine z_iload_n (pc := 537) Z dL_law_537 rfl 3 rfl ?_
  refine z_iconst (pc := 538) (v := 3) Z dL_law_538 (by decide) ?_
  refine z_iadd (pc := 539) Z dL_law_539 ?_
  refine z_sld (pc := 540) Z (n + 3) (nI_add n 3) (by omega) (by omega) dL_law_540 ?_
  refine z_callCi (pc := 541) (As := [.int (xs (n + 1)), .int (xs (n + 2)), .int (xs (n + 3))]) (rest := []) Z (kX8_strong l (zX_C Z).2.2.2.2.2.2.2 F _ _ _ _ _ _ h1) kvL_60 rfl ⟨rfl, rfl, Nat.le_of_ble_eq_true rfl, Nat.le_of_ble_eq_true rfl⟩ rfl rfl (Nat.le_of_ble_eq_true rfl) dL_law_541 ?_
  refine z_aload_n (pc := 544) Z dL_law_544 rfl 2 rfl ?_
  refine z_aload_n (pc := 545) Z dL_law_545 rfl 0 rfl ?_
  refine z_iload_n (pc := 546) Z dL_law_546 rfl 3 rfl ?_
  refine z_iconst (pc := 547) (v := 1) Z dL_law_547 (by decide) ?_
  refine z_iadd (pc := 548) Z dL_law_548 ?_
  refine z_sld (pc := 549) Z (n + 1) (nI_add n 1) (by omega) (by omega) dL_law_549 ?_
  refine z_aload_n (pc := 550) Z dL_law_550 rfl 0 rfl ?_
  refine z_iload_n (pc := 551) Z dL_law_551 rfl 3 rfl ?_
  refine z_iconst (pc := 552) (v := 2) Z dL_law_552 (by decide) ?_
  refine z_iadd (pc := 553) Z dL_law_553 ?_
  refine z_sld (pc := 554) Z (n + 2) (nI_add n 2) (by omega) (by omega) dL_law_554 ?_
  refine z_aload_n (pc := 555) Z dL_law_555 rfl 0 rfl ?_
  refine z_iload_n (pc := 556) Z dL_law_556 rfl 3 rfl ?_
  refine z_iconst (pc := 557) (v := 3) Z dL_law_557 (by decide) ?_
  refine z_iadd (pc := 558) Z dL_law_558 ?_
  refine z_sld (pc := 559) Z (n + 3) (nI_add n 3) (by omega) (by omega) dL_law_559 ?_
  refine z_callMi (pc := 560) (As := [.int (xs (n + 1)), .int (xs (n + 2)), .int (xs (n + 3))]) (rest := [.int r]) Z (kX9_strong l (zX_M Z).2.2.2.2.2.2.2 F _ _ _ _ _ _ h2) kvL_63 rfl ⟨rfl, rfl, Nat.le_of_ble_eq_true rfl, Nat.le_of_ble_eq_true rfl⟩ rfl rfl (Nat.le_of_ble_eq_true rfl) dL_law_560 ?_
  refine z_icmp_eq (pc := 563) Z 1473 dL_law_563 (by decide) ?_
  exact kk σc' σm' hR'
def zP_tells (F : Nat) (Rel : xSt → xSt → Prop) : Prop := ∀ σc σm : xSt, Rel σc σm → ∀ (a1 a2 : Int32), ∃ (r : Int32) (σc' σm' : xSt), mX8_tells F a1 a2 σc = some (r, σc') ∧ mX9_tells F a1 a2 σm = some (r, σm') ∧ Rel σc' σm'
set_option maxRecDepth 100000 in
set_option maxHeartbeats 4000000 in
theorem z_case_tells {p : Program} {l : Launch} {e : Env} {s : State} {m : MethodId} {below : List Frame} {meth : Method} {c : Code} {D : va_G} {adC adM : Nat → Nat} {cI cZ cS : ClassId} {b L td cs sl : Nat} {xs : Nat → Int32} {σc σm : xSt} (Z : zX p s m meth c D adC adM cI cZ cS b L td cs sl xs) (F n : Nat) (Rel : xSt → xSt → Prop) (hO : zP_tells F Rel) (hn : n + 6 ≤ L) (hL : L ≤ 384) (hR : Rel σc σm) (kk : ∀ σc' σm', Rel σc' σm' → zG p l e s m below meth c D adC adM cI cZ cS b cs sl σc' σm' 1473 [(0, .ref b), (1, .ref (adC 0)), (2, .ref (adM 0)), (3, .int (nI n))] []) : zG p l e s m below meth c D adC adM cI cZ cS b cs sl σc σm 568 [(0, .ref b), (1, .ref (adC 0)), (2, .ref (adM 0)), (3, .int (nI n))] [] := by
  obtain ⟨r, σc', σm', h1, h2, hR'⟩ := hO σc σm hR (xs (n + 1)) (xs (n + 2))
  refine z_aload_n (pc := 568) Z dL_law_568 rfl 1 rfl ?_
  refine z_aload_n (pc := 569) Z dL_law_569 rfl 0 rfl ?_
  refine z_iload_n (pc := 570) Z dL_law_570 rfl 3 rfl ?_
  refine z_iconst (pc := 571) (v := 1) Z dL_law_571 (by decide) ?_
  refine z_iadd (pc := 572) Z dL_law_572 ?_
  refine z_sld (pc := 573) Z (n + 1) (nI_add n 1) (by omega) (by omega) dL_law_573 ?_
  refine z_aload_n (pc := 574) Z dL_law_574 rfl 0 rfl ?_
  refine z_iload_n (pc := 575) Z dL_law_575 rfl 3 rfl ?_
  refine z_iconst (pc := 576) (v := 2) Z dL_law_576 (by decide) ?_
  refine z_iadd (pc := 577) Z dL_law_577 ?_
  refine z_sld (pc := 578) Z (n + 2) (nI_add n 2) (by omega) (by omega) dL_law_578 ?_
  refine z_callCi (pc := 579) (As := [.int (xs (n + 1)), .int (xs (n + 2))]) (rest := []) Z (kX8_tells l (zX_C Z).2.2.2.2.2.2.2 F _ _ _ _ _ h1) kvL_64 rfl ⟨rfl, rfl, Nat.le_of_ble_eq_true rfl, Nat.le_of_ble_eq_true rfl⟩ rfl rfl (Nat.le_of_ble_eq_true rfl) dL_law_579 ?_
  refine z_aload_n (pc := 582) Z dL_law_582 rfl 2 rfl ?_
  refine z_aload_n (pc := 583) Z dL_law_583 rfl 0 rfl ?_
  refine z_iload_n (pc := 584) Z dL_law_584 rfl 3 rfl ?_
  refine z_iconst (pc := 585) (v := 1) Z dL_law_585 (by decide) ?_
  refine z_iadd (pc := 586) Z dL_law_586 ?_
  refine z_sld (pc := 587) Z (n + 1) (nI_add n 1) (by omega) (by omega) dL_law_587 ?_
  refine z_aload_n (pc := 588) Z dL_law_588 rfl 0 rfl ?_
  refine z_iload_n (pc := 589) Z dL_law_589 rfl 3 rfl ?_
  refine z_iconst (pc := 590) (v := 2) Z dL_law_590 (by decide) ?_
  refine z_iadd (pc := 591) Z dL_law_591 ?_
  refine z_sld (pc := 592) Z (n + 2) (nI_add n 2) (by omega) (by omega) dL_law_592 ?_
  refine z_callMi (pc := 593) (As := [.int (xs (n + 1)), .int (xs (n + 2))]) (rest := [.int r]) Z (kX9_tells l (zX_M Z).2.2.2.2.2.2.2 F _ _ _ _ _ h2) kvL_67 rfl ⟨rfl, rfl, Nat.le_of_ble_eq_true rfl, Nat.le_of_ble_eq_true rfl⟩ rfl rfl (Nat.le_of_ble_eq_true rfl) dL_law_593 ?_
  refine z_icmp_eq (pc := 596) Z 1473 dL_law_596 (by decide) ?_
  exact kk σc' σm' hR'
def zP_nowhere (F : Nat) (Rel : xSt → xSt → Prop) : Prop := ∀ σc σm : xSt, Rel σc σm → ∀ (a1 : Int32), ∃ (r : Int32) (σc' σm' : xSt), mX8_nowhere F a1 σc = some (r, σc') ∧ mX9_nowhere F a1 σm = some (r, σm') ∧ Rel σc' σm'
set_option maxRecDepth 100000 in
set_option maxHeartbeats 4000000 in
theorem z_case_nowhere {p : Program} {l : Launch} {e : Env} {s : State} {m : MethodId} {below : List Frame} {meth : Method} {c : Code} {D : va_G} {adC adM : Nat → Nat} {cI cZ cS : ClassId} {b L td cs sl : Nat} {xs : Nat → Int32} {σc σm : xSt} (Z : zX p s m meth c D adC adM cI cZ cS b L td cs sl xs) (F n : Nat) (Rel : xSt → xSt → Prop) (hO : zP_nowhere F Rel) (hn : n + 6 ≤ L) (hL : L ≤ 384) (hR : Rel σc σm) (kk : ∀ σc' σm', Rel σc' σm' → zG p l e s m below meth c D adC adM cI cZ cS b cs sl σc' σm' 1473 [(0, .ref b), (1, .ref (adC 0)), (2, .ref (adM 0)), (3, .int (nI n))] []) : zG p l e s m below meth c D adC adM cI cZ cS b cs sl σc σm 601 [(0, .ref b), (1, .ref (adC 0)), (2, .ref (adM 0)), (3, .int (nI n))] [] := by
  obtain ⟨r, σc', σm', h1, h2, hR'⟩ := hO σc σm hR (xs (n + 1))
  refine z_aload_n (pc := 601) Z dL_law_601 rfl 1 rfl ?_
  refine z_aload_n (pc := 602) Z dL_law_602 rfl 0 rfl ?_
  refine z_iload_n (pc := 603) Z dL_law_603 rfl 3 rfl ?_
  refine z_iconst (pc := 604) (v := 1) Z dL_law_604 (by decide) ?_
  refine z_iadd (pc := 605) Z dL_law_605 ?_
  refine z_sld (pc := 606) Z (n + 1) (nI_add n 1) (by omega) (by omega) dL_law_606 ?_
  refine z_callCi (pc := 607) (As := [.int (xs (n + 1))]) (rest := []) Z (kX8_nowhere l (zX_C Z).2.2.2.2.2.2.2 F _ _ _ _ h1) kvL_68 rfl ⟨rfl, rfl, Nat.le_of_ble_eq_true rfl, Nat.le_of_ble_eq_true rfl⟩ rfl rfl (Nat.le_of_ble_eq_true rfl) dL_law_607 ?_
  refine z_aload_n (pc := 610) Z dL_law_610 rfl 2 rfl ?_
  refine z_aload_n (pc := 611) Z dL_law_611 rfl 0 rfl ?_
  refine z_iload_n (pc := 612) Z dL_law_612 rfl 3 rfl ?_
  refine z_iconst (pc := 613) (v := 1) Z dL_law_613 (by decide) ?_
  refine z_iadd (pc := 614) Z dL_law_614 ?_
  refine z_sld (pc := 615) Z (n + 1) (nI_add n 1) (by omega) (by omega) dL_law_615 ?_
  refine z_callMi (pc := 616) (As := [.int (xs (n + 1))]) (rest := [.int r]) Z (kX9_nowhere l (zX_M Z).2.2.2.2.2.2.2 F _ _ _ _ h2) kvL_71 rfl ⟨rfl, rfl, Nat.le_of_ble_eq_true rfl, Nat.le_of_ble_eq_true rfl⟩ rfl rfl (Nat.le_of_ble_eq_true rfl) dL_law_616 ?_
  refine z_icmp_eq (pc := 619) Z 1473 dL_law_619 (by decide) ?_
  exact kk σc' σm' hR'
def zP_last (F : Nat) (Rel : xSt → xSt → Prop) : Prop := ∀ σc σm : xSt, Rel σc σm → ∀ (a1 a2 : Int32), ∃ (r : Int32) (σc' σm' : xSt), mX8_last F a1 a2 σc = some (r, σc') ∧ mX9_last F a1 a2 σm = some (r, σm') ∧ Rel σc' σm'
set_option maxRecDepth 100000 in
set_option maxHeartbeats 4000000 in
theorem z_case_last {p : Program} {l : Launch} {e : Env} {s : State} {m : MethodId} {below : List Frame} {meth : Method} {c : Code} {D : va_G} {adC adM : Nat → Nat} {cI cZ cS : ClassId} {b L td cs sl : Nat} {xs : Nat → Int32} {σc σm : xSt} (Z : zX p s m meth c D adC adM cI cZ cS b L td cs sl xs) (F n : Nat) (Rel : xSt → xSt → Prop) (hO : zP_last F Rel) (hn : n + 6 ≤ L) (hL : L ≤ 384) (hR : Rel σc σm) (kk : ∀ σc' σm', Rel σc' σm' → zG p l e s m below meth c D adC adM cI cZ cS b cs sl σc' σm' 1473 [(0, .ref b), (1, .ref (adC 0)), (2, .ref (adM 0)), (3, .int (nI n))] []) : zG p l e s m below meth c D adC adM cI cZ cS b cs sl σc σm 624 [(0, .ref b), (1, .ref (adC 0)), (2, .ref (adM 0)), (3, .int (nI n))] [] := by
  obtain ⟨r, σc', σm', h1, h2, hR'⟩ := hO σc σm hR (xs (n + 1)) (xs (n + 2))
  refine z_aload_n (pc := 624) Z dL_law_624 rfl 1 rfl ?_
  refine z_aload_n (pc := 625) Z dL_law_625 rfl 0 rfl ?_
  refine z_iload_n (pc := 626) Z dL_law_626 rfl 3 rfl ?_
  refine z_iconst (pc := 627) (v := 1) Z dL_law_627 (by decide) ?_
  refine z_iadd (pc := 628) Z dL_law_628 ?_
  refine z_sld (pc := 629) Z (n + 1) (nI_add n 1) (by omega) (by omega) dL_law_629 ?_
  refine z_aload_n (pc := 630) Z dL_law_630 rfl 0 rfl ?_
  refine z_iload_n (pc := 631) Z dL_law_631 rfl 3 rfl ?_
  refine z_iconst (pc := 632) (v := 2) Z dL_law_632 (by decide) ?_
  refine z_iadd (pc := 633) Z dL_law_633 ?_
  refine z_sld (pc := 634) Z (n + 2) (nI_add n 2) (by omega) (by omega) dL_law_634 ?_
  refine z_callCi (pc := 635) (As := [.int (xs (n + 1)), .int (xs (n + 2))]) (rest := []) Z (kX8_last l (zX_C Z).2.2.2.2.2.2.2 F _ _ _ _ _ h1) kvL_72 rfl ⟨rfl, rfl, Nat.le_of_ble_eq_true rfl, Nat.le_of_ble_eq_true rfl⟩ rfl rfl (Nat.le_of_ble_eq_true rfl) dL_law_635 ?_
  refine z_aload_n (pc := 638) Z dL_law_638 rfl 2 rfl ?_
  refine z_aload_n (pc := 639) Z dL_law_639 rfl 0 rfl ?_
  refine z_iload_n (pc := 640) Z dL_law_640 rfl 3 rfl ?_
  refine z_iconst (pc := 641) (v := 1) Z dL_law_641 (by decide) ?_
  refine z_iadd (pc := 642) Z dL_law_642 ?_
  refine z_sld (pc := 643) Z (n + 1) (nI_add n 1) (by omega) (by omega) dL_law_643 ?_
  refine z_aload_n (pc := 644) Z dL_law_644 rfl 0 rfl ?_
  refine z_iload_n (pc := 645) Z dL_law_645 rfl 3 rfl ?_
  refine z_iconst (pc := 646) (v := 2) Z dL_law_646 (by decide) ?_
  refine z_iadd (pc := 647) Z dL_law_647 ?_
  refine z_sld (pc := 648) Z (n + 2) (nI_add n 2) (by omega) (by omega) dL_law_648 ?_
  refine z_callMi (pc := 649) (As := [.int (xs (n + 1)), .int (xs (n + 2))]) (rest := [.int r]) Z (kX9_last l (zX_M Z).2.2.2.2.2.2.2 F _ _ _ _ _ h2) kvL_75 rfl ⟨rfl, rfl, Nat.le_of_ble_eq_true rfl, Nat.le_of_ble_eq_true rfl⟩ rfl rfl (Nat.le_of_ble_eq_true rfl) dL_law_649 ?_
  refine z_icmp_eq (pc := 652) Z 1473 dL_law_652 (by decide) ?_
  exact kk σc' σm' hR'
def zP_together (F : Nat) (Rel : xSt → xSt → Prop) : Prop := ∀ σc σm : xSt, Rel σc σm → ∀ (a1 : Int32), ∃ (r : Int32) (σc' σm' : xSt), mX8_together F a1 σc = some (r, σc') ∧ mX9_together F a1 σm = some (r, σm') ∧ Rel σc' σm'
set_option maxRecDepth 100000 in
set_option maxHeartbeats 4000000 in
theorem z_case_together {p : Program} {l : Launch} {e : Env} {s : State} {m : MethodId} {below : List Frame} {meth : Method} {c : Code} {D : va_G} {adC adM : Nat → Nat} {cI cZ cS : ClassId} {b L td cs sl : Nat} {xs : Nat → Int32} {σc σm : xSt} (Z : zX p s m meth c D adC adM cI cZ cS b L td cs sl xs) (F n : Nat) (Rel : xSt → xSt → Prop) (hO : zP_together F Rel) (hn : n + 6 ≤ L) (hL : L ≤ 384) (hR : Rel σc σm) (kk : ∀ σc' σm', Rel σc' σm' → zG p l e s m below meth c D adC adM cI cZ cS b cs sl σc' σm' 1473 [(0, .ref b), (1, .ref (adC 0)), (2, .ref (adM 0)), (3, .int (nI n))] []) : zG p l e s m below meth c D adC adM cI cZ cS b cs sl σc σm 657 [(0, .ref b), (1, .ref (adC 0)), (2, .ref (adM 0)), (3, .int (nI n))] [] := by
  obtain ⟨r, σc', σm', h1, h2, hR'⟩ := hO σc σm hR (xs (n + 1))
  refine z_aload_n (pc := 657) Z dL_law_657 rfl 1 rfl ?_
  refine z_aload_n (pc := 658) Z dL_law_658 rfl 0 rfl ?_
  refine z_iload_n (pc := 659) Z dL_law_659 rfl 3 rfl ?_
  refine z_iconst (pc := 660) (v := 1) Z dL_law_660 (by decide) ?_
  refine z_iadd (pc := 661) Z dL_law_661 ?_
  refine z_sld (pc := 662) Z (n + 1) (nI_add n 1) (by omega) (by omega) dL_law_662 ?_
  refine z_callCi (pc := 663) (As := [.int (xs (n + 1))]) (rest := []) Z (kX8_together l (zX_C Z).2.2.2.2.2.2.2 F _ _ _ _ h1) kvL_76 rfl ⟨rfl, rfl, Nat.le_of_ble_eq_true rfl, Nat.le_of_ble_eq_true rfl⟩ rfl rfl (Nat.le_of_ble_eq_true rfl) dL_law_663 ?_
  refine z_aload_n (pc := 666) Z dL_law_666 rfl 2 rfl ?_
  refine z_aload_n (pc := 667) Z dL_law_667 rfl 0 rfl ?_
  refine z_iload_n (pc := 668) Z dL_law_668 rfl 3 rfl ?_
  refine z_iconst (pc := 669) (v := 1) Z dL_law_669 (by decide) ?_
  refine z_iadd (pc := 670) Z dL_law_670 ?_
  refine z_sld (pc := 671) Z (n + 1) (nI_add n 1) (by omega) (by omega) dL_law_671 ?_
  refine z_callMi (pc := 672) (As := [.int (xs (n + 1))]) (rest := [.int r]) Z (kX9_together l (zX_M Z).2.2.2.2.2.2.2 F _ _ _ _ h2) kvL_79 rfl ⟨rfl, rfl, Nat.le_of_ble_eq_true rfl, Nat.le_of_ble_eq_true rfl⟩ rfl rfl (Nat.le_of_ble_eq_true rfl) dL_law_672 ?_
  refine z_icmp_eq (pc := 675) Z 1473 dL_law_675 (by decide) ?_
  exact kk σc' σm' hR'
def zP_hide (F : Nat) (Rel : xSt → xSt → Prop) : Prop := ∀ σc σm : xSt, Rel σc σm → ∀ (a1 a2 a3 a4 : Int32), ∃ (r : Int32) (σc' σm' : xSt), mX8_hide F a1 a2 a3 a4 σc = some (r, σc') ∧ mX9_hide F a1 a2 a3 a4 σm = some (r, σm') ∧ Rel σc' σm'
set_option maxRecDepth 100000 in
set_option maxHeartbeats 4000000 in
theorem z_case_hide {p : Program} {l : Launch} {e : Env} {s : State} {m : MethodId} {below : List Frame} {meth : Method} {c : Code} {D : va_G} {adC adM : Nat → Nat} {cI cZ cS : ClassId} {b L td cs sl : Nat} {xs : Nat → Int32} {σc σm : xSt} (Z : zX p s m meth c D adC adM cI cZ cS b L td cs sl xs) (F n : Nat) (Rel : xSt → xSt → Prop) (hO : zP_hide F Rel) (hn : n + 6 ≤ L) (hL : L ≤ 384) (hR : Rel σc σm) (kk : ∀ σc' σm', Rel σc' σm' → zG p l e s m below meth c D adC adM cI cZ cS b cs sl σc' σm' 1473 [(0, .ref b), (1, .ref (adC 0)), (2, .ref (adM 0)), (3, .int (nI n))] []) : zG p l e s m below meth c D adC adM cI cZ cS b cs sl σc σm 680 [(0, .ref b), (1, .ref (adC 0)), (2, .ref (adM 0)), (3, .int (nI n))] [] := by
  obtain ⟨r, σc', σm', h1, h2, hR'⟩ := hO σc σm hR (xs (n + 1)) (xs (n + 2)) (xs (n + 3)) (xs (n + 4))
  refine z_aload_n (pc := 680) Z dL_law_680 rfl 1 rfl ?_
  refine z_aload_n (pc := 681) Z dL_law_681 rfl 0 rfl ?_
  refine z_iload_n (pc := 682) Z dL_law_682 rfl 3 rfl ?_
  refine z_iconst (pc := 683) (v := 1) Z dL_law_683 (by decide) ?_
  refine z_iadd (pc := 684) Z dL_law_684 ?_
  refine z_sld (pc := 685) Z (n + 1) (nI_add n 1) (by omega) (by omega) dL_law_685 ?_
  refine z_aload_n (pc := 686) Z dL_law_686 rfl 0 rfl ?_
  refine z_iload_n (pc := 687) Z dL_law_687 rfl 3 rfl ?_
  refine z_iconst (pc := 688) (v := 2) Z dL_law_688 (by decide) ?_
  refine z_iadd (pc := 689) Z dL_law_689 ?_
  refine z_sld (pc := 690) Z (n + 2) (nI_add n 2) (by omega) (by omega) dL_law_690 ?_
  refine z_aload_n (pc := 691) Z dL_law_691 rfl 0 rfl ?_
  refine z_iload_n (pc := 692) Z dL_law_692 rfl 3 rfl ?_
  refine z_iconst (pc := 693) (v := 3) Z dL_law_693 (by decide) ?_
  refine z_iadd (pc := 694) Z dL_law_694 ?_
  refine z_sld (pc := 695) Z (n + 3) (nI_add n 3) (by omega) (by omega) dL_law_695 ?_
  refine z_aload_n (pc := 696) Z dL_law_696 rfl 0 rfl ?_
  refine z_iload_n (pc := 697) Z dL_law_697 rfl 3 rfl ?_
  refine z_iconst (pc := 698) (v := 4) Z dL_law_698 (by decide) ?_
  refine z_iadd (pc := 699) Z dL_law_699 ?_
  refine z_sld (pc := 700) Z (n + 4) (nI_add n 4) (by omega) (by omega) dL_law_700 ?_
  refine z_callCi (pc := 701) (As := [.int (xs (n + 1)), .int (xs (n + 2)), .int (xs (n + 3)), .int (xs (n + 4))]) (rest := []) Z (kX8_hide l (zX_C Z).2.2.2.2.2.2.2 F _ _ _ _ _ _ _ h1) kvL_80 rfl ⟨rfl, rfl, Nat.le_of_ble_eq_true rfl, Nat.le_of_ble_eq_true rfl⟩ rfl rfl (Nat.le_of_ble_eq_true rfl) dL_law_701 ?_
  refine z_aload_n (pc := 704) Z dL_law_704 rfl 2 rfl ?_
  refine z_aload_n (pc := 705) Z dL_law_705 rfl 0 rfl ?_
  refine z_iload_n (pc := 706) Z dL_law_706 rfl 3 rfl ?_
  refine z_iconst (pc := 707) (v := 1) Z dL_law_707 (by decide) ?_
  refine z_iadd (pc := 708) Z dL_law_708 ?_
  refine z_sld (pc := 709) Z (n + 1) (nI_add n 1) (by omega) (by omega) dL_law_709 ?_
  refine z_aload_n (pc := 710) Z dL_law_710 rfl 0 rfl ?_
  refine z_iload_n (pc := 711) Z dL_law_711 rfl 3 rfl ?_
  refine z_iconst (pc := 712) (v := 2) Z dL_law_712 (by decide) ?_
  refine z_iadd (pc := 713) Z dL_law_713 ?_
  refine z_sld (pc := 714) Z (n + 2) (nI_add n 2) (by omega) (by omega) dL_law_714 ?_
  refine z_aload_n (pc := 715) Z dL_law_715 rfl 0 rfl ?_
  refine z_iload_n (pc := 716) Z dL_law_716 rfl 3 rfl ?_
  refine z_iconst (pc := 717) (v := 3) Z dL_law_717 (by decide) ?_
  refine z_iadd (pc := 718) Z dL_law_718 ?_
  refine z_sld (pc := 719) Z (n + 3) (nI_add n 3) (by omega) (by omega) dL_law_719 ?_
  refine z_aload_n (pc := 720) Z dL_law_720 rfl 0 rfl ?_
  refine z_iload_n (pc := 721) Z dL_law_721 rfl 3 rfl ?_
  refine z_iconst (pc := 722) (v := 4) Z dL_law_722 (by decide) ?_
  refine z_iadd (pc := 723) Z dL_law_723 ?_
  refine z_sld (pc := 724) Z (n + 4) (nI_add n 4) (by omega) (by omega) dL_law_724 ?_
  refine z_callMi (pc := 725) (As := [.int (xs (n + 1)), .int (xs (n + 2)), .int (xs (n + 3)), .int (xs (n + 4))]) (rest := [.int r]) Z (kX9_hide l (zX_M Z).2.2.2.2.2.2.2 F _ _ _ _ _ _ _ h2) kvL_84 rfl ⟨rfl, rfl, Nat.le_of_ble_eq_true rfl, Nat.le_of_ble_eq_true rfl⟩ rfl rfl (Nat.le_of_ble_eq_true rfl) dL_law_725 ?_
  refine z_icmp_eq (pc := 728) Z 1473 dL_law_728 (by decide) ?_
  exact kk σc' σm' hR'
def zP_frame (F : Nat) (Rel : xSt → xSt → Prop) : Prop := ∀ σc σm : xSt, Rel σc σm → ∀ (a1 a2 a3 a4 a5 : Int32), ∃ (r : Int32) (σc' σm' : xSt), mX8_frame F a1 a2 a3 a4 a5 σc = some (r, σc') ∧ mX9_frame F a1 a2 a3 a4 a5 σm = some (r, σm') ∧ Rel σc' σm'
set_option maxRecDepth 100000 in
set_option maxHeartbeats 4000000 in
theorem z_case_frame {p : Program} {l : Launch} {e : Env} {s : State} {m : MethodId} {below : List Frame} {meth : Method} {c : Code} {D : va_G} {adC adM : Nat → Nat} {cI cZ cS : ClassId} {b L td cs sl : Nat} {xs : Nat → Int32} {σc σm : xSt} (Z : zX p s m meth c D adC adM cI cZ cS b L td cs sl xs) (F n : Nat) (Rel : xSt → xSt → Prop) (hO : zP_frame F Rel) (hn : n + 6 ≤ L) (hL : L ≤ 384) (hR : Rel σc σm) (kk : ∀ σc' σm', Rel σc' σm' → zG p l e s m below meth c D adC adM cI cZ cS b cs sl σc' σm' 1473 [(0, .ref b), (1, .ref (adC 0)), (2, .ref (adM 0)), (3, .int (nI n))] []) : zG p l e s m below meth c D adC adM cI cZ cS b cs sl σc σm 733 [(0, .ref b), (1, .ref (adC 0)), (2, .ref (adM 0)), (3, .int (nI n))] [] := by
  obtain ⟨r, σc', σm', h1, h2, hR'⟩ := hO σc σm hR (xs (n + 1)) (xs (n + 2)) (xs (n + 3)) (xs (n + 4)) (xs (n + 5))
  refine z_aload_n (pc := 733) Z dL_law_733 rfl 1 rfl ?_
  refine z_aload_n (pc := 734) Z dL_law_734 rfl 0 rfl ?_
  refine z_iload_n (pc := 735) Z dL_law_735 rfl 3 rfl ?_
  refine z_iconst (pc := 736) (v := 1) Z dL_law_736 (by decide) ?_
  refine z_iadd (pc := 737) Z dL_law_737 ?_
  refine z_sld (pc := 738) Z (n + 1) (nI_add n 1) (by omega) (by omega) dL_law_738 ?_
  refine z_aload_n (pc := 739) Z dL_law_739 rfl 0 rfl ?_
  refine z_iload_n (pc := 740) Z dL_law_740 rfl 3 rfl ?_
  refine z_iconst (pc := 741) (v := 2) Z dL_law_741 (by decide) ?_
  refine z_iadd (pc := 742) Z dL_law_742 ?_
  refine z_sld (pc := 743) Z (n + 2) (nI_add n 2) (by omega) (by omega) dL_law_743 ?_
  refine z_aload_n (pc := 744) Z dL_law_744 rfl 0 rfl ?_
  refine z_iload_n (pc := 745) Z dL_law_745 rfl 3 rfl ?_
  refine z_iconst (pc := 746) (v := 3) Z dL_law_746 (by decide) ?_
  refine z_iadd (pc := 747) Z dL_law_747 ?_
  refine z_sld (pc := 748) Z (n + 3) (nI_add n 3) (by omega) (by omega) dL_law_748 ?_
  refine z_aload_n (pc := 749) Z dL_law_749 rfl 0 rfl ?_
  refine z_iload_n (pc := 750) Z dL_law_750 rfl 3 rfl ?_
  refine z_iconst (pc := 751) (v := 4) Z dL_law_751 (by decide) ?_
  refine z_iadd (pc := 752) Z dL_law_752 ?_
  refine z_sld (pc := 753) Z (n + 4) (nI_add n 4) (by omega) (by omega) dL_law_753 ?_
  refine z_aload_n (pc := 754) Z dL_law_754 rfl 0 rfl ?_
  refine z_iload_n (pc := 755) Z dL_law_755 rfl 3 rfl ?_
  refine z_iconst (pc := 756) (v := 5) Z dL_law_756 (by decide) ?_
  refine z_iadd (pc := 757) Z dL_law_757 ?_
  refine z_sld (pc := 758) Z (n + 5) (nI_add n 5) (by omega) (by omega) dL_law_758 ?_
  refine z_callCi (pc := 759) (As := [.int (xs (n + 1)), .int (xs (n + 2)), .int (xs (n + 3)), .int (xs (n + 4)), .int (xs (n + 5))]) (rest := []) Z (kX8_frame l (zX_C Z).2.2.2.2.2.2.2 F _ _ _ _ _ _ _ _ h1) kvL_85 rfl ⟨rfl, rfl, Nat.le_of_ble_eq_true rfl, Nat.le_of_ble_eq_true rfl⟩ rfl rfl (Nat.le_of_ble_eq_true rfl) dL_law_759 ?_
  refine z_aload_n (pc := 762) Z dL_law_762 rfl 2 rfl ?_
  refine z_aload_n (pc := 763) Z dL_law_763 rfl 0 rfl ?_
  refine z_iload_n (pc := 764) Z dL_law_764 rfl 3 rfl ?_
  refine z_iconst (pc := 765) (v := 1) Z dL_law_765 (by decide) ?_
  refine z_iadd (pc := 766) Z dL_law_766 ?_
  refine z_sld (pc := 767) Z (n + 1) (nI_add n 1) (by omega) (by omega) dL_law_767 ?_
  refine z_aload_n (pc := 768) Z dL_law_768 rfl 0 rfl ?_
  refine z_iload_n (pc := 769) Z dL_law_769 rfl 3 rfl ?_
  refine z_iconst (pc := 770) (v := 2) Z dL_law_770 (by decide) ?_
  refine z_iadd (pc := 771) Z dL_law_771 ?_
  refine z_sld (pc := 772) Z (n + 2) (nI_add n 2) (by omega) (by omega) dL_law_772 ?_
  refine z_aload_n (pc := 773) Z dL_law_773 rfl 0 rfl ?_
  refine z_iload_n (pc := 774) Z dL_law_774 rfl 3 rfl ?_
  refine z_iconst (pc := 775) (v := 3) Z dL_law_775 (by decide) ?_
  refine z_iadd (pc := 776) Z dL_law_776 ?_
  refine z_sld (pc := 777) Z (n + 3) (nI_add n 3) (by omega) (by omega) dL_law_777 ?_
  refine z_aload_n (pc := 778) Z dL_law_778 rfl 0 rfl ?_
  refine z_iload_n (pc := 779) Z dL_law_779 rfl 3 rfl ?_
  refine z_iconst (pc := 780) (v := 4) Z dL_law_780 (by decide) ?_
  refine z_iadd (pc := 781) Z dL_law_781 ?_
  refine z_sld (pc := 782) Z (n + 4) (nI_add n 4) (by omega) (by omega) dL_law_782 ?_
  refine z_aload_n (pc := 783) Z dL_law_783 rfl 0 rfl ?_
  refine z_iload_n (pc := 784) Z dL_law_784 rfl 3 rfl ?_
  refine z_iconst (pc := 785) (v := 5) Z dL_law_785 (by decide) ?_
  refine z_iadd (pc := 786) Z dL_law_786 ?_
  refine z_sld (pc := 787) Z (n + 5) (nI_add n 5) (by omega) (by omega) dL_law_787 ?_
  refine z_callMi (pc := 788) (As := [.int (xs (n + 1)), .int (xs (n + 2)), .int (xs (n + 3)), .int (xs (n + 4)), .int (xs (n + 5))]) (rest := [.int r]) Z (kX9_frame l (zX_M Z).2.2.2.2.2.2.2 F _ _ _ _ _ _ _ _ h2) kvL_89 rfl ⟨rfl, rfl, Nat.le_of_ble_eq_true rfl, Nat.le_of_ble_eq_true rfl⟩ rfl rfl (Nat.le_of_ble_eq_true rfl) dL_law_788 ?_
  refine z_icmp_eq (pc := 791) Z 1473 dL_law_791 (by decide) ?_
  exact kk σc' σm' hR'
def zP_air (F : Nat) (Rel : xSt → xSt → Prop) : Prop := ∀ σc σm : xSt, Rel σc σm → ∀ (a1 a2 a3 a4 : Int32), ∃ (r : Int32) (σc' σm' : xSt), mX8_air F a1 a2 a3 a4 σc = some (r, σc') ∧ mX9_air F a1 a2 a3 a4 σm = some (r, σm') ∧ Rel σc' σm'
set_option maxRecDepth 100000 in
set_option maxHeartbeats 4000000 in
theorem z_case_air {p : Program} {l : Launch} {e : Env} {s : State} {m : MethodId} {below : List Frame} {meth : Method} {c : Code} {D : va_G} {adC adM : Nat → Nat} {cI cZ cS : ClassId} {b L td cs sl : Nat} {xs : Nat → Int32} {σc σm : xSt} (Z : zX p s m meth c D adC adM cI cZ cS b L td cs sl xs) (F n : Nat) (Rel : xSt → xSt → Prop) (hO : zP_air F Rel) (hn : n + 6 ≤ L) (hL : L ≤ 384) (hR : Rel σc σm) (kk : ∀ σc' σm', Rel σc' σm' → zG p l e s m below meth c D adC adM cI cZ cS b cs sl σc' σm' 1473 [(0, .ref b), (1, .ref (adC 0)), (2, .ref (adM 0)), (3, .int (nI n))] []) : zG p l e s m below meth c D adC adM cI cZ cS b cs sl σc σm 796 [(0, .ref b), (1, .ref (adC 0)), (2, .ref (adM 0)), (3, .int (nI n))] [] := by
  obtain ⟨r, σc', σm', h1, h2, hR'⟩ := hO σc σm hR (xs (n + 1)) (xs (n + 2)) (xs (n + 3)) (xs (n + 4))
  refine z_aload_n (pc := 796) Z dL_law_796 rfl 1 rfl ?_
  refine z_aload_n (pc := 797) Z dL_law_797 rfl 0 rfl ?_
  refine z_iload_n (pc := 798) Z dL_law_798 rfl 3 rfl ?_
  refine z_iconst (pc := 799) (v := 1) Z dL_law_799 (by decide) ?_
  refine z_iadd (pc := 800) Z dL_law_800 ?_
  refine z_sld (pc := 801) Z (n + 1) (nI_add n 1) (by omega) (by omega) dL_law_801 ?_
  refine z_aload_n (pc := 802) Z dL_law_802 rfl 0 rfl ?_
  refine z_iload_n (pc := 803) Z dL_law_803 rfl 3 rfl ?_
  refine z_iconst (pc := 804) (v := 2) Z dL_law_804 (by decide) ?_
  refine z_iadd (pc := 805) Z dL_law_805 ?_
  refine z_sld (pc := 806) Z (n + 2) (nI_add n 2) (by omega) (by omega) dL_law_806 ?_
  refine z_aload_n (pc := 807) Z dL_law_807 rfl 0 rfl ?_
  refine z_iload_n (pc := 808) Z dL_law_808 rfl 3 rfl ?_
  refine z_iconst (pc := 809) (v := 3) Z dL_law_809 (by decide) ?_
  refine z_iadd (pc := 810) Z dL_law_810 ?_
  refine z_sld (pc := 811) Z (n + 3) (nI_add n 3) (by omega) (by omega) dL_law_811 ?_
  refine z_aload_n (pc := 812) Z dL_law_812 rfl 0 rfl ?_
  refine z_iload_n (pc := 813) Z dL_law_813 rfl 3 rfl ?_
  refine z_iconst (pc := 814) (v := 4) Z dL_law_814 (by decide) ?_
  refine z_iadd (pc := 815) Z dL_law_815 ?_
  refine z_sld (pc := 816) Z (n + 4) (nI_add n 4) (by omega) (by omega) dL_law_816 ?_
  refine z_callCi (pc := 817) (As := [.int (xs (n + 1)), .int (xs (n + 2)), .int (xs (n + 3)), .int (xs (n + 4))]) (rest := []) Z (kX8_air l (zX_C Z).2.2.2.2.2.2.2 F _ _ _ _ _ _ _ h1) kvL_90 rfl ⟨rfl, rfl, Nat.le_of_ble_eq_true rfl, Nat.le_of_ble_eq_true rfl⟩ rfl rfl (Nat.le_of_ble_eq_true rfl) dL_law_817 ?_
  refine z_aload_n (pc := 820) Z dL_law_820 rfl 2 rfl ?_
  refine z_aload_n (pc := 821) Z dL_law_821 rfl 0 rfl ?_
  refine z_iload_n (pc := 822) Z dL_law_822 rfl 3 rfl ?_
  refine z_iconst (pc := 823) (v := 1) Z dL_law_823 (by decide) ?_
  refine z_iadd (pc := 824) Z dL_law_824 ?_
  refine z_sld (pc := 825) Z (n + 1) (nI_add n 1) (by omega) (by omega) dL_law_825 ?_
  refine z_aload_n (pc := 826) Z dL_law_826 rfl 0 rfl ?_
  refine z_iload_n (pc := 827) Z dL_law_827 rfl 3 rfl ?_
  refine z_iconst (pc := 828) (v := 2) Z dL_law_828 (by decide) ?_
  refine z_iadd (pc := 829) Z dL_law_829 ?_
  refine z_sld (pc := 830) Z (n + 2) (nI_add n 2) (by omega) (by omega) dL_law_830 ?_
  refine z_aload_n (pc := 831) Z dL_law_831 rfl 0 rfl ?_
  refine z_iload_n (pc := 832) Z dL_law_832 rfl 3 rfl ?_
  refine z_iconst (pc := 833) (v := 3) Z dL_law_833 (by decide) ?_
  refine z_iadd (pc := 834) Z dL_law_834 ?_
  refine z_sld (pc := 835) Z (n + 3) (nI_add n 3) (by omega) (by omega) dL_law_835 ?_
  refine z_aload_n (pc := 836) Z dL_law_836 rfl 0 rfl ?_
  refine z_iload_n (pc := 837) Z dL_law_837 rfl 3 rfl ?_
  refine z_iconst (pc := 838) (v := 4) Z dL_law_838 (by decide) ?_
  refine z_iadd (pc := 839) Z dL_law_839 ?_
  refine z_sld (pc := 840) Z (n + 4) (nI_add n 4) (by omega) (by omega) dL_law_840 ?_
  refine z_callMi (pc := 841) (As := [.int (xs (n + 1)), .int (xs (n + 2)), .int (xs (n + 3)), .int (xs (n + 4))]) (rest := [.int r]) Z (kX9_air l (zX_M Z).2.2.2.2.2.2.2 F _ _ _ _ _ _ _ h2) kvL_93 rfl ⟨rfl, rfl, Nat.le_of_ble_eq_true rfl, Nat.le_of_ble_eq_true rfl⟩ rfl rfl (Nat.le_of_ble_eq_true rfl) dL_law_841 ?_
  refine z_icmp_eq (pc := 844) Z 1473 dL_law_844 (by decide) ?_
  exact kk σc' σm' hR'
def zP_known (F : Nat) (Rel : xSt → xSt → Prop) : Prop := ∀ σc σm : xSt, Rel σc σm → ∀ (a1 : Int32), ∃ (r : Int32) (σc' σm' : xSt), mX8_known F a1 σc = some (r, σc') ∧ mX9_known F a1 σm = some (r, σm') ∧ Rel σc' σm'
set_option maxRecDepth 100000 in
set_option maxHeartbeats 4000000 in
theorem z_case_known {p : Program} {l : Launch} {e : Env} {s : State} {m : MethodId} {below : List Frame} {meth : Method} {c : Code} {D : va_G} {adC adM : Nat → Nat} {cI cZ cS : ClassId} {b L td cs sl : Nat} {xs : Nat → Int32} {σc σm : xSt} (Z : zX p s m meth c D adC adM cI cZ cS b L td cs sl xs) (F n : Nat) (Rel : xSt → xSt → Prop) (hO : zP_known F Rel) (hn : n + 6 ≤ L) (hL : L ≤ 384) (hR : Rel σc σm) (kk : ∀ σc' σm', Rel σc' σm' → zG p l e s m below meth c D adC adM cI cZ cS b cs sl σc' σm' 1473 [(0, .ref b), (1, .ref (adC 0)), (2, .ref (adM 0)), (3, .int (nI n))] []) : zG p l e s m below meth c D adC adM cI cZ cS b cs sl σc σm 849 [(0, .ref b), (1, .ref (adC 0)), (2, .ref (adM 0)), (3, .int (nI n))] [] := by
  obtain ⟨r, σc', σm', h1, h2, hR'⟩ := hO σc σm hR (xs (n + 1))
  refine z_aload_n (pc := 849) Z dL_law_849 rfl 1 rfl ?_
  refine z_aload_n (pc := 850) Z dL_law_850 rfl 0 rfl ?_
  refine z_iload_n (pc := 851) Z dL_law_851 rfl 3 rfl ?_
  refine z_iconst (pc := 852) (v := 1) Z dL_law_852 (by decide) ?_
  refine z_iadd (pc := 853) Z dL_law_853 ?_
  refine z_sld (pc := 854) Z (n + 1) (nI_add n 1) (by omega) (by omega) dL_law_854 ?_
  refine z_callCi (pc := 855) (As := [.int (xs (n + 1))]) (rest := []) Z (kX8_known l (zX_C Z).2.2.2.2.2.2.2 F _ _ _ _ h1) kvL_94 rfl ⟨rfl, rfl, Nat.le_of_ble_eq_true rfl, Nat.le_of_ble_eq_true rfl⟩ rfl rfl (Nat.le_of_ble_eq_true rfl) dL_law_855 ?_
  refine z_aload_n (pc := 858) Z dL_law_858 rfl 2 rfl ?_
  refine z_aload_n (pc := 859) Z dL_law_859 rfl 0 rfl ?_
  refine z_iload_n (pc := 860) Z dL_law_860 rfl 3 rfl ?_
  refine z_iconst (pc := 861) (v := 1) Z dL_law_861 (by decide) ?_
  refine z_iadd (pc := 862) Z dL_law_862 ?_
  refine z_sld (pc := 863) Z (n + 1) (nI_add n 1) (by omega) (by omega) dL_law_863 ?_
  refine z_callMi (pc := 864) (As := [.int (xs (n + 1))]) (rest := [.int r]) Z (kX9_known l (zX_M Z).2.2.2.2.2.2.2 F _ _ _ _ h2) kvL_97 rfl ⟨rfl, rfl, Nat.le_of_ble_eq_true rfl, Nat.le_of_ble_eq_true rfl⟩ rfl rfl (Nat.le_of_ble_eq_true rfl) dL_law_864 ?_
  refine z_icmp_eq (pc := 867) Z 1473 dL_law_867 (by decide) ?_
  exact kk σc' σm' hR'
def zP_smelt (F : Nat) (Rel : xSt → xSt → Prop) : Prop := ∀ σc σm : xSt, Rel σc σm → ∀ (a1 a2 a3 : Int32), ∃ (r : Int32) (σc' σm' : xSt), mX8_smelt F a1 a2 a3 σc = some (r, σc') ∧ mX9_smelt F a1 a2 a3 σm = some (r, σm') ∧ Rel σc' σm'
set_option maxRecDepth 100000 in
set_option maxHeartbeats 4000000 in
theorem z_case_smelt {p : Program} {l : Launch} {e : Env} {s : State} {m : MethodId} {below : List Frame} {meth : Method} {c : Code} {D : va_G} {adC adM : Nat → Nat} {cI cZ cS : ClassId} {b L td cs sl : Nat} {xs : Nat → Int32} {σc σm : xSt} (Z : zX p s m meth c D adC adM cI cZ cS b L td cs sl xs) (F n : Nat) (Rel : xSt → xSt → Prop) (hO : zP_smelt F Rel) (hn : n + 6 ≤ L) (hL : L ≤ 384) (hR : Rel σc σm) (kk : ∀ σc' σm', Rel σc' σm' → zG p l e s m below meth c D adC adM cI cZ cS b cs sl σc' σm' 1473 [(0, .ref b), (1, .ref (adC 0)), (2, .ref (adM 0)), (3, .int (nI n))] []) : zG p l e s m below meth c D adC adM cI cZ cS b cs sl σc σm 872 [(0, .ref b), (1, .ref (adC 0)), (2, .ref (adM 0)), (3, .int (nI n))] [] := by
  obtain ⟨r, σc', σm', h1, h2, hR'⟩ := hO σc σm hR (xs (n + 1)) (xs (n + 2)) (xs (n + 3))
  refine z_aload_n (pc := 872) Z dL_law_872 rfl 1 rfl ?_
  refine z_aload_n (pc := 873) Z dL_law_873 rfl 0 rfl ?_
  refine z_iload_n (pc := 874) Z dL_law_874 rfl 3 rfl ?_
  refine z_iconst (pc := 875) (v := 1) Z dL_law_875 (by decide) ?_
  refine z_iadd (pc := 876) Z dL_law_876 ?_
  refine z_sld (pc := 877) Z (n + 1) (nI_add n 1) (by omega) (by omega) dL_law_877 ?_
  refine z_aload_n (pc := 878) Z dL_law_878 rfl 0 rfl ?_
  refine z_iload_n (pc := 879) Z dL_law_879 rfl 3 rfl ?_
  refine z_iconst (pc := 880) (v := 2) Z dL_law_880 (by decide) ?_
  refine z_iadd (pc := 881) Z dL_law_881 ?_
  refine z_sld (pc := 882) Z (n + 2) (nI_add n 2) (by omega) (by omega) dL_law_882 ?_
  refine z_aload_n (pc := 883) Z dL_law_883 rfl 0 rfl ?_
  refine z_iload_n (pc := 884) Z dL_law_884 rfl 3 rfl ?_
  refine z_iconst (pc := 885) (v := 3) Z dL_law_885 (by decide) ?_
  refine z_iadd (pc := 886) Z dL_law_886 ?_
  refine z_sld (pc := 887) Z (n + 3) (nI_add n 3) (by omega) (by omega) dL_law_887 ?_
  refine z_callCi (pc := 888) (As := [.int (xs (n + 1)), .int (xs (n + 2)), .int (xs (n + 3))]) (rest := []) Z (kX8_smelt l (zX_C Z).2.2.2.2.2.2.2 F _ _ _ _ _ _ h1) kvL_98 rfl ⟨rfl, rfl, Nat.le_of_ble_eq_true rfl, Nat.le_of_ble_eq_true rfl⟩ rfl rfl (Nat.le_of_ble_eq_true rfl) dL_law_888 ?_
  refine z_aload_n (pc := 891) Z dL_law_891 rfl 2 rfl ?_
  refine z_aload_n (pc := 892) Z dL_law_892 rfl 0 rfl ?_
  refine z_iload_n (pc := 893) Z dL_law_893 rfl 3 rfl ?_
  refine z_iconst (pc := 894) (v := 1) Z dL_law_894 (by decide) ?_
  refine z_iadd (pc := 895) Z dL_law_895 ?_
  refine z_sld (pc := 896) Z (n + 1) (nI_add n 1) (by omega) (by omega) dL_law_896 ?_
  refine z_aload_n (pc := 897) Z dL_law_897 rfl 0 rfl ?_
  refine z_iload_n (pc := 898) Z dL_law_898 rfl 3 rfl ?_
  refine z_iconst (pc := 899) (v := 2) Z dL_law_899 (by decide) ?_
  refine z_iadd (pc := 900) Z dL_law_900 ?_
  refine z_sld (pc := 901) Z (n + 2) (nI_add n 2) (by omega) (by omega) dL_law_901 ?_
  refine z_aload_n (pc := 902) Z dL_law_902 rfl 0 rfl ?_
  refine z_iload_n (pc := 903) Z dL_law_903 rfl 3 rfl ?_
  refine z_iconst (pc := 904) (v := 3) Z dL_law_904 (by decide) ?_
  refine z_iadd (pc := 905) Z dL_law_905 ?_
  refine z_sld (pc := 906) Z (n + 3) (nI_add n 3) (by omega) (by omega) dL_law_906 ?_
  refine z_callMi (pc := 907) (As := [.int (xs (n + 1)), .int (xs (n + 2)), .int (xs (n + 3))]) (rest := [.int r]) Z (kX9_smelt l (zX_M Z).2.2.2.2.2.2.2 F _ _ _ _ _ _ h2) kvL_101 rfl ⟨rfl, rfl, Nat.le_of_ble_eq_true rfl, Nat.le_of_ble_eq_true rfl⟩ rfl rfl (Nat.le_of_ble_eq_true rfl) dL_law_907 ?_
  refine z_icmp_eq (pc := 910) Z 1473 dL_law_910 (by decide) ?_
  exact kk σc' σm' hR'
def zP_forget (F : Nat) (Rel : xSt → xSt → Prop) : Prop := ∀ σc σm : xSt, Rel σc σm → ∃ (r : Int32) (σc' σm' : xSt), mX8_forget F σc = some (r, σc') ∧ mX9_forget F σm = some (r, σm') ∧ Rel σc' σm'
set_option maxRecDepth 100000 in
set_option maxHeartbeats 4000000 in
theorem z_case_forget {p : Program} {l : Launch} {e : Env} {s : State} {m : MethodId} {below : List Frame} {meth : Method} {c : Code} {D : va_G} {adC adM : Nat → Nat} {cI cZ cS : ClassId} {b L td cs sl : Nat} {xs : Nat → Int32} {σc σm : xSt} (Z : zX p s m meth c D adC adM cI cZ cS b L td cs sl xs) (F n : Nat) (Rel : xSt → xSt → Prop) (hO : zP_forget F Rel) (hn : n + 6 ≤ L) (hL : L ≤ 384) (hR : Rel σc σm) (kk : ∀ σc' σm', Rel σc' σm' → zG p l e s m below meth c D adC adM cI cZ cS b cs sl σc' σm' 1473 [(0, .ref b), (1, .ref (adC 0)), (2, .ref (adM 0)), (3, .int (nI n))] []) : zG p l e s m below meth c D adC adM cI cZ cS b cs sl σc σm 915 [(0, .ref b), (1, .ref (adC 0)), (2, .ref (adM 0)), (3, .int (nI n))] [] := by
  obtain ⟨r, σc', σm', h1, h2, hR'⟩ := hO σc σm hR 
  refine z_aload_n (pc := 915) Z dL_law_915 rfl 1 rfl ?_
  refine z_callCi (pc := 916) (As := []) (rest := []) Z (kX8_forget l (zX_C Z).2.2.2.2.2.2.2 F _ _ _ h1) kvL_102 rfl ⟨rfl, rfl, Nat.le_of_ble_eq_true rfl, Nat.le_of_ble_eq_true rfl⟩ rfl rfl (Nat.le_of_ble_eq_true rfl) dL_law_916 ?_
  refine z_aload_n (pc := 919) Z dL_law_919 rfl 2 rfl ?_
  refine z_callMi (pc := 920) (As := []) (rest := [.int r]) Z (kX9_forget l (zX_M Z).2.2.2.2.2.2.2 F _ _ _ h2) kvL_106 rfl ⟨rfl, rfl, Nat.le_of_ble_eq_true rfl, Nat.le_of_ble_eq_true rfl⟩ rfl rfl (Nat.le_of_ble_eq_true rfl) dL_law_920 ?_
  refine z_icmp_eq (pc := 923) Z 1473 dL_law_923 (by decide) ?_
  exact kk σc' σm' hR'
def zP_when (F : Nat) (Rel : xSt → xSt → Prop) : Prop := ∀ σc σm : xSt, Rel σc σm → ∀ (a1 a2 : Int32), ∃ (r : Int32) (σc' σm' : xSt), mX8_when F a1 a2 σc = some (r, σc') ∧ mX9_when F a1 a2 σm = some (r, σm') ∧ Rel σc' σm'
set_option maxRecDepth 100000 in
set_option maxHeartbeats 4000000 in
theorem z_case_when {p : Program} {l : Launch} {e : Env} {s : State} {m : MethodId} {below : List Frame} {meth : Method} {c : Code} {D : va_G} {adC adM : Nat → Nat} {cI cZ cS : ClassId} {b L td cs sl : Nat} {xs : Nat → Int32} {σc σm : xSt} (Z : zX p s m meth c D adC adM cI cZ cS b L td cs sl xs) (F n : Nat) (Rel : xSt → xSt → Prop) (hO : zP_when F Rel) (hn : n + 6 ≤ L) (hL : L ≤ 384) (hR : Rel σc σm) (kk : ∀ σc' σm', Rel σc' σm' → zG p l e s m below meth c D adC adM cI cZ cS b cs sl σc' σm' 1473 [(0, .ref b), (1, .ref (adC 0)), (2, .ref (adM 0)), (3, .int (nI n))] []) : zG p l e s m below meth c D adC adM cI cZ cS b cs sl σc σm 928 [(0, .ref b), (1, .ref (adC 0)), (2, .ref (adM 0)), (3, .int (nI n))] [] := by
  obtain ⟨r, σc', σm', h1, h2, hR'⟩ := hO σc σm hR (xs (n + 1)) (xs (n + 2))
  refine z_aload_n (pc := 928) Z dL_law_928 rfl 1 rfl ?_
  refine z_aload_n (pc := 929) Z dL_law_929 rfl 0 rfl ?_
  refine z_iload_n (pc := 930) Z dL_law_930 rfl 3 rfl ?_
  refine z_iconst (pc := 931) (v := 1) Z dL_law_931 (by decide) ?_
  refine z_iadd (pc := 932) Z dL_law_932 ?_
  refine z_sld (pc := 933) Z (n + 1) (nI_add n 1) (by omega) (by omega) dL_law_933 ?_
  refine z_aload_n (pc := 934) Z dL_law_934 rfl 0 rfl ?_
  refine z_iload_n (pc := 935) Z dL_law_935 rfl 3 rfl ?_
  refine z_iconst (pc := 936) (v := 2) Z dL_law_936 (by decide) ?_
  refine z_iadd (pc := 937) Z dL_law_937 ?_
  refine z_sld (pc := 938) Z (n + 2) (nI_add n 2) (by omega) (by omega) dL_law_938 ?_
  refine z_callCi (pc := 939) (As := [.int (xs (n + 1)), .int (xs (n + 2))]) (rest := []) Z (kX8_when l (zX_C Z).2.2.2.2.2.2.2 F _ _ _ _ _ h1) kvL_107 rfl ⟨rfl, rfl, Nat.le_of_ble_eq_true rfl, Nat.le_of_ble_eq_true rfl⟩ rfl rfl (Nat.le_of_ble_eq_true rfl) dL_law_939 ?_
  refine z_aload_n (pc := 942) Z dL_law_942 rfl 2 rfl ?_
  refine z_aload_n (pc := 943) Z dL_law_943 rfl 0 rfl ?_
  refine z_iload_n (pc := 944) Z dL_law_944 rfl 3 rfl ?_
  refine z_iconst (pc := 945) (v := 1) Z dL_law_945 (by decide) ?_
  refine z_iadd (pc := 946) Z dL_law_946 ?_
  refine z_sld (pc := 947) Z (n + 1) (nI_add n 1) (by omega) (by omega) dL_law_947 ?_
  refine z_aload_n (pc := 948) Z dL_law_948 rfl 0 rfl ?_
  refine z_iload_n (pc := 949) Z dL_law_949 rfl 3 rfl ?_
  refine z_iconst (pc := 950) (v := 2) Z dL_law_950 (by decide) ?_
  refine z_iadd (pc := 951) Z dL_law_951 ?_
  refine z_sld (pc := 952) Z (n + 2) (nI_add n 2) (by omega) (by omega) dL_law_952 ?_
  refine z_callMi (pc := 953) (As := [.int (xs (n + 1)), .int (xs (n + 2))]) (rest := [.int r]) Z (kX9_when l (zX_M Z).2.2.2.2.2.2.2 F _ _ _ _ _ h2) kvL_110 rfl ⟨rfl, rfl, Nat.le_of_ble_eq_true rfl, Nat.le_of_ble_eq_true rfl⟩ rfl rfl (Nat.le_of_ble_eq_true rfl) dL_law_953 ?_
  refine z_icmp_eq (pc := 956) Z 1473 dL_law_956 (by decide) ?_
  exact kk σc' σm' hR'
def zP_who (F : Nat) (Rel : xSt → xSt → Prop) : Prop := ∀ σc σm : xSt, Rel σc σm → ∀ (a1 : Int32), ∃ (r : Int32) (σc' σm' : xSt), mX8_who F a1 σc = some (r, σc') ∧ mX9_who F a1 σm = some (r, σm') ∧ Rel σc' σm'
set_option maxRecDepth 100000 in
set_option maxHeartbeats 4000000 in
theorem z_case_who {p : Program} {l : Launch} {e : Env} {s : State} {m : MethodId} {below : List Frame} {meth : Method} {c : Code} {D : va_G} {adC adM : Nat → Nat} {cI cZ cS : ClassId} {b L td cs sl : Nat} {xs : Nat → Int32} {σc σm : xSt} (Z : zX p s m meth c D adC adM cI cZ cS b L td cs sl xs) (F n : Nat) (Rel : xSt → xSt → Prop) (hO : zP_who F Rel) (hn : n + 6 ≤ L) (hL : L ≤ 384) (hR : Rel σc σm) (kk : ∀ σc' σm', Rel σc' σm' → zG p l e s m below meth c D adC adM cI cZ cS b cs sl σc' σm' 1473 [(0, .ref b), (1, .ref (adC 0)), (2, .ref (adM 0)), (3, .int (nI n))] []) : zG p l e s m below meth c D adC adM cI cZ cS b cs sl σc σm 961 [(0, .ref b), (1, .ref (adC 0)), (2, .ref (adM 0)), (3, .int (nI n))] [] := by
  obtain ⟨r, σc', σm', h1, h2, hR'⟩ := hO σc σm hR (xs (n + 1))
  refine z_aload_n (pc := 961) Z dL_law_961 rfl 1 rfl ?_
  refine z_aload_n (pc := 962) Z dL_law_962 rfl 0 rfl ?_
  refine z_iload_n (pc := 963) Z dL_law_963 rfl 3 rfl ?_
  refine z_iconst (pc := 964) (v := 1) Z dL_law_964 (by decide) ?_
  refine z_iadd (pc := 965) Z dL_law_965 ?_
  refine z_sld (pc := 966) Z (n + 1) (nI_add n 1) (by omega) (by omega) dL_law_966 ?_
  refine z_callCi (pc := 967) (As := [.int (xs (n + 1))]) (rest := []) Z (kX8_who l (zX_C Z).2.2.2.2.2.2.2 F _ _ _ _ h1) kvL_111 rfl ⟨rfl, rfl, Nat.le_of_ble_eq_true rfl, Nat.le_of_ble_eq_true rfl⟩ rfl rfl (Nat.le_of_ble_eq_true rfl) dL_law_967 ?_
  refine z_aload_n (pc := 970) Z dL_law_970 rfl 2 rfl ?_
  refine z_aload_n (pc := 971) Z dL_law_971 rfl 0 rfl ?_
  refine z_iload_n (pc := 972) Z dL_law_972 rfl 3 rfl ?_
  refine z_iconst (pc := 973) (v := 1) Z dL_law_973 (by decide) ?_
  refine z_iadd (pc := 974) Z dL_law_974 ?_
  refine z_sld (pc := 975) Z (n + 1) (nI_add n 1) (by omega) (by omega) dL_law_975 ?_
  refine z_callMi (pc := 976) (As := [.int (xs (n + 1))]) (rest := [.int r]) Z (kX9_who l (zX_M Z).2.2.2.2.2.2.2 F _ _ _ _ h2) kvL_114 rfl ⟨rfl, rfl, Nat.le_of_ble_eq_true rfl, Nat.le_of_ble_eq_true rfl⟩ rfl rfl (Nat.le_of_ble_eq_true rfl) dL_law_976 ?_
  refine z_icmp_eq (pc := 979) Z 1473 dL_law_979 (by decide) ?_
  exact kk σc' σm' hR'
def zP_stand (F : Nat) (Rel : xSt → xSt → Prop) : Prop := ∀ σc σm : xSt, Rel σc σm → ∀ (a1 a2 : Int32), ∃ (r : Int32) (σc' σm' : xSt), mX8_stand F a1 a2 σc = some (r, σc') ∧ mX9_stand F a1 a2 σm = some (r, σm') ∧ Rel σc' σm'
set_option maxRecDepth 100000 in
set_option maxHeartbeats 4000000 in
theorem z_case_stand {p : Program} {l : Launch} {e : Env} {s : State} {m : MethodId} {below : List Frame} {meth : Method} {c : Code} {D : va_G} {adC adM : Nat → Nat} {cI cZ cS : ClassId} {b L td cs sl : Nat} {xs : Nat → Int32} {σc σm : xSt} (Z : zX p s m meth c D adC adM cI cZ cS b L td cs sl xs) (F n : Nat) (Rel : xSt → xSt → Prop) (hO : zP_stand F Rel) (hn : n + 6 ≤ L) (hL : L ≤ 384) (hR : Rel σc σm) (kk : ∀ σc' σm', Rel σc' σm' → zG p l e s m below meth c D adC adM cI cZ cS b cs sl σc' σm' 1473 [(0, .ref b), (1, .ref (adC 0)), (2, .ref (adM 0)), (3, .int (nI n))] []) : zG p l e s m below meth c D adC adM cI cZ cS b cs sl σc σm 984 [(0, .ref b), (1, .ref (adC 0)), (2, .ref (adM 0)), (3, .int (nI n))] [] := by
  obtain ⟨r, σc', σm', h1, h2, hR'⟩ := hO σc σm hR (xs (n + 1)) (xs (n + 2))
  refine z_aload_n (pc := 984) Z dL_law_984 rfl 1 rfl ?_
  refine z_aload_n (pc := 985) Z dL_law_985 rfl 0 rfl ?_
  refine z_iload_n (pc := 986) Z dL_law_986 rfl 3 rfl ?_
  refine z_iconst (pc := 987) (v := 1) Z dL_law_987 (by decide) ?_
  refine z_iadd (pc := 988) Z dL_law_988 ?_
  refine z_sld (pc := 989) Z (n + 1) (nI_add n 1) (by omega) (by omega) dL_law_989 ?_
  refine z_aload_n (pc := 990) Z dL_law_990 rfl 0 rfl ?_
  refine z_iload_n (pc := 991) Z dL_law_991 rfl 3 rfl ?_
  refine z_iconst (pc := 992) (v := 2) Z dL_law_992 (by decide) ?_
  refine z_iadd (pc := 993) Z dL_law_993 ?_
  refine z_sld (pc := 994) Z (n + 2) (nI_add n 2) (by omega) (by omega) dL_law_994 ?_
  refine z_callCi (pc := 995) (As := [.int (xs (n + 1)), .int (xs (n + 2))]) (rest := []) Z (kX8_stand l (zX_C Z).2.2.2.2.2.2.2 F _ _ _ _ _ h1) kvL_115 rfl ⟨rfl, rfl, Nat.le_of_ble_eq_true rfl, Nat.le_of_ble_eq_true rfl⟩ rfl rfl (Nat.le_of_ble_eq_true rfl) dL_law_995 ?_
  refine z_aload_n (pc := 998) Z dL_law_998 rfl 2 rfl ?_
  refine z_aload_n (pc := 999) Z dL_law_999 rfl 0 rfl ?_
  refine z_iload_n (pc := 1000) Z dL_law_1000 rfl 3 rfl ?_
  refine z_iconst (pc := 1001) (v := 1) Z dL_law_1001 (by decide) ?_
  refine z_iadd (pc := 1002) Z dL_law_1002 ?_
  refine z_sld (pc := 1003) Z (n + 1) (nI_add n 1) (by omega) (by omega) dL_law_1003 ?_
  refine z_aload_n (pc := 1004) Z dL_law_1004 rfl 0 rfl ?_
  refine z_iload_n (pc := 1005) Z dL_law_1005 rfl 3 rfl ?_
  refine z_iconst (pc := 1006) (v := 2) Z dL_law_1006 (by decide) ?_
  refine z_iadd (pc := 1007) Z dL_law_1007 ?_
  refine z_sld (pc := 1008) Z (n + 2) (nI_add n 2) (by omega) (by omega) dL_law_1008 ?_
  refine z_callMi (pc := 1009) (As := [.int (xs (n + 1)), .int (xs (n + 2))]) (rest := [.int r]) Z (kX9_stand l (zX_M Z).2.2.2.2.2.2.2 F _ _ _ _ _ h2) kvL_118 rfl ⟨rfl, rfl, Nat.le_of_ble_eq_true rfl, Nat.le_of_ble_eq_true rfl⟩ rfl rfl (Nat.le_of_ble_eq_true rfl) dL_law_1009 ?_
  refine z_icmp_eq (pc := 1012) Z 1473 dL_law_1012 (by decide) ?_
  exact kk σc' σm' hR'
def zP_draughts (F : Nat) (Rel : xSt → xSt → Prop) : Prop := ∀ σc σm : xSt, Rel σc σm → ∀ (a1 a2 a3 a4 a5 : Int32), ∃ (r : Int64) (σc' σm' : xSt), mX8_draughts F a1 a2 a3 a4 a5 σc = some (r, σc') ∧ mX9_draughts F a1 a2 a3 a4 a5 σm = some (r, σm') ∧ Rel σc' σm'
set_option maxRecDepth 100000 in
set_option maxHeartbeats 4000000 in
theorem z_case_draughts {p : Program} {l : Launch} {e : Env} {s : State} {m : MethodId} {below : List Frame} {meth : Method} {c : Code} {D : va_G} {adC adM : Nat → Nat} {cI cZ cS : ClassId} {b L td cs sl : Nat} {xs : Nat → Int32} {σc σm : xSt} (Z : zX p s m meth c D adC adM cI cZ cS b L td cs sl xs) (F n : Nat) (Rel : xSt → xSt → Prop) (hO : zP_draughts F Rel) (hn : n + 6 ≤ L) (hL : L ≤ 384) (hR : Rel σc σm) (kk : ∀ σc' σm', Rel σc' σm' → zG p l e s m below meth c D adC adM cI cZ cS b cs sl σc' σm' 1473 [(0, .ref b), (1, .ref (adC 0)), (2, .ref (adM 0)), (3, .int (nI n))] []) : zG p l e s m below meth c D adC adM cI cZ cS b cs sl σc σm 1017 [(0, .ref b), (1, .ref (adC 0)), (2, .ref (adM 0)), (3, .int (nI n))] [] := by
  obtain ⟨r, σc', σm', h1, h2, hR'⟩ := hO σc σm hR (xs (n + 1)) (xs (n + 2)) (xs (n + 3)) (xs (n + 4)) (xs (n + 5))
  refine z_aload_n (pc := 1017) Z dL_law_1017 rfl 1 rfl ?_
  refine z_aload_n (pc := 1018) Z dL_law_1018 rfl 0 rfl ?_
  refine z_iload_n (pc := 1019) Z dL_law_1019 rfl 3 rfl ?_
  refine z_iconst (pc := 1020) (v := 1) Z dL_law_1020 (by decide) ?_
  refine z_iadd (pc := 1021) Z dL_law_1021 ?_
  refine z_sld (pc := 1022) Z (n + 1) (nI_add n 1) (by omega) (by omega) dL_law_1022 ?_
  refine z_aload_n (pc := 1023) Z dL_law_1023 rfl 0 rfl ?_
  refine z_iload_n (pc := 1024) Z dL_law_1024 rfl 3 rfl ?_
  refine z_iconst (pc := 1025) (v := 2) Z dL_law_1025 (by decide) ?_
  refine z_iadd (pc := 1026) Z dL_law_1026 ?_
  refine z_sld (pc := 1027) Z (n + 2) (nI_add n 2) (by omega) (by omega) dL_law_1027 ?_
  refine z_aload_n (pc := 1028) Z dL_law_1028 rfl 0 rfl ?_
  refine z_iload_n (pc := 1029) Z dL_law_1029 rfl 3 rfl ?_
  refine z_iconst (pc := 1030) (v := 3) Z dL_law_1030 (by decide) ?_
  refine z_iadd (pc := 1031) Z dL_law_1031 ?_
  refine z_sld (pc := 1032) Z (n + 3) (nI_add n 3) (by omega) (by omega) dL_law_1032 ?_
  refine z_aload_n (pc := 1033) Z dL_law_1033 rfl 0 rfl ?_
  refine z_iload_n (pc := 1034) Z dL_law_1034 rfl 3 rfl ?_
  refine z_iconst (pc := 1035) (v := 4) Z dL_law_1035 (by decide) ?_
  refine z_iadd (pc := 1036) Z dL_law_1036 ?_
  refine z_sld (pc := 1037) Z (n + 4) (nI_add n 4) (by omega) (by omega) dL_law_1037 ?_
  refine z_aload_n (pc := 1038) Z dL_law_1038 rfl 0 rfl ?_
  refine z_iload_n (pc := 1039) Z dL_law_1039 rfl 3 rfl ?_
  refine z_iconst (pc := 1040) (v := 5) Z dL_law_1040 (by decide) ?_
  refine z_iadd (pc := 1041) Z dL_law_1041 ?_
  refine z_sld (pc := 1042) Z (n + 5) (nI_add n 5) (by omega) (by omega) dL_law_1042 ?_
  refine z_callCl (pc := 1043) (As := [.int (xs (n + 1)), .int (xs (n + 2)), .int (xs (n + 3)), .int (xs (n + 4)), .int (xs (n + 5))]) (rest := []) Z (kX8_draughts l (zX_C Z).2.2.2.2.2.2.2 F _ _ _ _ _ _ _ _ h1) kvL_119 rfl ⟨rfl, rfl, Nat.le_of_ble_eq_true rfl, Nat.le_of_ble_eq_true rfl⟩ rfl rfl (Nat.le_of_ble_eq_true rfl) dL_law_1043 ?_
  refine z_aload_n (pc := 1046) Z dL_law_1046 rfl 2 rfl ?_
  refine z_aload_n (pc := 1047) Z dL_law_1047 rfl 0 rfl ?_
  refine z_iload_n (pc := 1048) Z dL_law_1048 rfl 3 rfl ?_
  refine z_iconst (pc := 1049) (v := 1) Z dL_law_1049 (by decide) ?_
  refine z_iadd (pc := 1050) Z dL_law_1050 ?_
  refine z_sld (pc := 1051) Z (n + 1) (nI_add n 1) (by omega) (by omega) dL_law_1051 ?_
  refine z_aload_n (pc := 1052) Z dL_law_1052 rfl 0 rfl ?_
  refine z_iload_n (pc := 1053) Z dL_law_1053 rfl 3 rfl ?_
  refine z_iconst (pc := 1054) (v := 2) Z dL_law_1054 (by decide) ?_
  refine z_iadd (pc := 1055) Z dL_law_1055 ?_
  refine z_sld (pc := 1056) Z (n + 2) (nI_add n 2) (by omega) (by omega) dL_law_1056 ?_
  refine z_aload_n (pc := 1057) Z dL_law_1057 rfl 0 rfl ?_
  refine z_iload_n (pc := 1058) Z dL_law_1058 rfl 3 rfl ?_
  refine z_iconst (pc := 1059) (v := 3) Z dL_law_1059 (by decide) ?_
  refine z_iadd (pc := 1060) Z dL_law_1060 ?_
  refine z_sld (pc := 1061) Z (n + 3) (nI_add n 3) (by omega) (by omega) dL_law_1061 ?_
  refine z_aload_n (pc := 1062) Z dL_law_1062 rfl 0 rfl ?_
  refine z_iload_n (pc := 1063) Z dL_law_1063 rfl 3 rfl ?_
  refine z_iconst (pc := 1064) (v := 4) Z dL_law_1064 (by decide) ?_
  refine z_iadd (pc := 1065) Z dL_law_1065 ?_
  refine z_sld (pc := 1066) Z (n + 4) (nI_add n 4) (by omega) (by omega) dL_law_1066 ?_
  refine z_aload_n (pc := 1067) Z dL_law_1067 rfl 0 rfl ?_
  refine z_iload_n (pc := 1068) Z dL_law_1068 rfl 3 rfl ?_
  refine z_iconst (pc := 1069) (v := 5) Z dL_law_1069 (by decide) ?_
  refine z_iadd (pc := 1070) Z dL_law_1070 ?_
  refine z_sld (pc := 1071) Z (n + 5) (nI_add n 5) (by omega) (by omega) dL_law_1071 ?_
  refine z_callMl (pc := 1072) (As := [.int (xs (n + 1)), .int (xs (n + 2)), .int (xs (n + 3)), .int (xs (n + 4)), .int (xs (n + 5))]) (rest := [.long r]) Z (kX9_draughts l (zX_M Z).2.2.2.2.2.2.2 F _ _ _ _ _ _ _ _ h2) kvL_123 rfl ⟨rfl, rfl, Nat.le_of_ble_eq_true rfl, Nat.le_of_ble_eq_true rfl⟩ rfl rfl (Nat.le_of_ble_eq_true rfl) dL_law_1072 ?_
  refine z_lcmp (pc := 1075) Z dL_law_1075 ?_
  refine z_if_eq (pc := 1076) Z 1473 dL_law_1076 (by decide) ?_
  exact kk σc' σm' hR'
def zP_found (F : Nat) (Rel : xSt → xSt → Prop) : Prop := ∀ σc σm : xSt, Rel σc σm → ∀ (a1 a2 a3 a4 : Int32), ∃ (r : Int64) (σc' σm' : xSt), mX8_found F a1 a2 a3 a4 σc = some (r, σc') ∧ mX9_found F a1 a2 a3 a4 σm = some (r, σm') ∧ Rel σc' σm'
set_option maxRecDepth 100000 in
set_option maxHeartbeats 4000000 in
theorem z_case_found {p : Program} {l : Launch} {e : Env} {s : State} {m : MethodId} {below : List Frame} {meth : Method} {c : Code} {D : va_G} {adC adM : Nat → Nat} {cI cZ cS : ClassId} {b L td cs sl : Nat} {xs : Nat → Int32} {σc σm : xSt} (Z : zX p s m meth c D adC adM cI cZ cS b L td cs sl xs) (F n : Nat) (Rel : xSt → xSt → Prop) (hO : zP_found F Rel) (hn : n + 6 ≤ L) (hL : L ≤ 384) (hR : Rel σc σm) (kk : ∀ σc' σm', Rel σc' σm' → zG p l e s m below meth c D adC adM cI cZ cS b cs sl σc' σm' 1473 [(0, .ref b), (1, .ref (adC 0)), (2, .ref (adM 0)), (3, .int (nI n))] []) : zG p l e s m below meth c D adC adM cI cZ cS b cs sl σc σm 1081 [(0, .ref b), (1, .ref (adC 0)), (2, .ref (adM 0)), (3, .int (nI n))] [] := by
  obtain ⟨r, σc', σm', h1, h2, hR'⟩ := hO σc σm hR (xs (n + 1)) (xs (n + 2)) (xs (n + 3)) (xs (n + 4))
  refine z_aload_n (pc := 1081) Z dL_law_1081 rfl 1 rfl ?_
  refine z_aload_n (pc := 1082) Z dL_law_1082 rfl 0 rfl ?_
  refine z_iload_n (pc := 1083) Z dL_law_1083 rfl 3 rfl ?_
  refine z_iconst (pc := 1084) (v := 1) Z dL_law_1084 (by decide) ?_
  refine z_iadd (pc := 1085) Z dL_law_1085 ?_
  refine z_sld (pc := 1086) Z (n + 1) (nI_add n 1) (by omega) (by omega) dL_law_1086 ?_
  refine z_aload_n (pc := 1087) Z dL_law_1087 rfl 0 rfl ?_
  refine z_iload_n (pc := 1088) Z dL_law_1088 rfl 3 rfl ?_
  refine z_iconst (pc := 1089) (v := 2) Z dL_law_1089 (by decide) ?_
  refine z_iadd (pc := 1090) Z dL_law_1090 ?_
  refine z_sld (pc := 1091) Z (n + 2) (nI_add n 2) (by omega) (by omega) dL_law_1091 ?_
  refine z_aload_n (pc := 1092) Z dL_law_1092 rfl 0 rfl ?_
  refine z_iload_n (pc := 1093) Z dL_law_1093 rfl 3 rfl ?_
  refine z_iconst (pc := 1094) (v := 3) Z dL_law_1094 (by decide) ?_
  refine z_iadd (pc := 1095) Z dL_law_1095 ?_
  refine z_sld (pc := 1096) Z (n + 3) (nI_add n 3) (by omega) (by omega) dL_law_1096 ?_
  refine z_aload_n (pc := 1097) Z dL_law_1097 rfl 0 rfl ?_
  refine z_iload_n (pc := 1098) Z dL_law_1098 rfl 3 rfl ?_
  refine z_iconst (pc := 1099) (v := 4) Z dL_law_1099 (by decide) ?_
  refine z_iadd (pc := 1100) Z dL_law_1100 ?_
  refine z_sld (pc := 1101) Z (n + 4) (nI_add n 4) (by omega) (by omega) dL_law_1101 ?_
  refine z_callCl (pc := 1102) (As := [.int (xs (n + 1)), .int (xs (n + 2)), .int (xs (n + 3)), .int (xs (n + 4))]) (rest := []) Z (kX8_found l (zX_C Z).2.2.2.2.2.2.2 F _ _ _ _ _ _ _ h1) kvL_124 rfl ⟨rfl, rfl, Nat.le_of_ble_eq_true rfl, Nat.le_of_ble_eq_true rfl⟩ rfl rfl (Nat.le_of_ble_eq_true rfl) dL_law_1102 ?_
  refine z_aload_n (pc := 1105) Z dL_law_1105 rfl 2 rfl ?_
  refine z_aload_n (pc := 1106) Z dL_law_1106 rfl 0 rfl ?_
  refine z_iload_n (pc := 1107) Z dL_law_1107 rfl 3 rfl ?_
  refine z_iconst (pc := 1108) (v := 1) Z dL_law_1108 (by decide) ?_
  refine z_iadd (pc := 1109) Z dL_law_1109 ?_
  refine z_sld (pc := 1110) Z (n + 1) (nI_add n 1) (by omega) (by omega) dL_law_1110 ?_
  refine z_aload_n (pc := 1111) Z dL_law_1111 rfl 0 rfl ?_
  refine z_iload_n (pc := 1112) Z dL_law_1112 rfl 3 rfl ?_
  refine z_iconst (pc := 1113) (v := 2) Z dL_law_1113 (by decide) ?_
  refine z_iadd (pc := 1114) Z dL_law_1114 ?_
  refine z_sld (pc := 1115) Z (n + 2) (nI_add n 2) (by omega) (by omega) dL_law_1115 ?_
  refine z_aload_n (pc := 1116) Z dL_law_1116 rfl 0 rfl ?_
  refine z_iload_n (pc := 1117) Z dL_law_1117 rfl 3 rfl ?_
  refine z_iconst (pc := 1118) (v := 3) Z dL_law_1118 (by decide) ?_
  refine z_iadd (pc := 1119) Z dL_law_1119 ?_
  refine z_sld (pc := 1120) Z (n + 3) (nI_add n 3) (by omega) (by omega) dL_law_1120 ?_
  refine z_aload_n (pc := 1121) Z dL_law_1121 rfl 0 rfl ?_
  refine z_iload_n (pc := 1122) Z dL_law_1122 rfl 3 rfl ?_
  refine z_iconst (pc := 1123) (v := 4) Z dL_law_1123 (by decide) ?_
  refine z_iadd (pc := 1124) Z dL_law_1124 ?_
  refine z_sld (pc := 1125) Z (n + 4) (nI_add n 4) (by omega) (by omega) dL_law_1125 ?_
  refine z_callMl (pc := 1126) (As := [.int (xs (n + 1)), .int (xs (n + 2)), .int (xs (n + 3)), .int (xs (n + 4))]) (rest := [.long r]) Z (kX9_found l (zX_M Z).2.2.2.2.2.2.2 F _ _ _ _ _ _ _ h2) kvL_128 rfl ⟨rfl, rfl, Nat.le_of_ble_eq_true rfl, Nat.le_of_ble_eq_true rfl⟩ rfl rfl (Nat.le_of_ble_eq_true rfl) dL_law_1126 ?_
  refine z_lcmp (pc := 1129) Z dL_law_1129 ?_
  refine z_if_eq (pc := 1130) Z 1473 dL_law_1130 (by decide) ?_
  exact kk σc' σm' hR'
def zP_day (F : Nat) (Rel : xSt → xSt → Prop) : Prop := ∀ σc σm : xSt, Rel σc σm → ∀ (a1 a2 a3 : Int32), ∃ (r : Int32) (σc' σm' : xSt), mX8_day F a1 a2 a3 σc = some (r, σc') ∧ mX9_day F a1 a2 a3 σm = some (r, σm') ∧ Rel σc' σm'
set_option maxRecDepth 100000 in
set_option maxHeartbeats 4000000 in
theorem z_case_day {p : Program} {l : Launch} {e : Env} {s : State} {m : MethodId} {below : List Frame} {meth : Method} {c : Code} {D : va_G} {adC adM : Nat → Nat} {cI cZ cS : ClassId} {b L td cs sl : Nat} {xs : Nat → Int32} {σc σm : xSt} (Z : zX p s m meth c D adC adM cI cZ cS b L td cs sl xs) (F n : Nat) (Rel : xSt → xSt → Prop) (hO : zP_day F Rel) (hn : n + 6 ≤ L) (hL : L ≤ 384) (hR : Rel σc σm) (kk : ∀ σc' σm', Rel σc' σm' → zG p l e s m below meth c D adC adM cI cZ cS b cs sl σc' σm' 1473 [(0, .ref b), (1, .ref (adC 0)), (2, .ref (adM 0)), (3, .int (nI n))] []) : zG p l e s m below meth c D adC adM cI cZ cS b cs sl σc σm 1135 [(0, .ref b), (1, .ref (adC 0)), (2, .ref (adM 0)), (3, .int (nI n))] [] := by
  obtain ⟨r, σc', σm', h1, h2, hR'⟩ := hO σc σm hR (xs (n + 1)) (xs (n + 2)) (xs (n + 3))
  refine z_aload_n (pc := 1135) Z dL_law_1135 rfl 1 rfl ?_
  refine z_aload_n (pc := 1136) Z dL_law_1136 rfl 0 rfl ?_
  refine z_iload_n (pc := 1137) Z dL_law_1137 rfl 3 rfl ?_
  refine z_iconst (pc := 1138) (v := 1) Z dL_law_1138 (by decide) ?_
  refine z_iadd (pc := 1139) Z dL_law_1139 ?_
  refine z_sld (pc := 1140) Z (n + 1) (nI_add n 1) (by omega) (by omega) dL_law_1140 ?_
  refine z_aload_n (pc := 1141) Z dL_law_1141 rfl 0 rfl ?_
  refine z_iload_n (pc := 1142) Z dL_law_1142 rfl 3 rfl ?_
  refine z_iconst (pc := 1143) (v := 2) Z dL_law_1143 (by decide) ?_
  refine z_iadd (pc := 1144) Z dL_law_1144 ?_
  refine z_sld (pc := 1145) Z (n + 2) (nI_add n 2) (by omega) (by omega) dL_law_1145 ?_
  refine z_aload_n (pc := 1146) Z dL_law_1146 rfl 0 rfl ?_
  refine z_iload_n (pc := 1147) Z dL_law_1147 rfl 3 rfl ?_
  refine z_iconst (pc := 1148) (v := 3) Z dL_law_1148 (by decide) ?_
  refine z_iadd (pc := 1149) Z dL_law_1149 ?_
  refine z_sld (pc := 1150) Z (n + 3) (nI_add n 3) (by omega) (by omega) dL_law_1150 ?_
  refine z_callCi (pc := 1151) (As := [.int (xs (n + 1)), .int (xs (n + 2)), .int (xs (n + 3))]) (rest := []) Z (kX8_day l (zX_C Z).2.2.2.2.2.2.2 F _ _ _ _ _ _ h1) kvL_129 rfl ⟨rfl, rfl, Nat.le_of_ble_eq_true rfl, Nat.le_of_ble_eq_true rfl⟩ rfl rfl (Nat.le_of_ble_eq_true rfl) dL_law_1151 ?_
  refine z_aload_n (pc := 1154) Z dL_law_1154 rfl 2 rfl ?_
  refine z_aload_n (pc := 1155) Z dL_law_1155 rfl 0 rfl ?_
  refine z_iload_n (pc := 1156) Z dL_law_1156 rfl 3 rfl ?_
  refine z_iconst (pc := 1157) (v := 1) Z dL_law_1157 (by decide) ?_
  refine z_iadd (pc := 1158) Z dL_law_1158 ?_
  refine z_sld (pc := 1159) Z (n + 1) (nI_add n 1) (by omega) (by omega) dL_law_1159 ?_
  refine z_aload_n (pc := 1160) Z dL_law_1160 rfl 0 rfl ?_
  refine z_iload_n (pc := 1161) Z dL_law_1161 rfl 3 rfl ?_
  refine z_iconst (pc := 1162) (v := 2) Z dL_law_1162 (by decide) ?_
  refine z_iadd (pc := 1163) Z dL_law_1163 ?_
  refine z_sld (pc := 1164) Z (n + 2) (nI_add n 2) (by omega) (by omega) dL_law_1164 ?_
  refine z_aload_n (pc := 1165) Z dL_law_1165 rfl 0 rfl ?_
  refine z_iload_n (pc := 1166) Z dL_law_1166 rfl 3 rfl ?_
  refine z_iconst (pc := 1167) (v := 3) Z dL_law_1167 (by decide) ?_
  refine z_iadd (pc := 1168) Z dL_law_1168 ?_
  refine z_sld (pc := 1169) Z (n + 3) (nI_add n 3) (by omega) (by omega) dL_law_1169 ?_
  refine z_callMi (pc := 1170) (As := [.int (xs (n + 1)), .int (xs (n + 2)), .int (xs (n + 3))]) (rest := [.int r]) Z (kX9_day l (zX_M Z).2.2.2.2.2.2.2 F _ _ _ _ _ _ h2) kvL_132 rfl ⟨rfl, rfl, Nat.le_of_ble_eq_true rfl, Nat.le_of_ble_eq_true rfl⟩ rfl rfl (Nat.le_of_ble_eq_true rfl) dL_law_1170 ?_
  refine z_icmp_eq (pc := 1173) Z 1473 dL_law_1173 (by decide) ?_
  exact kk σc' σm' hR'
def zP_sheet (F : Nat) (Rel : xSt → xSt → Prop) : Prop := ∀ σc σm : xSt, Rel σc σm → ∀ (a1 a2 a3 : Int32), ∃ (r : Int32) (σc' σm' : xSt), mX8_sheet F a1 a2 a3 σc = some (r, σc') ∧ mX9_sheet F a1 a2 a3 σm = some (r, σm') ∧ Rel σc' σm'
set_option maxRecDepth 100000 in
set_option maxHeartbeats 4000000 in
theorem z_case_sheet {p : Program} {l : Launch} {e : Env} {s : State} {m : MethodId} {below : List Frame} {meth : Method} {c : Code} {D : va_G} {adC adM : Nat → Nat} {cI cZ cS : ClassId} {b L td cs sl : Nat} {xs : Nat → Int32} {σc σm : xSt} (Z : zX p s m meth c D adC adM cI cZ cS b L td cs sl xs) (F n : Nat) (Rel : xSt → xSt → Prop) (hO : zP_sheet F Rel) (hn : n + 6 ≤ L) (hL : L ≤ 384) (hR : Rel σc σm) (kk : ∀ σc' σm', Rel σc' σm' → zG p l e s m below meth c D adC adM cI cZ cS b cs sl σc' σm' 1473 [(0, .ref b), (1, .ref (adC 0)), (2, .ref (adM 0)), (3, .int (nI n))] []) : zG p l e s m below meth c D adC adM cI cZ cS b cs sl σc σm 1178 [(0, .ref b), (1, .ref (adC 0)), (2, .ref (adM 0)), (3, .int (nI n))] [] := by
  obtain ⟨r, σc', σm', h1, h2, hR'⟩ := hO σc σm hR (xs (n + 1)) (xs (n + 2)) (xs (n + 3))
  refine z_aload_n (pc := 1178) Z dL_law_1178 rfl 1 rfl ?_
  refine z_aload_n (pc := 1179) Z dL_law_1179 rfl 0 rfl ?_
  refine z_iload_n (pc := 1180) Z dL_law_1180 rfl 3 rfl ?_
  refine z_iconst (pc := 1181) (v := 1) Z dL_law_1181 (by decide) ?_
  refine z_iadd (pc := 1182) Z dL_law_1182 ?_
  refine z_sld (pc := 1183) Z (n + 1) (nI_add n 1) (by omega) (by omega) dL_law_1183 ?_
  refine z_aload_n (pc := 1184) Z dL_law_1184 rfl 0 rfl ?_
  refine z_iload_n (pc := 1185) Z dL_law_1185 rfl 3 rfl ?_
  refine z_iconst (pc := 1186) (v := 2) Z dL_law_1186 (by decide) ?_
  refine z_iadd (pc := 1187) Z dL_law_1187 ?_
  refine z_sld (pc := 1188) Z (n + 2) (nI_add n 2) (by omega) (by omega) dL_law_1188 ?_
  refine z_aload_n (pc := 1189) Z dL_law_1189 rfl 0 rfl ?_
  refine z_iload_n (pc := 1190) Z dL_law_1190 rfl 3 rfl ?_
  refine z_iconst (pc := 1191) (v := 3) Z dL_law_1191 (by decide) ?_
  refine z_iadd (pc := 1192) Z dL_law_1192 ?_
  refine z_sld (pc := 1193) Z (n + 3) (nI_add n 3) (by omega) (by omega) dL_law_1193 ?_
  refine z_callCi (pc := 1194) (As := [.int (xs (n + 1)), .int (xs (n + 2)), .int (xs (n + 3))]) (rest := []) Z (kX8_sheet l (zX_C Z).2.2.2.2.2.2.2 F _ _ _ _ _ _ h1) kvL_133 rfl ⟨rfl, rfl, Nat.le_of_ble_eq_true rfl, Nat.le_of_ble_eq_true rfl⟩ rfl rfl (Nat.le_of_ble_eq_true rfl) dL_law_1194 ?_
  refine z_aload_n (pc := 1197) Z dL_law_1197 rfl 2 rfl ?_
  refine z_aload_n (pc := 1198) Z dL_law_1198 rfl 0 rfl ?_
  refine z_iload_n (pc := 1199) Z dL_law_1199 rfl 3 rfl ?_
  refine z_iconst (pc := 1200) (v := 1) Z dL_law_1200 (by decide) ?_
  refine z_iadd (pc := 1201) Z dL_law_1201 ?_
  refine z_sld (pc := 1202) Z (n + 1) (nI_add n 1) (by omega) (by omega) dL_law_1202 ?_
  refine z_aload_n (pc := 1203) Z dL_law_1203 rfl 0 rfl ?_
  refine z_iload_n (pc := 1204) Z dL_law_1204 rfl 3 rfl ?_
  refine z_iconst (pc := 1205) (v := 2) Z dL_law_1205 (by decide) ?_
  refine z_iadd (pc := 1206) Z dL_law_1206 ?_
  refine z_sld (pc := 1207) Z (n + 2) (nI_add n 2) (by omega) (by omega) dL_law_1207 ?_
  refine z_aload_n (pc := 1208) Z dL_law_1208 rfl 0 rfl ?_
  refine z_iload_n (pc := 1209) Z dL_law_1209 rfl 3 rfl ?_
  refine z_iconst (pc := 1210) (v := 3) Z dL_law_1210 (by decide) ?_
  refine z_iadd (pc := 1211) Z dL_law_1211 ?_
  refine z_sld (pc := 1212) Z (n + 3) (nI_add n 3) (by omega) (by omega) dL_law_1212 ?_
  refine z_callMi (pc := 1213) (As := [.int (xs (n + 1)), .int (xs (n + 2)), .int (xs (n + 3))]) (rest := [.int r]) Z (kX9_sheet l (zX_M Z).2.2.2.2.2.2.2 F _ _ _ _ _ _ h2) kvL_136 rfl ⟨rfl, rfl, Nat.le_of_ble_eq_true rfl, Nat.le_of_ble_eq_true rfl⟩ rfl rfl (Nat.le_of_ble_eq_true rfl) dL_law_1213 ?_
  refine z_icmp_eq (pc := 1216) Z 1473 dL_law_1216 (by decide) ?_
  exact kk σc' σm' hR'
def zP_lose (F : Nat) (Rel : xSt → xSt → Prop) : Prop := ∀ σc σm : xSt, Rel σc σm → ∀ (a1 : Int32), ∃ (r : Int32) (σc' σm' : xSt), mX8_lose F a1 σc = some (r, σc') ∧ mX9_lose F a1 σm = some (r, σm') ∧ Rel σc' σm'
set_option maxRecDepth 100000 in
set_option maxHeartbeats 4000000 in
theorem z_case_lose {p : Program} {l : Launch} {e : Env} {s : State} {m : MethodId} {below : List Frame} {meth : Method} {c : Code} {D : va_G} {adC adM : Nat → Nat} {cI cZ cS : ClassId} {b L td cs sl : Nat} {xs : Nat → Int32} {σc σm : xSt} (Z : zX p s m meth c D adC adM cI cZ cS b L td cs sl xs) (F n : Nat) (Rel : xSt → xSt → Prop) (hO : zP_lose F Rel) (hn : n + 6 ≤ L) (hL : L ≤ 384) (hR : Rel σc σm) (kk : ∀ σc' σm', Rel σc' σm' → zG p l e s m below meth c D adC adM cI cZ cS b cs sl σc' σm' 1473 [(0, .ref b), (1, .ref (adC 0)), (2, .ref (adM 0)), (3, .int (nI n))] []) : zG p l e s m below meth c D adC adM cI cZ cS b cs sl σc σm 1221 [(0, .ref b), (1, .ref (adC 0)), (2, .ref (adM 0)), (3, .int (nI n))] [] := by
  obtain ⟨r, σc', σm', h1, h2, hR'⟩ := hO σc σm hR (xs (n + 1))
  refine z_aload_n (pc := 1221) Z dL_law_1221 rfl 1 rfl ?_
  refine z_aload_n (pc := 1222) Z dL_law_1222 rfl 0 rfl ?_
  refine z_iload_n (pc := 1223) Z dL_law_1223 rfl 3 rfl ?_
  refine z_iconst (pc := 1224) (v := 1) Z dL_law_1224 (by decide) ?_
  refine z_iadd (pc := 1225) Z dL_law_1225 ?_
  refine z_sld (pc := 1226) Z (n + 1) (nI_add n 1) (by omega) (by omega) dL_law_1226 ?_
  refine z_callCi (pc := 1227) (As := [.int (xs (n + 1))]) (rest := []) Z (kX8_lose l (zX_C Z).2.2.2.2.2.2.2 F _ _ _ _ h1) kvL_137 rfl ⟨rfl, rfl, Nat.le_of_ble_eq_true rfl, Nat.le_of_ble_eq_true rfl⟩ rfl rfl (Nat.le_of_ble_eq_true rfl) dL_law_1227 ?_
  refine z_aload_n (pc := 1230) Z dL_law_1230 rfl 2 rfl ?_
  refine z_aload_n (pc := 1231) Z dL_law_1231 rfl 0 rfl ?_
  refine z_iload_n (pc := 1232) Z dL_law_1232 rfl 3 rfl ?_
  refine z_iconst (pc := 1233) (v := 1) Z dL_law_1233 (by decide) ?_
  refine z_iadd (pc := 1234) Z dL_law_1234 ?_
  refine z_sld (pc := 1235) Z (n + 1) (nI_add n 1) (by omega) (by omega) dL_law_1235 ?_
  refine z_callMi (pc := 1236) (As := [.int (xs (n + 1))]) (rest := [.int r]) Z (kX9_lose l (zX_M Z).2.2.2.2.2.2.2 F _ _ _ _ h2) kvL_140 rfl ⟨rfl, rfl, Nat.le_of_ble_eq_true rfl, Nat.le_of_ble_eq_true rfl⟩ rfl rfl (Nat.le_of_ble_eq_true rfl) dL_law_1236 ?_
  refine z_icmp_eq (pc := 1239) Z 1473 dL_law_1239 (by decide) ?_
  exact kk σc' σm' hR'
def zP_put (F : Nat) (Rel : xSt → xSt → Prop) : Prop := ∀ σc σm : xSt, Rel σc σm → ∀ (a1 a2 a3 a4 : Int32), ∃ (r : Int32) (σc' σm' : xSt), mX8_put F a1 a2 a3 a4 σc = some (r, σc') ∧ mX9_put F a1 a2 a3 a4 σm = some (r, σm') ∧ Rel σc' σm'
set_option maxRecDepth 100000 in
set_option maxHeartbeats 4000000 in
theorem z_case_put {p : Program} {l : Launch} {e : Env} {s : State} {m : MethodId} {below : List Frame} {meth : Method} {c : Code} {D : va_G} {adC adM : Nat → Nat} {cI cZ cS : ClassId} {b L td cs sl : Nat} {xs : Nat → Int32} {σc σm : xSt} (Z : zX p s m meth c D adC adM cI cZ cS b L td cs sl xs) (F n : Nat) (Rel : xSt → xSt → Prop) (hO : zP_put F Rel) (hn : n + 6 ≤ L) (hL : L ≤ 384) (hR : Rel σc σm) (kk : ∀ σc' σm', Rel σc' σm' → zG p l e s m below meth c D adC adM cI cZ cS b cs sl σc' σm' 1473 [(0, .ref b), (1, .ref (adC 0)), (2, .ref (adM 0)), (3, .int (nI n))] []) : zG p l e s m below meth c D adC adM cI cZ cS b cs sl σc σm 1244 [(0, .ref b), (1, .ref (adC 0)), (2, .ref (adM 0)), (3, .int (nI n))] [] := by
  obtain ⟨r, σc', σm', h1, h2, hR'⟩ := hO σc σm hR (xs (n + 1)) (xs (n + 2)) (xs (n + 3)) (xs (n + 4))
  refine z_aload_n (pc := 1244) Z dL_law_1244 rfl 1 rfl ?_
  refine z_aload_n (pc := 1245) Z dL_law_1245 rfl 0 rfl ?_
  refine z_iload_n (pc := 1246) Z dL_law_1246 rfl 3 rfl ?_
  refine z_iconst (pc := 1247) (v := 1) Z dL_law_1247 (by decide) ?_
  refine z_iadd (pc := 1248) Z dL_law_1248 ?_
  refine z_sld (pc := 1249) Z (n + 1) (nI_add n 1) (by omega) (by omega) dL_law_1249 ?_
  refine z_aload_n (pc := 1250) Z dL_law_1250 rfl 0 rfl ?_
  refine z_iload_n (pc := 1251) Z dL_law_1251 rfl 3 rfl ?_
  refine z_iconst (pc := 1252) (v := 2) Z dL_law_1252 (by decide) ?_
  refine z_iadd (pc := 1253) Z dL_law_1253 ?_
  refine z_sld (pc := 1254) Z (n + 2) (nI_add n 2) (by omega) (by omega) dL_law_1254 ?_
  refine z_aload_n (pc := 1255) Z dL_law_1255 rfl 0 rfl ?_
  refine z_iload_n (pc := 1256) Z dL_law_1256 rfl 3 rfl ?_
  refine z_iconst (pc := 1257) (v := 3) Z dL_law_1257 (by decide) ?_
  refine z_iadd (pc := 1258) Z dL_law_1258 ?_
  refine z_sld (pc := 1259) Z (n + 3) (nI_add n 3) (by omega) (by omega) dL_law_1259 ?_
  refine z_aload_n (pc := 1260) Z dL_law_1260 rfl 0 rfl ?_
  refine z_iload_n (pc := 1261) Z dL_law_1261 rfl 3 rfl ?_
  refine z_iconst (pc := 1262) (v := 4) Z dL_law_1262 (by decide) ?_
  refine z_iadd (pc := 1263) Z dL_law_1263 ?_
  refine z_sld (pc := 1264) Z (n + 4) (nI_add n 4) (by omega) (by omega) dL_law_1264 ?_
  refine z_callCi (pc := 1265) (As := [.int (xs (n + 1)), .int (xs (n + 2)), .int (xs (n + 3)), .int (xs (n + 4))]) (rest := []) Z (kX8_put l (zX_C Z).2.2.2.2.2.2.2 F _ _ _ _ _ _ _ h1) kvL_141 rfl ⟨rfl, rfl, Nat.le_of_ble_eq_true rfl, Nat.le_of_ble_eq_true rfl⟩ rfl rfl (Nat.le_of_ble_eq_true rfl) dL_law_1265 ?_
  refine z_aload_n (pc := 1268) Z dL_law_1268 rfl 2 rfl ?_
  refine z_aload_n (pc := 1269) Z dL_law_1269 rfl 0 rfl ?_
  refine z_iload_n (pc := 1270) Z dL_law_1270 rfl 3 rfl ?_
  refine z_iconst (pc := 1271) (v := 1) Z dL_law_1271 (by decide) ?_
  refine z_iadd (pc := 1272) Z dL_law_1272 ?_
  refine z_sld (pc := 1273) Z (n + 1) (nI_add n 1) (by omega) (by omega) dL_law_1273 ?_
  refine z_aload_n (pc := 1274) Z dL_law_1274 rfl 0 rfl ?_
  refine z_iload_n (pc := 1275) Z dL_law_1275 rfl 3 rfl ?_
  refine z_iconst (pc := 1276) (v := 2) Z dL_law_1276 (by decide) ?_
  refine z_iadd (pc := 1277) Z dL_law_1277 ?_
  refine z_sld (pc := 1278) Z (n + 2) (nI_add n 2) (by omega) (by omega) dL_law_1278 ?_
  refine z_aload_n (pc := 1279) Z dL_law_1279 rfl 0 rfl ?_
  refine z_iload_n (pc := 1280) Z dL_law_1280 rfl 3 rfl ?_
  refine z_iconst (pc := 1281) (v := 3) Z dL_law_1281 (by decide) ?_
  refine z_iadd (pc := 1282) Z dL_law_1282 ?_
  refine z_sld (pc := 1283) Z (n + 3) (nI_add n 3) (by omega) (by omega) dL_law_1283 ?_
  refine z_aload_n (pc := 1284) Z dL_law_1284 rfl 0 rfl ?_
  refine z_iload_n (pc := 1285) Z dL_law_1285 rfl 3 rfl ?_
  refine z_iconst (pc := 1286) (v := 4) Z dL_law_1286 (by decide) ?_
  refine z_iadd (pc := 1287) Z dL_law_1287 ?_
  refine z_sld (pc := 1288) Z (n + 4) (nI_add n 4) (by omega) (by omega) dL_law_1288 ?_
  refine z_callMi (pc := 1289) (As := [.int (xs (n + 1)), .int (xs (n + 2)), .int (xs (n + 3)), .int (xs (n + 4))]) (rest := [.int r]) Z (kX9_put l (zX_M Z).2.2.2.2.2.2.2 F _ _ _ _ _ _ _ h2) kvL_144 rfl ⟨rfl, rfl, Nat.le_of_ble_eq_true rfl, Nat.le_of_ble_eq_true rfl⟩ rfl rfl (Nat.le_of_ble_eq_true rfl) dL_law_1289 ?_
  refine z_icmp_eq (pc := 1292) Z 1473 dL_law_1292 (by decide) ?_
  exact kk σc' σm' hR'
def zP_get (F : Nat) (Rel : xSt → xSt → Prop) : Prop := ∀ σc σm : xSt, Rel σc σm → ∀ (a1 a2 a3 : Int32), ∃ (r : Int32) (σc' σm' : xSt), mX8_get F a1 a2 a3 σc = some (r, σc') ∧ mX9_get F a1 a2 a3 σm = some (r, σm') ∧ Rel σc' σm'
set_option maxRecDepth 100000 in
set_option maxHeartbeats 4000000 in
theorem z_case_get {p : Program} {l : Launch} {e : Env} {s : State} {m : MethodId} {below : List Frame} {meth : Method} {c : Code} {D : va_G} {adC adM : Nat → Nat} {cI cZ cS : ClassId} {b L td cs sl : Nat} {xs : Nat → Int32} {σc σm : xSt} (Z : zX p s m meth c D adC adM cI cZ cS b L td cs sl xs) (F n : Nat) (Rel : xSt → xSt → Prop) (hO : zP_get F Rel) (hn : n + 6 ≤ L) (hL : L ≤ 384) (hR : Rel σc σm) (kk : ∀ σc' σm', Rel σc' σm' → zG p l e s m below meth c D adC adM cI cZ cS b cs sl σc' σm' 1473 [(0, .ref b), (1, .ref (adC 0)), (2, .ref (adM 0)), (3, .int (nI n))] []) : zG p l e s m below meth c D adC adM cI cZ cS b cs sl σc σm 1297 [(0, .ref b), (1, .ref (adC 0)), (2, .ref (adM 0)), (3, .int (nI n))] [] := by
  obtain ⟨r, σc', σm', h1, h2, hR'⟩ := hO σc σm hR (xs (n + 1)) (xs (n + 2)) (xs (n + 3))
  refine z_aload_n (pc := 1297) Z dL_law_1297 rfl 1 rfl ?_
  refine z_aload_n (pc := 1298) Z dL_law_1298 rfl 0 rfl ?_
  refine z_iload_n (pc := 1299) Z dL_law_1299 rfl 3 rfl ?_
  refine z_iconst (pc := 1300) (v := 1) Z dL_law_1300 (by decide) ?_
  refine z_iadd (pc := 1301) Z dL_law_1301 ?_
  refine z_sld (pc := 1302) Z (n + 1) (nI_add n 1) (by omega) (by omega) dL_law_1302 ?_
  refine z_aload_n (pc := 1303) Z dL_law_1303 rfl 0 rfl ?_
  refine z_iload_n (pc := 1304) Z dL_law_1304 rfl 3 rfl ?_
  refine z_iconst (pc := 1305) (v := 2) Z dL_law_1305 (by decide) ?_
  refine z_iadd (pc := 1306) Z dL_law_1306 ?_
  refine z_sld (pc := 1307) Z (n + 2) (nI_add n 2) (by omega) (by omega) dL_law_1307 ?_
  refine z_aload_n (pc := 1308) Z dL_law_1308 rfl 0 rfl ?_
  refine z_iload_n (pc := 1309) Z dL_law_1309 rfl 3 rfl ?_
  refine z_iconst (pc := 1310) (v := 3) Z dL_law_1310 (by decide) ?_
  refine z_iadd (pc := 1311) Z dL_law_1311 ?_
  refine z_sld (pc := 1312) Z (n + 3) (nI_add n 3) (by omega) (by omega) dL_law_1312 ?_
  refine z_callCi (pc := 1313) (As := [.int (xs (n + 1)), .int (xs (n + 2)), .int (xs (n + 3))]) (rest := []) Z (kX8_get l (zX_C Z).2.2.2.2.2.2.2 F _ _ _ _ _ _ h1) kvL_145 rfl ⟨rfl, rfl, Nat.le_of_ble_eq_true rfl, Nat.le_of_ble_eq_true rfl⟩ rfl rfl (Nat.le_of_ble_eq_true rfl) dL_law_1313 ?_
  refine z_aload_n (pc := 1316) Z dL_law_1316 rfl 2 rfl ?_
  refine z_aload_n (pc := 1317) Z dL_law_1317 rfl 0 rfl ?_
  refine z_iload_n (pc := 1318) Z dL_law_1318 rfl 3 rfl ?_
  refine z_iconst (pc := 1319) (v := 1) Z dL_law_1319 (by decide) ?_
  refine z_iadd (pc := 1320) Z dL_law_1320 ?_
  refine z_sld (pc := 1321) Z (n + 1) (nI_add n 1) (by omega) (by omega) dL_law_1321 ?_
  refine z_aload_n (pc := 1322) Z dL_law_1322 rfl 0 rfl ?_
  refine z_iload_n (pc := 1323) Z dL_law_1323 rfl 3 rfl ?_
  refine z_iconst (pc := 1324) (v := 2) Z dL_law_1324 (by decide) ?_
  refine z_iadd (pc := 1325) Z dL_law_1325 ?_
  refine z_sld (pc := 1326) Z (n + 2) (nI_add n 2) (by omega) (by omega) dL_law_1326 ?_
  refine z_aload_n (pc := 1327) Z dL_law_1327 rfl 0 rfl ?_
  refine z_iload_n (pc := 1328) Z dL_law_1328 rfl 3 rfl ?_
  refine z_iconst (pc := 1329) (v := 3) Z dL_law_1329 (by decide) ?_
  refine z_iadd (pc := 1330) Z dL_law_1330 ?_
  refine z_sld (pc := 1331) Z (n + 3) (nI_add n 3) (by omega) (by omega) dL_law_1331 ?_
  refine z_callMi (pc := 1332) (As := [.int (xs (n + 1)), .int (xs (n + 2)), .int (xs (n + 3))]) (rest := [.int r]) Z (kX9_get l (zX_M Z).2.2.2.2.2.2.2 F _ _ _ _ _ _ h2) kvL_148 rfl ⟨rfl, rfl, Nat.le_of_ble_eq_true rfl, Nat.le_of_ble_eq_true rfl⟩ rfl rfl (Nat.le_of_ble_eq_true rfl) dL_law_1332 ?_
  refine z_icmp_eq (pc := 1335) Z 1473 dL_law_1335 (by decide) ?_
  exact kk σc' σm' hR'
def zP_copy (F : Nat) (Rel : xSt → xSt → Prop) : Prop := ∀ σc σm : xSt, Rel σc σm → ∀ (a1 a2 a3 a4 a5 : Int32), ∃ (r : Int32) (σc' σm' : xSt), mX8_copy F a1 a2 a3 a4 a5 σc = some (r, σc') ∧ mX9_copy F a1 a2 a3 a4 a5 σm = some (r, σm') ∧ Rel σc' σm'
set_option maxRecDepth 100000 in
set_option maxHeartbeats 4000000 in
theorem z_case_copy {p : Program} {l : Launch} {e : Env} {s : State} {m : MethodId} {below : List Frame} {meth : Method} {c : Code} {D : va_G} {adC adM : Nat → Nat} {cI cZ cS : ClassId} {b L td cs sl : Nat} {xs : Nat → Int32} {σc σm : xSt} (Z : zX p s m meth c D adC adM cI cZ cS b L td cs sl xs) (F n : Nat) (Rel : xSt → xSt → Prop) (hO : zP_copy F Rel) (hn : n + 6 ≤ L) (hL : L ≤ 384) (hR : Rel σc σm) (kk : ∀ σc' σm', Rel σc' σm' → zG p l e s m below meth c D adC adM cI cZ cS b cs sl σc' σm' 1473 [(0, .ref b), (1, .ref (adC 0)), (2, .ref (adM 0)), (3, .int (nI n))] []) : zG p l e s m below meth c D adC adM cI cZ cS b cs sl σc σm 1340 [(0, .ref b), (1, .ref (adC 0)), (2, .ref (adM 0)), (3, .int (nI n))] [] := by
  obtain ⟨r, σc', σm', h1, h2, hR'⟩ := hO σc σm hR (xs (n + 1)) (xs (n + 2)) (xs (n + 3)) (xs (n + 4)) (xs (n + 5))
  refine z_aload_n (pc := 1340) Z dL_law_1340 rfl 1 rfl ?_
  refine z_aload_n (pc := 1341) Z dL_law_1341 rfl 0 rfl ?_
  refine z_iload_n (pc := 1342) Z dL_law_1342 rfl 3 rfl ?_
  refine z_iconst (pc := 1343) (v := 1) Z dL_law_1343 (by decide) ?_
  refine z_iadd (pc := 1344) Z dL_law_1344 ?_
  refine z_sld (pc := 1345) Z (n + 1) (nI_add n 1) (by omega) (by omega) dL_law_1345 ?_
  refine z_aload_n (pc := 1346) Z dL_law_1346 rfl 0 rfl ?_
  refine z_iload_n (pc := 1347) Z dL_law_1347 rfl 3 rfl ?_
  refine z_iconst (pc := 1348) (v := 2) Z dL_law_1348 (by decide) ?_
  refine z_iadd (pc := 1349) Z dL_law_1349 ?_
  refine z_sld (pc := 1350) Z (n + 2) (nI_add n 2) (by omega) (by omega) dL_law_1350 ?_
  refine z_aload_n (pc := 1351) Z dL_law_1351 rfl 0 rfl ?_
  refine z_iload_n (pc := 1352) Z dL_law_1352 rfl 3 rfl ?_
  refine z_iconst (pc := 1353) (v := 3) Z dL_law_1353 (by decide) ?_
  refine z_iadd (pc := 1354) Z dL_law_1354 ?_
  refine z_sld (pc := 1355) Z (n + 3) (nI_add n 3) (by omega) (by omega) dL_law_1355 ?_
  refine z_aload_n (pc := 1356) Z dL_law_1356 rfl 0 rfl ?_
  refine z_iload_n (pc := 1357) Z dL_law_1357 rfl 3 rfl ?_
  refine z_iconst (pc := 1358) (v := 4) Z dL_law_1358 (by decide) ?_
  refine z_iadd (pc := 1359) Z dL_law_1359 ?_
  refine z_sld (pc := 1360) Z (n + 4) (nI_add n 4) (by omega) (by omega) dL_law_1360 ?_
  refine z_aload_n (pc := 1361) Z dL_law_1361 rfl 0 rfl ?_
  refine z_iload_n (pc := 1362) Z dL_law_1362 rfl 3 rfl ?_
  refine z_iconst (pc := 1363) (v := 5) Z dL_law_1363 (by decide) ?_
  refine z_iadd (pc := 1364) Z dL_law_1364 ?_
  refine z_sld (pc := 1365) Z (n + 5) (nI_add n 5) (by omega) (by omega) dL_law_1365 ?_
  refine z_callCi (pc := 1366) (As := [.int (xs (n + 1)), .int (xs (n + 2)), .int (xs (n + 3)), .int (xs (n + 4)), .int (xs (n + 5))]) (rest := []) Z (kX8_copy l (zX_C Z).2.2.2.2.2.2.2 F _ _ _ _ _ _ _ _ h1) kvL_149 rfl ⟨rfl, rfl, Nat.le_of_ble_eq_true rfl, Nat.le_of_ble_eq_true rfl⟩ rfl rfl (Nat.le_of_ble_eq_true rfl) dL_law_1366 ?_
  refine z_aload_n (pc := 1369) Z dL_law_1369 rfl 2 rfl ?_
  refine z_aload_n (pc := 1370) Z dL_law_1370 rfl 0 rfl ?_
  refine z_iload_n (pc := 1371) Z dL_law_1371 rfl 3 rfl ?_
  refine z_iconst (pc := 1372) (v := 1) Z dL_law_1372 (by decide) ?_
  refine z_iadd (pc := 1373) Z dL_law_1373 ?_
  refine z_sld (pc := 1374) Z (n + 1) (nI_add n 1) (by omega) (by omega) dL_law_1374 ?_
  refine z_aload_n (pc := 1375) Z dL_law_1375 rfl 0 rfl ?_
  refine z_iload_n (pc := 1376) Z dL_law_1376 rfl 3 rfl ?_
  refine z_iconst (pc := 1377) (v := 2) Z dL_law_1377 (by decide) ?_
  refine z_iadd (pc := 1378) Z dL_law_1378 ?_
  refine z_sld (pc := 1379) Z (n + 2) (nI_add n 2) (by omega) (by omega) dL_law_1379 ?_
  refine z_aload_n (pc := 1380) Z dL_law_1380 rfl 0 rfl ?_
  refine z_iload_n (pc := 1381) Z dL_law_1381 rfl 3 rfl ?_
  refine z_iconst (pc := 1382) (v := 3) Z dL_law_1382 (by decide) ?_
  refine z_iadd (pc := 1383) Z dL_law_1383 ?_
  refine z_sld (pc := 1384) Z (n + 3) (nI_add n 3) (by omega) (by omega) dL_law_1384 ?_
  refine z_aload_n (pc := 1385) Z dL_law_1385 rfl 0 rfl ?_
  refine z_iload_n (pc := 1386) Z dL_law_1386 rfl 3 rfl ?_
  refine z_iconst (pc := 1387) (v := 4) Z dL_law_1387 (by decide) ?_
  refine z_iadd (pc := 1388) Z dL_law_1388 ?_
  refine z_sld (pc := 1389) Z (n + 4) (nI_add n 4) (by omega) (by omega) dL_law_1389 ?_
  refine z_aload_n (pc := 1390) Z dL_law_1390 rfl 0 rfl ?_
  refine z_iload_n (pc := 1391) Z dL_law_1391 rfl 3 rfl ?_
  refine z_iconst (pc := 1392) (v := 5) Z dL_law_1392 (by decide) ?_
  refine z_iadd (pc := 1393) Z dL_law_1393 ?_
  refine z_sld (pc := 1394) Z (n + 5) (nI_add n 5) (by omega) (by omega) dL_law_1394 ?_
  refine z_callMi (pc := 1395) (As := [.int (xs (n + 1)), .int (xs (n + 2)), .int (xs (n + 3)), .int (xs (n + 4)), .int (xs (n + 5))]) (rest := [.int r]) Z (kX9_copy l (zX_M Z).2.2.2.2.2.2.2 F _ _ _ _ _ _ _ _ h2) kvL_152 rfl ⟨rfl, rfl, Nat.le_of_ble_eq_true rfl, Nat.le_of_ble_eq_true rfl⟩ rfl rfl (Nat.le_of_ble_eq_true rfl) dL_law_1395 ?_
  refine z_icmp_eq (pc := 1398) Z 1473 dL_law_1398 (by decide) ?_
  exact kk σc' σm' hR'
def zP_write (F : Nat) (Rel : xSt → xSt → Prop) : Prop := ∀ σc σm : xSt, Rel σc σm → ∀ (a1 a2 : Int32), ∃ (r : Int32) (σc' σm' : xSt), mX8_write F a1 a2 σc = some (r, σc') ∧ mX9_write F a1 a2 σm = some (r, σm') ∧ Rel σc' σm'
set_option maxRecDepth 100000 in
set_option maxHeartbeats 4000000 in
theorem z_case_write {p : Program} {l : Launch} {e : Env} {s : State} {m : MethodId} {below : List Frame} {meth : Method} {c : Code} {D : va_G} {adC adM : Nat → Nat} {cI cZ cS : ClassId} {b L td cs sl : Nat} {xs : Nat → Int32} {σc σm : xSt} (Z : zX p s m meth c D adC adM cI cZ cS b L td cs sl xs) (F n : Nat) (Rel : xSt → xSt → Prop) (hO : zP_write F Rel) (hn : n + 6 ≤ L) (hL : L ≤ 384) (hR : Rel σc σm) (kk : ∀ σc' σm', Rel σc' σm' → zG p l e s m below meth c D adC adM cI cZ cS b cs sl σc' σm' 1473 [(0, .ref b), (1, .ref (adC 0)), (2, .ref (adM 0)), (3, .int (nI n))] []) : zG p l e s m below meth c D adC adM cI cZ cS b cs sl σc σm 1403 [(0, .ref b), (1, .ref (adC 0)), (2, .ref (adM 0)), (3, .int (nI n))] [] := by
  obtain ⟨r, σc', σm', h1, h2, hR'⟩ := hO σc σm hR (xs (n + 1)) (xs (n + 2))
  refine z_aload_n (pc := 1403) Z dL_law_1403 rfl 1 rfl ?_
  refine z_aload_n (pc := 1404) Z dL_law_1404 rfl 0 rfl ?_
  refine z_iload_n (pc := 1405) Z dL_law_1405 rfl 3 rfl ?_
  refine z_iconst (pc := 1406) (v := 1) Z dL_law_1406 (by decide) ?_
  refine z_iadd (pc := 1407) Z dL_law_1407 ?_
  refine z_sld (pc := 1408) Z (n + 1) (nI_add n 1) (by omega) (by omega) dL_law_1408 ?_
  refine z_aload_n (pc := 1409) Z dL_law_1409 rfl 0 rfl ?_
  refine z_iload_n (pc := 1410) Z dL_law_1410 rfl 3 rfl ?_
  refine z_iconst (pc := 1411) (v := 2) Z dL_law_1411 (by decide) ?_
  refine z_iadd (pc := 1412) Z dL_law_1412 ?_
  refine z_sld (pc := 1413) Z (n + 2) (nI_add n 2) (by omega) (by omega) dL_law_1413 ?_
  refine z_callCi (pc := 1414) (As := [.int (xs (n + 1)), .int (xs (n + 2))]) (rest := []) Z (kX8_write l (zX_C Z).2.2.2.2.2.2.2 F _ _ _ _ _ h1) kvL_153 rfl ⟨rfl, rfl, Nat.le_of_ble_eq_true rfl, Nat.le_of_ble_eq_true rfl⟩ rfl rfl (Nat.le_of_ble_eq_true rfl) dL_law_1414 ?_
  refine z_aload_n (pc := 1417) Z dL_law_1417 rfl 2 rfl ?_
  refine z_aload_n (pc := 1418) Z dL_law_1418 rfl 0 rfl ?_
  refine z_iload_n (pc := 1419) Z dL_law_1419 rfl 3 rfl ?_
  refine z_iconst (pc := 1420) (v := 1) Z dL_law_1420 (by decide) ?_
  refine z_iadd (pc := 1421) Z dL_law_1421 ?_
  refine z_sld (pc := 1422) Z (n + 1) (nI_add n 1) (by omega) (by omega) dL_law_1422 ?_
  refine z_aload_n (pc := 1423) Z dL_law_1423 rfl 0 rfl ?_
  refine z_iload_n (pc := 1424) Z dL_law_1424 rfl 3 rfl ?_
  refine z_iconst (pc := 1425) (v := 2) Z dL_law_1425 (by decide) ?_
  refine z_iadd (pc := 1426) Z dL_law_1426 ?_
  refine z_sld (pc := 1427) Z (n + 2) (nI_add n 2) (by omega) (by omega) dL_law_1427 ?_
  refine z_callMi (pc := 1428) (As := [.int (xs (n + 1)), .int (xs (n + 2))]) (rest := [.int r]) Z (kX9_write l (zX_M Z).2.2.2.2.2.2.2 F _ _ _ _ _ h2) kvL_156 rfl ⟨rfl, rfl, Nat.le_of_ble_eq_true rfl, Nat.le_of_ble_eq_true rfl⟩ rfl rfl (Nat.le_of_ble_eq_true rfl) dL_law_1428 ?_
  refine z_icmp_eq (pc := 1431) Z 1473 dL_law_1431 (by decide) ?_
  exact kk σc' σm' hR'
def zP_count (F : Nat) (Rel : xSt → xSt → Prop) : Prop := ∀ σc σm : xSt, Rel σc σm → ∀ (a1 : Int32), ∃ (r : Int32) (σc' σm' : xSt), mX8_count F a1 σc = some (r, σc') ∧ mX9_count F a1 σm = some (r, σm') ∧ Rel σc' σm'
set_option maxRecDepth 100000 in
set_option maxHeartbeats 4000000 in
theorem z_case_count {p : Program} {l : Launch} {e : Env} {s : State} {m : MethodId} {below : List Frame} {meth : Method} {c : Code} {D : va_G} {adC adM : Nat → Nat} {cI cZ cS : ClassId} {b L td cs sl : Nat} {xs : Nat → Int32} {σc σm : xSt} (Z : zX p s m meth c D adC adM cI cZ cS b L td cs sl xs) (F n : Nat) (Rel : xSt → xSt → Prop) (hO : zP_count F Rel) (hn : n + 6 ≤ L) (hL : L ≤ 384) (hR : Rel σc σm) (kk : ∀ σc' σm', Rel σc' σm' → zG p l e s m below meth c D adC adM cI cZ cS b cs sl σc' σm' 1473 [(0, .ref b), (1, .ref (adC 0)), (2, .ref (adM 0)), (3, .int (nI n))] []) : zG p l e s m below meth c D adC adM cI cZ cS b cs sl σc σm 1436 [(0, .ref b), (1, .ref (adC 0)), (2, .ref (adM 0)), (3, .int (nI n))] [] := by
  obtain ⟨r, σc', σm', h1, h2, hR'⟩ := hO σc σm hR (xs (n + 1))
  refine z_aload_n (pc := 1436) Z dL_law_1436 rfl 1 rfl ?_
  refine z_aload_n (pc := 1437) Z dL_law_1437 rfl 0 rfl ?_
  refine z_iload_n (pc := 1438) Z dL_law_1438 rfl 3 rfl ?_
  refine z_iconst (pc := 1439) (v := 1) Z dL_law_1439 (by decide) ?_
  refine z_iadd (pc := 1440) Z dL_law_1440 ?_
  refine z_sld (pc := 1441) Z (n + 1) (nI_add n 1) (by omega) (by omega) dL_law_1441 ?_
  refine z_callCi (pc := 1442) (As := [.int (xs (n + 1))]) (rest := []) Z (kX8_count l (zX_C Z).2.2.2.2.2.2.2 F _ _ _ _ h1) kvL_157 rfl ⟨rfl, rfl, Nat.le_of_ble_eq_true rfl, Nat.le_of_ble_eq_true rfl⟩ rfl rfl (Nat.le_of_ble_eq_true rfl) dL_law_1442 ?_
  refine z_aload_n (pc := 1445) Z dL_law_1445 rfl 2 rfl ?_
  refine z_aload_n (pc := 1446) Z dL_law_1446 rfl 0 rfl ?_
  refine z_iload_n (pc := 1447) Z dL_law_1447 rfl 3 rfl ?_
  refine z_iconst (pc := 1448) (v := 1) Z dL_law_1448 (by decide) ?_
  refine z_iadd (pc := 1449) Z dL_law_1449 ?_
  refine z_sld (pc := 1450) Z (n + 1) (nI_add n 1) (by omega) (by omega) dL_law_1450 ?_
  refine z_callMi (pc := 1451) (As := [.int (xs (n + 1))]) (rest := [.int r]) Z (kX9_count l (zX_M Z).2.2.2.2.2.2.2 F _ _ _ _ h2) kvL_160 rfl ⟨rfl, rfl, Nat.le_of_ble_eq_true rfl, Nat.le_of_ble_eq_true rfl⟩ rfl rfl (Nat.le_of_ble_eq_true rfl) dL_law_1451 ?_
  refine z_icmp_eq (pc := 1454) Z 1473 dL_law_1454 (by decide) ?_
  exact kk σc' σm' hR'
def zP_digest (F : Nat) (Rel : xSt → xSt → Prop) : Prop := ∀ σc σm : xSt, Rel σc σm → ∃ (r : Int64) (σc' σm' : xSt), mX8_digest F σc = some (r, σc') ∧ mX9_digest F σm = some (r, σm') ∧ Rel σc' σm'
set_option maxRecDepth 100000 in
set_option maxHeartbeats 4000000 in
theorem z_case_digest {p : Program} {l : Launch} {e : Env} {s : State} {m : MethodId} {below : List Frame} {meth : Method} {c : Code} {D : va_G} {adC adM : Nat → Nat} {cI cZ cS : ClassId} {b L td cs sl : Nat} {xs : Nat → Int32} {σc σm : xSt} (Z : zX p s m meth c D adC adM cI cZ cS b L td cs sl xs) (F n : Nat) (Rel : xSt → xSt → Prop) (hO : zP_digest F Rel) (hn : n + 6 ≤ L) (hL : L ≤ 384) (hR : Rel σc σm) (kk : ∀ σc' σm', Rel σc' σm' → zG p l e s m below meth c D adC adM cI cZ cS b cs sl σc' σm' 1473 [(0, .ref b), (1, .ref (adC 0)), (2, .ref (adM 0)), (3, .int (nI n))] []) : zG p l e s m below meth c D adC adM cI cZ cS b cs sl σc σm 1459 [(0, .ref b), (1, .ref (adC 0)), (2, .ref (adM 0)), (3, .int (nI n))] [] := by
  obtain ⟨r, σc', σm', h1, h2, hR'⟩ := hO σc σm hR 
  refine z_aload_n (pc := 1459) Z dL_law_1459 rfl 1 rfl ?_
  refine z_callD (pc := 1460) (As := []) (rest := []) Z (kX8_digest l td (zX_C Z).2.2.2.2.2.2.2 F _ _ _ h1) kvL_161 rfl ⟨rfl, rfl, Nat.le_of_ble_eq_true rfl, Nat.le_of_ble_eq_true rfl⟩ rfl rfl (Nat.le_of_ble_eq_true rfl) dL_law_1460 ?_
  refine z_aload_n (pc := 1463) Z dL_law_1463 rfl 2 rfl ?_
  refine z_callMl (pc := 1464) (As := []) (rest := [.long r]) Z (kX9_digest l (zX_M Z).2.2.2.2.2.2.2 F _ _ _ h2) kvL_165 rfl ⟨rfl, rfl, Nat.le_of_ble_eq_true rfl, Nat.le_of_ble_eq_true rfl⟩ rfl rfl (Nat.le_of_ble_eq_true rfl) dL_law_1464 ?_
  refine z_lcmp (pc := 1467) Z dL_law_1467 ?_
  refine z_if_eq (pc := 1468) Z 1473 dL_law_1468 (by decide) ?_
  exact kk σc' σm' hR'
def zOK (F : Nat) (Rel : xSt → xSt → Prop) : Prop := zP_type F Rel ∧ zP_wipe F Rel ∧ zP_undo F Rel ∧ zP_fault F Rel ∧ zP_thing F Rel ∧ zP_person F Rel ∧ zP_sit F Rel ∧ zP_window F Rel ∧ zP_back F Rel ∧ zP_read F Rel ∧ zP_layers F Rel ∧ zP_strong F Rel ∧ zP_tells F Rel ∧ zP_nowhere F Rel ∧ zP_last F Rel ∧ zP_together F Rel ∧ zP_hide F Rel ∧ zP_frame F Rel ∧ zP_air F Rel ∧ zP_known F Rel ∧ zP_smelt F Rel ∧ zP_forget F Rel ∧ zP_when F Rel ∧ zP_who F Rel ∧ zP_stand F Rel ∧ zP_draughts F Rel ∧ zP_found F Rel ∧ zP_day F Rel ∧ zP_sheet F Rel ∧ zP_lose F Rel ∧ zP_put F Rel ∧ zP_get F Rel ∧ zP_copy F Rel ∧ zP_write F Rel ∧ zP_count F Rel ∧ zP_digest F Rel
