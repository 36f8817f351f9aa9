theorem lg_same (x : Int64) : lg_cmp x x = 0 := by simp [lg_cmp]
theorem dL_law_220 : decode cL_law 220 = .ok (.aload_n 1, 1) := by decide +kernel
theorem dL_law_221 : decode cL_law 221 = .ok (.aload_n 0, 1) := by decide +kernel
theorem dL_law_222 : decode cL_law 222 = .ok (.iload_n 3, 1) := by decide +kernel
theorem dL_law_223 : decode cL_law 223 = .ok (.iconst 1, 1) := by decide +kernel
theorem dL_law_224 : decode cL_law 224 = .ok (.iadd, 1) := by decide +kernel
theorem dL_law_225 : decode cL_law 225 = .ok (.iaload, 1) := by decide +kernel
theorem dL_law_226 : decode cL_law 226 = .ok (.invokevirtual 13, 3) := by decide +kernel
theorem dL_law_229 : decode cL_law 229 = .ok (.aload_n 2, 1) := by decide +kernel
theorem dL_law_230 : decode cL_law 230 = .ok (.aload_n 0, 1) := by decide +kernel
theorem dL_law_231 : decode cL_law 231 = .ok (.iload_n 3, 1) := by decide +kernel
theorem dL_law_232 : decode cL_law 232 = .ok (.iconst 1, 1) := by decide +kernel
theorem dL_law_233 : decode cL_law 233 = .ok (.iadd, 1) := by decide +kernel
theorem dL_law_234 : decode cL_law 234 = .ok (.iaload, 1) := by decide +kernel
theorem dL_law_235 : decode cL_law 235 = .ok (.invokevirtual 17, 3) := by decide +kernel
theorem dL_law_238 : decode cL_law 238 = .ok (.if_icmp .eq 1544, 3) := by decide +kernel
theorem dL_law_241 : decode cL_law 241 = .ok (.iconst 0, 1) := by decide +kernel
theorem dL_law_242 : decode cL_law 242 = .ok (.ireturn, 1) := by decide +kernel
set_option maxRecDepth 100000 in
set_option maxHeartbeats 4000000 in
theorem case_0 {p : Program} {l : Launch} {e : Env} {s : State} {m : MethodId} {args : Array Value} {below : List Frame} {meth : Method} {c : Code} {D : va_G} {ac : Nat → ClassId} {A : Nat → Prop} {Q : State → Prop} {adX adM : Nat → Nat} {b n nc ns : Nat} {xs : Nat → Int32} {N : Nat} {Rel : Mem → Mem → Prop} (hp : PureOk N Rel) (C : LC p s m args c D ac A adX adM b n xs) (hnc : nc ≤ 600000) (hns : ns ≤ 7302250) {x3 : Int32} (hi1 : vp_in (x3 + 1) n) (hi2 : vp_in (x3 + 2) n) (hi3 : vp_in (x3 + 3) n) (hi4 : vp_in (x3 + 4) n) (hi5 : vp_in (x3 + 5) n) (Mx Mm : Mem) (hrel : Rel Mx Mm) (next : ∀ Mx2 Mm2, Rel Mx2 Mm2 → Ac p l e room_1 s m args below meth c D A 4 Q 1782 [(0, .ref b), (1, .ref (adX 0)), (2, .ref (adM 0)), (3, .int x3)] [] (wXM ac adX adM Mx2 Mm2) nc ns) : Ac p l e room_1 s m args below meth c D A 4 Q 220 [(0, .ref b), (1, .ref (adX 0)), (2, .ref (adM 0)), (3, .int x3)] [] (wXM ac adX adM Mx Mm) nc ns := by
  obtain ⟨r, Mx2, Mm2, hx, hm, hrel2⟩ := (hp.2.1) Mx Mm (xs (x3 + 1).toNatClampNeg) hrel
  refine c_aload_n (pc := 220) C.1 dL_law_220 1 rfl ?_
  refine c_aload_n (pc := 221) C.1 dL_law_221 0 rfl ?_
  refine c_iload_n (pc := 222) C.1 dL_law_222 3 rfl ?_
  refine c_iconst (pc := 223) (v := 1) C.1 dL_law_223 (by decide) ?_
  refine c_iadd (pc := 224) C.1 dL_law_224 ?_
  refine c_sld (pc := 225) C dL_law_225 hi1 ?_
  refine l_callX_I (pc := 226) C dL_law_226 ml_L_13 mc_X7_points mv_X7_points rfl [.int (xs (x3 + 1).toNatClampNeg)] rfl (by decide) (by decide) rfl (Nat.le_of_ble_eq_true rfl) ⟨hnc, hns⟩ (c_X7_points N (xs (x3 + 1).toNatClampNeg) _ _ _ hx) ?_
  refine c_aload_n (pc := 229) C.1 dL_law_229 2 rfl ?_
  refine c_aload_n (pc := 230) C.1 dL_law_230 0 rfl ?_
  refine c_iload_n (pc := 231) C.1 dL_law_231 3 rfl ?_
  refine c_iconst (pc := 232) (v := 1) C.1 dL_law_232 (by decide) ?_
  refine c_iadd (pc := 233) C.1 dL_law_233 ?_
  refine c_sld (pc := 234) C dL_law_234 hi1 ?_
  refine l_callM_I (pc := 235) C dL_law_235 ml_L_17 mc_X8_points mv_X8_points rfl [.int (xs (x3 + 1).toNatClampNeg)] rfl (by decide) (by decide) rfl (Nat.le_of_ble_eq_true rfl) ⟨hnc, hns⟩ (c_X8_points N (xs (x3 + 1).toNatClampNeg) _ _ _ hm) ?_
  refine c_icmp_eq (pc := 238) 1782 C.1 dL_law_238 (by decide) (fun _ => ?_) (fun h => absurd rfl h)
  exact next _ _ hrel2
theorem dL_law_243 : decode cL_law 243 = .ok (.aload_n 1, 1) := by decide +kernel
theorem dL_law_244 : decode cL_law 244 = .ok (.aload_n 0, 1) := by decide +kernel
theorem dL_law_245 : decode cL_law 245 = .ok (.iload_n 3, 1) := by decide +kernel
theorem dL_law_246 : decode cL_law 246 = .ok (.iconst 1, 1) := by decide +kernel
theorem dL_law_247 : decode cL_law 247 = .ok (.iadd, 1) := by decide +kernel
theorem dL_law_248 : decode cL_law 248 = .ok (.iaload, 1) := by decide +kernel
theorem dL_law_249 : decode cL_law 249 = .ok (.aload_n 0, 1) := by decide +kernel
theorem dL_law_250 : decode cL_law 250 = .ok (.iload_n 3, 1) := by decide +kernel
theorem dL_law_251 : decode cL_law 251 = .ok (.iconst 2, 1) := by decide +kernel
theorem dL_law_252 : decode cL_law 252 = .ok (.iadd, 1) := by decide +kernel
theorem dL_law_253 : decode cL_law 253 = .ok (.iaload, 1) := by decide +kernel
theorem dL_law_254 : decode cL_law 254 = .ok (.aload_n 0, 1) := by decide +kernel
theorem dL_law_255 : decode cL_law 255 = .ok (.iload_n 3, 1) := by decide +kernel
theorem dL_law_256 : decode cL_law 256 = .ok (.iconst 3, 1) := by decide +kernel
theorem dL_law_257 : decode cL_law 257 = .ok (.iadd, 1) := by decide +kernel
theorem dL_law_258 : decode cL_law 258 = .ok (.iaload, 1) := by decide +kernel
theorem dL_law_259 : decode cL_law 259 = .ok (.aload_n 0, 1) := by decide +kernel
theorem dL_law_260 : decode cL_law 260 = .ok (.iload_n 3, 1) := by decide +kernel
theorem dL_law_261 : decode cL_law 261 = .ok (.iconst 4, 1) := by decide +kernel
theorem dL_law_262 : decode cL_law 262 = .ok (.iadd, 1) := by decide +kernel
theorem dL_law_263 : decode cL_law 263 = .ok (.iaload, 1) := by decide +kernel
theorem dL_law_264 : decode cL_law 264 = .ok (.invokevirtual 18, 3) := by decide +kernel
theorem dL_law_267 : decode cL_law 267 = .ok (.aload_n 2, 1) := by decide +kernel
theorem dL_law_268 : decode cL_law 268 = .ok (.aload_n 0, 1) := by decide +kernel
theorem dL_law_269 : decode cL_law 269 = .ok (.iload_n 3, 1) := by decide +kernel
theorem dL_law_270 : decode cL_law 270 = .ok (.iconst 1, 1) := by decide +kernel
theorem dL_law_271 : decode cL_law 271 = .ok (.iadd, 1) := by decide +kernel
theorem dL_law_272 : decode cL_law 272 = .ok (.iaload, 1) := by decide +kernel
theorem dL_law_273 : decode cL_law 273 = .ok (.aload_n 0, 1) := by decide +kernel
theorem dL_law_274 : decode cL_law 274 = .ok (.iload_n 3, 1) := by decide +kernel
theorem dL_law_275 : decode cL_law 275 = .ok (.iconst 2, 1) := by decide +kernel
theorem dL_law_276 : decode cL_law 276 = .ok (.iadd, 1) := by decide +kernel
theorem dL_law_277 : decode cL_law 277 = .ok (.iaload, 1) := by decide +kernel
theorem dL_law_278 : decode cL_law 278 = .ok (.aload_n 0, 1) := by decide +kernel
theorem dL_law_279 : decode cL_law 279 = .ok (.iload_n 3, 1) := by decide +kernel
theorem dL_law_280 : decode cL_law 280 = .ok (.iconst 3, 1) := by decide +kernel
theorem dL_law_281 : decode cL_law 281 = .ok (.iadd, 1) := by decide +kernel
theorem dL_law_282 : decode cL_law 282 = .ok (.iaload, 1) := by decide +kernel
theorem dL_law_283 : decode cL_law 283 = .ok (.aload_n 0, 1) := by decide +kernel
theorem dL_law_284 : decode cL_law 284 = .ok (.iload_n 3, 1) := by decide +kernel
theorem dL_law_285 : decode cL_law 285 = .ok (.iconst 4, 1) := by decide +kernel
theorem dL_law_286 : decode cL_law 286 = .ok (.iadd, 1) := by decide +kernel
theorem dL_law_287 : decode cL_law 287 = .ok (.iaload, 1) := by decide +kernel
theorem dL_law_288 : decode cL_law 288 = .ok (.invokevirtual 22, 3) := by decide +kernel
theorem dL_law_291 : decode cL_law 291 = .ok (.if_icmp .eq 1491, 3) := by decide +kernel
theorem dL_law_294 : decode cL_law 294 = .ok (.iconst 0, 1) := by decide +kernel
theorem dL_law_295 : decode cL_law 295 = .ok (.ireturn, 1) := by decide +kernel
set_option maxRecDepth 100000 in
set_option maxHeartbeats 4000000 in
theorem case_1 {p : Program} {l : Launch} {e : Env} {s : State} {m : MethodId} {args : Array Value} {below : List Frame} {meth : Method} {c : Code} {D : va_G} {ac : Nat → ClassId} {A : Nat → Prop} {Q : State → Prop} {adX adM : Nat → Nat} {b n nc ns : Nat} {xs : Nat → Int32} {N : Nat} {Rel : Mem → Mem → Prop} (hp : PureOk N Rel) (C : LC p s m args c D ac A adX adM b n xs) (hnc : nc ≤ 600000) (hns : ns ≤ 7302250) {x3 : Int32} (hi1 : vp_in (x3 + 1) n) (hi2 : vp_in (x3 + 2) n) (hi3 : vp_in (x3 + 3) n) (hi4 : vp_in (x3 + 4) n) (hi5 : vp_in (x3 + 5) n) (Mx Mm : Mem) (hrel : Rel Mx Mm) (next : ∀ Mx2 Mm2, Rel Mx2 Mm2 → Ac p l e room_1 s m args below meth c D A 4 Q 1782 [(0, .ref b), (1, .ref (adX 0)), (2, .ref (adM 0)), (3, .int x3)] [] (wXM ac adX adM Mx2 Mm2) nc ns) : Ac p l e room_1 s m args below meth c D A 4 Q 243 [(0, .ref b), (1, .ref (adX 0)), (2, .ref (adM 0)), (3, .int x3)] [] (wXM ac adX adM Mx Mm) nc ns := by
  obtain ⟨r, Mx2, Mm2, hx, hm, hrel2⟩ := (hp.2.2.1) Mx Mm (xs (x3 + 1).toNatClampNeg) (xs (x3 + 2).toNatClampNeg) (xs (x3 + 3).toNatClampNeg) (xs (x3 + 4).toNatClampNeg) hrel
  refine c_aload_n (pc := 243) C.1 dL_law_243 1 rfl ?_
  refine c_aload_n (pc := 244) C.1 dL_law_244 0 rfl ?_
  refine c_iload_n (pc := 245) C.1 dL_law_245 3 rfl ?_
  refine c_iconst (pc := 246) (v := 1) C.1 dL_law_246 (by decide) ?_
  refine c_iadd (pc := 247) C.1 dL_law_247 ?_
  refine c_sld (pc := 248) C dL_law_248 hi1 ?_
  refine c_aload_n (pc := 249) C.1 dL_law_249 0 rfl ?_
  refine c_iload_n (pc := 250) C.1 dL_law_250 3 rfl ?_
  refine c_iconst (pc := 251) (v := 2) C.1 dL_law_251 (by decide) ?_
  refine c_iadd (pc := 252) C.1 dL_law_252 ?_
  refine c_sld (pc := 253) C dL_law_253 hi2 ?_
  refine c_aload_n (pc := 254) C.1 dL_law_254 0 rfl ?_
  refine c_iload_n (pc := 255) C.1 dL_law_255 3 rfl ?_
  refine c_iconst (pc := 256) (v := 3) C.1 dL_law_256 (by decide) ?_
  refine c_iadd (pc := 257) C.1 dL_law_257 ?_
  refine c_sld (pc := 258) C dL_law_258 hi3 ?_
  refine c_aload_n (pc := 259) C.1 dL_law_259 0 rfl ?_
  refine c_iload_n (pc := 260) C.1 dL_law_260 3 rfl ?_
  refine c_iconst (pc := 261) (v := 4) C.1 dL_law_261 (by decide) ?_
  refine c_iadd (pc := 262) C.1 dL_law_262 ?_
  refine c_sld (pc := 263) C dL_law_263 hi4 ?_
  refine l_callX_I (pc := 264) C dL_law_264 ml_L_18 mc_X7_line mv_X7_line rfl [.int (xs (x3 + 1).toNatClampNeg), .int (xs (x3 + 2).toNatClampNeg), .int (xs (x3 + 3).toNatClampNeg), .int (xs (x3 + 4).toNatClampNeg)] rfl (by decide) (by decide) rfl (Nat.le_of_ble_eq_true rfl) ⟨hnc, hns⟩ (c_X7_line N (xs (x3 + 1).toNatClampNeg) (xs (x3 + 2).toNatClampNeg) (xs (x3 + 3).toNatClampNeg) (xs (x3 + 4).toNatClampNeg) _ _ _ hx) ?_
  refine c_aload_n (pc := 267) C.1 dL_law_267 2 rfl ?_
  refine c_aload_n (pc := 268) C.1 dL_law_268 0 rfl ?_
  refine c_iload_n (pc := 269) C.1 dL_law_269 3 rfl ?_
  refine c_iconst (pc := 270) (v := 1) C.1 dL_law_270 (by decide) ?_
  refine c_iadd (pc := 271) C.1 dL_law_271 ?_
  refine c_sld (pc := 272) C dL_law_272 hi1 ?_
  refine c_aload_n (pc := 273) C.1 dL_law_273 0 rfl ?_
  refine c_iload_n (pc := 274) C.1 dL_law_274 3 rfl ?_
  refine c_iconst (pc := 275) (v := 2) C.1 dL_law_275 (by decide) ?_
  refine c_iadd (pc := 276) C.1 dL_law_276 ?_
  refine c_sld (pc := 277) C dL_law_277 hi2 ?_
  refine c_aload_n (pc := 278) C.1 dL_law_278 0 rfl ?_
  refine c_iload_n (pc := 279) C.1 dL_law_279 3 rfl ?_
  refine c_iconst (pc := 280) (v := 3) C.1 dL_law_280 (by decide) ?_
  refine c_iadd (pc := 281) C.1 dL_law_281 ?_
  refine c_sld (pc := 282) C dL_law_282 hi3 ?_
  refine c_aload_n (pc := 283) C.1 dL_law_283 0 rfl ?_
  refine c_iload_n (pc := 284) C.1 dL_law_284 3 rfl ?_
  refine c_iconst (pc := 285) (v := 4) C.1 dL_law_285 (by decide) ?_
  refine c_iadd (pc := 286) C.1 dL_law_286 ?_
  refine c_sld (pc := 287) C dL_law_287 hi4 ?_
  refine l_callM_I (pc := 288) C dL_law_288 ml_L_22 mc_X8_line mv_X8_line rfl [.int (xs (x3 + 1).toNatClampNeg), .int (xs (x3 + 2).toNatClampNeg), .int (xs (x3 + 3).toNatClampNeg), .int (xs (x3 + 4).toNatClampNeg)] rfl (by decide) (by decide) rfl (Nat.le_of_ble_eq_true rfl) ⟨hnc, hns⟩ (c_X8_line N (xs (x3 + 1).toNatClampNeg) (xs (x3 + 2).toNatClampNeg) (xs (x3 + 3).toNatClampNeg) (xs (x3 + 4).toNatClampNeg) _ _ _ hm) ?_
  refine c_icmp_eq (pc := 291) 1782 C.1 dL_law_291 (by decide) (fun _ => ?_) (fun h => absurd rfl h)
  exact next _ _ hrel2
theorem dL_law_296 : decode cL_law 296 = .ok (.aload_n 1, 1) := by decide +kernel
theorem dL_law_297 : decode cL_law 297 = .ok (.aload_n 0, 1) := by decide +kernel
theorem dL_law_298 : decode cL_law 298 = .ok (.iload_n 3, 1) := by decide +kernel
theorem dL_law_299 : decode cL_law 299 = .ok (.iconst 1, 1) := by decide +kernel
theorem dL_law_300 : decode cL_law 300 = .ok (.iadd, 1) := by decide +kernel
theorem dL_law_301 : decode cL_law 301 = .ok (.iaload, 1) := by decide +kernel
theorem dL_law_302 : decode cL_law 302 = .ok (.aload_n 0, 1) := by decide +kernel
theorem dL_law_303 : decode cL_law 303 = .ok (.iload_n 3, 1) := by decide +kernel
theorem dL_law_304 : decode cL_law 304 = .ok (.iconst 2, 1) := by decide +kernel
theorem dL_law_305 : decode cL_law 305 = .ok (.iadd, 1) := by decide +kernel
theorem dL_law_306 : decode cL_law 306 = .ok (.iaload, 1) := by decide +kernel
theorem dL_law_307 : decode cL_law 307 = .ok (.invokevirtual 23, 3) := by decide +kernel
theorem dL_law_310 : decode cL_law 310 = .ok (.aload_n 2, 1) := by decide +kernel
theorem dL_law_311 : decode cL_law 311 = .ok (.aload_n 0, 1) := by decide +kernel
theorem dL_law_312 : decode cL_law 312 = .ok (.iload_n 3, 1) := by decide +kernel
theorem dL_law_313 : decode cL_law 313 = .ok (.iconst 1, 1) := by decide +kernel
theorem dL_law_314 : decode cL_law 314 = .ok (.iadd, 1) := by decide +kernel
theorem dL_law_315 : decode cL_law 315 = .ok (.iaload, 1) := by decide +kernel
theorem dL_law_316 : decode cL_law 316 = .ok (.aload_n 0, 1) := by decide +kernel
theorem dL_law_317 : decode cL_law 317 = .ok (.iload_n 3, 1) := by decide +kernel
theorem dL_law_318 : decode cL_law 318 = .ok (.iconst 2, 1) := by decide +kernel
theorem dL_law_319 : decode cL_law 319 = .ok (.iadd, 1) := by decide +kernel
theorem dL_law_320 : decode cL_law 320 = .ok (.iaload, 1) := by decide +kernel
theorem dL_law_321 : decode cL_law 321 = .ok (.invokevirtual 27, 3) := by decide +kernel
theorem dL_law_324 : decode cL_law 324 = .ok (.if_icmp .eq 1458, 3) := by decide +kernel
theorem dL_law_327 : decode cL_law 327 = .ok (.iconst 0, 1) := by decide +kernel
theorem dL_law_328 : decode cL_law 328 = .ok (.ireturn, 1) := by decide +kernel
set_option maxRecDepth 100000 in
set_option maxHeartbeats 4000000 in
theorem case_2 {p : Program} {l : Launch} {e : Env} {s : State} {m : MethodId} {args : Array Value} {below : List Frame} {meth : Method} {c : Code} {D : va_G} {ac : Nat → ClassId} {A : Nat → Prop} {Q : State → Prop} {adX adM : Nat → Nat} {b n nc ns : Nat} {xs : Nat → Int32} {N : Nat} {Rel : Mem → Mem → Prop} (hp : PureOk N Rel) (C : LC p s m args c D ac A adX adM b n xs) (hnc : nc ≤ 600000) (hns : ns ≤ 7302250) {x3 : Int32} (hi1 : vp_in (x3 + 1) n) (hi2 : vp_in (x3 + 2) n) (hi3 : vp_in (x3 + 3) n) (hi4 : vp_in (x3 + 4) n) (hi5 : vp_in (x3 + 5) n) (Mx Mm : Mem) (hrel : Rel Mx Mm) (next : ∀ Mx2 Mm2, Rel Mx2 Mm2 → Ac p l e room_1 s m args below meth c D A 4 Q 1782 [(0, .ref b), (1, .ref (adX 0)), (2, .ref (adM 0)), (3, .int x3)] [] (wXM ac adX adM Mx2 Mm2) nc ns) : Ac p l e room_1 s m args below meth c D A 4 Q 296 [(0, .ref b), (1, .ref (adX 0)), (2, .ref (adM 0)), (3, .int x3)] [] (wXM ac adX adM Mx Mm) nc ns := by
  obtain ⟨r, hx, hm, hrel2⟩ := (hp.2.2.2.1) Mx Mm (xs (x3 + 1).toNatClampNeg) (xs (x3 + 2).toNatClampNeg) hrel
  refine c_aload_n (pc := 296) C.1 dL_law_296 1 rfl ?_
  refine c_aload_n (pc := 297) C.1 dL_law_297 0 rfl ?_
  refine c_iload_n (pc := 298) C.1 dL_law_298 3 rfl ?_
  refine c_iconst (pc := 299) (v := 1) C.1 dL_law_299 (by decide) ?_
  refine c_iadd (pc := 300) C.1 dL_law_300 ?_
  refine c_sld (pc := 301) C dL_law_301 hi1 ?_
  refine c_aload_n (pc := 302) C.1 dL_law_302 0 rfl ?_
  refine c_iload_n (pc := 303) C.1 dL_law_303 3 rfl ?_
  refine c_iconst (pc := 304) (v := 2) C.1 dL_law_304 (by decide) ?_
  refine c_iadd (pc := 305) C.1 dL_law_305 ?_
  refine c_sld (pc := 306) C dL_law_306 hi2 ?_
  refine l_callX_I (pc := 307) C dL_law_307 ml_L_23 mc_X7_lineOf mv_X7_lineOf rfl [.int (xs (x3 + 1).toNatClampNeg), .int (xs (x3 + 2).toNatClampNeg)] rfl (by decide) (by decide) rfl (Nat.le_of_ble_eq_true rfl) ⟨hnc, hns⟩ (c_X7_lineOf N (xs (x3 + 1).toNatClampNeg) (xs (x3 + 2).toNatClampNeg) _ _ hx) ?_
  refine c_aload_n (pc := 310) C.1 dL_law_310 2 rfl ?_
  refine c_aload_n (pc := 311) C.1 dL_law_311 0 rfl ?_
  refine c_iload_n (pc := 312) C.1 dL_law_312 3 rfl ?_
  refine c_iconst (pc := 313) (v := 1) C.1 dL_law_313 (by decide) ?_
  refine c_iadd (pc := 314) C.1 dL_law_314 ?_
  refine c_sld (pc := 315) C dL_law_315 hi1 ?_
  refine c_aload_n (pc := 316) C.1 dL_law_316 0 rfl ?_
  refine c_iload_n (pc := 317) C.1 dL_law_317 3 rfl ?_
  refine c_iconst (pc := 318) (v := 2) C.1 dL_law_318 (by decide) ?_
  refine c_iadd (pc := 319) C.1 dL_law_319 ?_
  refine c_sld (pc := 320) C dL_law_320 hi2 ?_
  refine l_callM_I (pc := 321) C dL_law_321 ml_L_27 mc_X8_lineOf mv_X8_lineOf rfl [.int (xs (x3 + 1).toNatClampNeg), .int (xs (x3 + 2).toNatClampNeg)] rfl (by decide) (by decide) rfl (Nat.le_of_ble_eq_true rfl) ⟨hnc, hns⟩ (c_X8_lineOf N (xs (x3 + 1).toNatClampNeg) (xs (x3 + 2).toNatClampNeg) _ _ hm) ?_
  refine c_icmp_eq (pc := 324) 1782 C.1 dL_law_324 (by decide) (fun _ => ?_) (fun h => absurd rfl h)
  exact next _ _ hrel2
theorem dL_law_329 : decode cL_law 329 = .ok (.aload_n 1, 1) := by decide +kernel
theorem dL_law_330 : decode cL_law 330 = .ok (.aload_n 0, 1) := by decide +kernel
theorem dL_law_331 : decode cL_law 331 = .ok (.iload_n 3, 1) := by decide +kernel
theorem dL_law_332 : decode cL_law 332 = .ok (.iconst 1, 1) := by decide +kernel
theorem dL_law_333 : decode cL_law 333 = .ok (.iadd, 1) := by decide +kernel
theorem dL_law_334 : decode cL_law 334 = .ok (.iaload, 1) := by decide +kernel
theorem dL_law_335 : decode cL_law 335 = .ok (.aload_n 0, 1) := by decide +kernel
theorem dL_law_336 : decode cL_law 336 = .ok (.iload_n 3, 1) := by decide +kernel
theorem dL_law_337 : decode cL_law 337 = .ok (.iconst 2, 1) := by decide +kernel
theorem dL_law_338 : decode cL_law 338 = .ok (.iadd, 1) := by decide +kernel
theorem dL_law_339 : decode cL_law 339 = .ok (.iaload, 1) := by decide +kernel
theorem dL_law_340 : decode cL_law 340 = .ok (.aload_n 0, 1) := by decide +kernel
theorem dL_law_341 : decode cL_law 341 = .ok (.iload_n 3, 1) := by decide +kernel
theorem dL_law_342 : decode cL_law 342 = .ok (.iconst 3, 1) := by decide +kernel
theorem dL_law_343 : decode cL_law 343 = .ok (.iadd, 1) := by decide +kernel
theorem dL_law_344 : decode cL_law 344 = .ok (.iaload, 1) := by decide +kernel
theorem dL_law_345 : decode cL_law 345 = .ok (.invokevirtual 28, 3) := by decide +kernel
theorem dL_law_348 : decode cL_law 348 = .ok (.aload_n 2, 1) := by decide +kernel
theorem dL_law_349 : decode cL_law 349 = .ok (.aload_n 0, 1) := by decide +kernel
theorem dL_law_350 : decode cL_law 350 = .ok (.iload_n 3, 1) := by decide +kernel
theorem dL_law_351 : decode cL_law 351 = .ok (.iconst 1, 1) := by decide +kernel
theorem dL_law_352 : decode cL_law 352 = .ok (.iadd, 1) := by decide +kernel
theorem dL_law_353 : decode cL_law 353 = .ok (.iaload, 1) := by decide +kernel
theorem dL_law_354 : decode cL_law 354 = .ok (.aload_n 0, 1) := by decide +kernel
theorem dL_law_355 : decode cL_law 355 = .ok (.iload_n 3, 1) := by decide +kernel
theorem dL_law_356 : decode cL_law 356 = .ok (.iconst 2, 1) := by decide +kernel
theorem dL_law_357 : decode cL_law 357 = .ok (.iadd, 1) := by decide +kernel
theorem dL_law_358 : decode cL_law 358 = .ok (.iaload, 1) := by decide +kernel
theorem dL_law_359 : decode cL_law 359 = .ok (.aload_n 0, 1) := by decide +kernel
theorem dL_law_360 : decode cL_law 360 = .ok (.iload_n 3, 1) := by decide +kernel
theorem dL_law_361 : decode cL_law 361 = .ok (.iconst 3, 1) := by decide +kernel
theorem dL_law_362 : decode cL_law 362 = .ok (.iadd, 1) := by decide +kernel
theorem dL_law_363 : decode cL_law 363 = .ok (.iaload, 1) := by decide +kernel
theorem dL_law_364 : decode cL_law 364 = .ok (.invokevirtual 32, 3) := by decide +kernel
theorem dL_law_367 : decode cL_law 367 = .ok (.if_icmp .eq 1415, 3) := by decide +kernel
theorem dL_law_370 : decode cL_law 370 = .ok (.iconst 0, 1) := by decide +kernel
theorem dL_law_371 : decode cL_law 371 = .ok (.ireturn, 1) := by decide +kernel
set_option maxRecDepth 100000 in
set_option maxHeartbeats 4000000 in
theorem case_3 {p : Program} {l : Launch} {e : Env} {s : State} {m : MethodId} {args : Array Value} {below : List Frame} {meth : Method} {c : Code} {D : va_G} {ac : Nat → ClassId} {A : Nat → Prop} {Q : State → Prop} {adX adM : Nat → Nat} {b n nc ns : Nat} {xs : Nat → Int32} {N : Nat} {Rel : Mem → Mem → Prop} (hp : PureOk N Rel) (C : LC p s m args c D ac A adX adM b n xs) (hnc : nc ≤ 600000) (hns : ns ≤ 7302250) {x3 : Int32} (hi1 : vp_in (x3 + 1) n) (hi2 : vp_in (x3 + 2) n) (hi3 : vp_in (x3 + 3) n) (hi4 : vp_in (x3 + 4) n) (hi5 : vp_in (x3 + 5) n) (Mx Mm : Mem) (hrel : Rel Mx Mm) (next : ∀ Mx2 Mm2, Rel Mx2 Mm2 → Ac p l e room_1 s m args below meth c D A 4 Q 1782 [(0, .ref b), (1, .ref (adX 0)), (2, .ref (adM 0)), (3, .int x3)] [] (wXM ac adX adM Mx2 Mm2) nc ns) : Ac p l e room_1 s m args below meth c D A 4 Q 329 [(0, .ref b), (1, .ref (adX 0)), (2, .ref (adM 0)), (3, .int x3)] [] (wXM ac adX adM Mx Mm) nc ns := by
  obtain ⟨r, Mx2, Mm2, hx, hm, hrel2⟩ := (hp.2.2.2.2.1) Mx Mm (xs (x3 + 1).toNatClampNeg) (xs (x3 + 2).toNatClampNeg) (xs (x3 + 3).toNatClampNeg) hrel
  refine c_aload_n (pc := 329) C.1 dL_law_329 1 rfl ?_
  refine c_aload_n (pc := 330) C.1 dL_law_330 0 rfl ?_
  refine c_iload_n (pc := 331) C.1 dL_law_331 3 rfl ?_
  refine c_iconst (pc := 332) (v := 1) C.1 dL_law_332 (by decide) ?_
  refine c_iadd (pc := 333) C.1 dL_law_333 ?_
  refine c_sld (pc := 334) C dL_law_334 hi1 ?_
  refine c_aload_n (pc := 335) C.1 dL_law_335 0 rfl ?_
  refine c_iload_n (pc := 336) C.1 dL_law_336 3 rfl ?_
  refine c_iconst (pc := 337) (v := 2) C.1 dL_law_337 (by decide) ?_
  refine c_iadd (pc := 338) C.1 dL_law_338 ?_
  refine c_sld (pc := 339) C dL_law_339 hi2 ?_
  refine c_aload_n (pc := 340) C.1 dL_law_340 0 rfl ?_
  refine c_iload_n (pc := 341) C.1 dL_law_341 3 rfl ?_
  refine c_iconst (pc := 342) (v := 3) C.1 dL_law_342 (by decide) ?_
  refine c_iadd (pc := 343) C.1 dL_law_343 ?_
  refine c_sld (pc := 344) C dL_law_344 hi3 ?_
  refine l_callX_I (pc := 345) C dL_law_345 ml_L_28 mc_X7_change mv_X7_change rfl [.int (xs (x3 + 1).toNatClampNeg), .int (xs (x3 + 2).toNatClampNeg), .int (xs (x3 + 3).toNatClampNeg)] rfl (by decide) (by decide) rfl (Nat.le_of_ble_eq_true rfl) ⟨hnc, hns⟩ (c_X7_change N (xs (x3 + 1).toNatClampNeg) (xs (x3 + 2).toNatClampNeg) (xs (x3 + 3).toNatClampNeg) _ _ _ hx) ?_
  refine c_aload_n (pc := 348) C.1 dL_law_348 2 rfl ?_
  refine c_aload_n (pc := 349) C.1 dL_law_349 0 rfl ?_
  refine c_iload_n (pc := 350) C.1 dL_law_350 3 rfl ?_
  refine c_iconst (pc := 351) (v := 1) C.1 dL_law_351 (by decide) ?_
  refine c_iadd (pc := 352) C.1 dL_law_352 ?_
  refine c_sld (pc := 353) C dL_law_353 hi1 ?_
  refine c_aload_n (pc := 354) C.1 dL_law_354 0 rfl ?_
  refine c_iload_n (pc := 355) C.1 dL_law_355 3 rfl ?_
  refine c_iconst (pc := 356) (v := 2) C.1 dL_law_356 (by decide) ?_
  refine c_iadd (pc := 357) C.1 dL_law_357 ?_
  refine c_sld (pc := 358) C dL_law_358 hi2 ?_
  refine c_aload_n (pc := 359) C.1 dL_law_359 0 rfl ?_
  refine c_iload_n (pc := 360) C.1 dL_law_360 3 rfl ?_
  refine c_iconst (pc := 361) (v := 3) C.1 dL_law_361 (by decide) ?_
  refine c_iadd (pc := 362) C.1 dL_law_362 ?_
  refine c_sld (pc := 363) C dL_law_363 hi3 ?_
  refine l_callM_I (pc := 364) C dL_law_364 ml_L_32 mc_X8_change mv_X8_change rfl [.int (xs (x3 + 1).toNatClampNeg), .int (xs (x3 + 2).toNatClampNeg), .int (xs (x3 + 3).toNatClampNeg)] rfl (by decide) (by decide) rfl (Nat.le_of_ble_eq_true rfl) ⟨hnc, hns⟩ (c_X8_change N (xs (x3 + 1).toNatClampNeg) (xs (x3 + 2).toNatClampNeg) (xs (x3 + 3).toNatClampNeg) _ _ _ hm) ?_
  refine c_icmp_eq (pc := 367) 1782 C.1 dL_law_367 (by decide) (fun _ => ?_) (fun h => absurd rfl h)
  exact next _ _ hrel2
theorem dL_law_372 : decode cL_law 372 = .ok (.aload_n 1, 1) := by decide +kernel
theorem dL_law_373 : decode cL_law 373 = .ok (.aload_n 0, 1) := by decide +kernel
theorem dL_law_374 : decode cL_law 374 = .ok (.iload_n 3, 1) := by decide +kernel
theorem dL_law_375 : decode cL_law 375 = .ok (.iconst 1, 1) := by decide +kernel
theorem dL_law_376 : decode cL_law 376 = .ok (.iadd, 1) := by decide +kernel
theorem dL_law_377 : decode cL_law 377 = .ok (.iaload, 1) := by decide +kernel
theorem dL_law_378 : decode cL_law 378 = .ok (.invokevirtual 33, 3) := by decide +kernel
theorem dL_law_381 : decode cL_law 381 = .ok (.aload_n 2, 1) := by decide +kernel
theorem dL_law_382 : decode cL_law 382 = .ok (.aload_n 0, 1) := by decide +kernel
theorem dL_law_383 : decode cL_law 383 = .ok (.iload_n 3, 1) := by decide +kernel
theorem dL_law_384 : decode cL_law 384 = .ok (.iconst 1, 1) := by decide +kernel
theorem dL_law_385 : decode cL_law 385 = .ok (.iadd, 1) := by decide +kernel
theorem dL_law_386 : decode cL_law 386 = .ok (.iaload, 1) := by decide +kernel
theorem dL_law_387 : decode cL_law 387 = .ok (.invokevirtual 36, 3) := by decide +kernel
theorem dL_law_390 : decode cL_law 390 = .ok (.if_icmp .eq 1392, 3) := by decide +kernel
theorem dL_law_393 : decode cL_law 393 = .ok (.iconst 0, 1) := by decide +kernel
theorem dL_law_394 : decode cL_law 394 = .ok (.ireturn, 1) := by decide +kernel
set_option maxRecDepth 100000 in
set_option maxHeartbeats 4000000 in
theorem case_4 {p : Program} {l : Launch} {e : Env} {s : State} {m : MethodId} {args : Array Value} {below : List Frame} {meth : Method} {c : Code} {D : va_G} {ac : Nat → ClassId} {A : Nat → Prop} {Q : State → Prop} {adX adM : Nat → Nat} {b n nc ns : Nat} {xs : Nat → Int32} {N : Nat} {Rel : Mem → Mem → Prop} (hp : PureOk N Rel) (C : LC p s m args c D ac A adX adM b n xs) (hnc : nc ≤ 600000) (hns : ns ≤ 7302250) {x3 : Int32} (hi1 : vp_in (x3 + 1) n) (hi2 : vp_in (x3 + 2) n) (hi3 : vp_in (x3 + 3) n) (hi4 : vp_in (x3 + 4) n) (hi5 : vp_in (x3 + 5) n) (Mx Mm : Mem) (hrel : Rel Mx Mm) (next : ∀ Mx2 Mm2, Rel Mx2 Mm2 → Ac p l e room_1 s m args below meth c D A 4 Q 1782 [(0, .ref b), (1, .ref (adX 0)), (2, .ref (adM 0)), (3, .int x3)] [] (wXM ac adX adM Mx2 Mm2) nc ns) : Ac p l e room_1 s m args below meth c D A 4 Q 372 [(0, .ref b), (1, .ref (adX 0)), (2, .ref (adM 0)), (3, .int x3)] [] (wXM ac adX adM Mx Mm) nc ns := by
  obtain ⟨r, Mx2, Mm2, hx, hm, hrel2⟩ := (hp.2.2.2.2.2.1) Mx Mm (xs (x3 + 1).toNatClampNeg) hrel
  refine c_aload_n (pc := 372) C.1 dL_law_372 1 rfl ?_
  refine c_aload_n (pc := 373) C.1 dL_law_373 0 rfl ?_
  refine c_iload_n (pc := 374) C.1 dL_law_374 3 rfl ?_
  refine c_iconst (pc := 375) (v := 1) C.1 dL_law_375 (by decide) ?_
  refine c_iadd (pc := 376) C.1 dL_law_376 ?_
  refine c_sld (pc := 377) C dL_law_377 hi1 ?_
  refine l_callX_I (pc := 378) C dL_law_378 ml_L_33 mc_X7_drop mv_X7_drop rfl [.int (xs (x3 + 1).toNatClampNeg)] rfl (by decide) (by decide) rfl (Nat.le_of_ble_eq_true rfl) ⟨hnc, hns⟩ (c_X7_drop N (xs (x3 + 1).toNatClampNeg) _ _ _ hx) ?_
  refine c_aload_n (pc := 381) C.1 dL_law_381 2 rfl ?_
  refine c_aload_n (pc := 382) C.1 dL_law_382 0 rfl ?_
  refine c_iload_n (pc := 383) C.1 dL_law_383 3 rfl ?_
  refine c_iconst (pc := 384) (v := 1) C.1 dL_law_384 (by decide) ?_
  refine c_iadd (pc := 385) C.1 dL_law_385 ?_
  refine c_sld (pc := 386) C dL_law_386 hi1 ?_
  refine l_callM_I (pc := 387) C dL_law_387 ml_L_36 mc_X8_drop mv_X8_drop rfl [.int (xs (x3 + 1).toNatClampNeg)] rfl (by decide) (by decide) rfl (Nat.le_of_ble_eq_true rfl) ⟨hnc, hns⟩ (c_X8_drop N (xs (x3 + 1).toNatClampNeg) _ _ _ hm) ?_
  refine c_icmp_eq (pc := 390) 1782 C.1 dL_law_390 (by decide) (fun _ => ?_) (fun h => absurd rfl h)
  exact next _ _ hrel2
