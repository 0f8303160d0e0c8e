set_option maxRecDepth 100000 in
theorem lawc_0 (l : Launch) {b L : Nat} {xs : Nat → Int32} {Rel : zS → zS → Prop} (ho : zSt5 Rel f_X11_feed f_X12_feed) {x3 : Int32} (h1 : zin (x3 + 1) L) (h2 : zin (x3 + 2) L) (h3 : zin (x3 + 3) L) (h4 : zin (x3 + 4) L) (h5 : zin (x3 + 5) L) {Sx Sm : zS} (hR : Rel Sx Sm) (hK : ∀ Sx' Sm', Rel Sx' Sm' → WL l b L xs 1291 x3 [] (zcat 67 Sx' Sm')) : WL l b L xs 212 x3 [] (zcat 67 Sx Sm) := by
  obtain ⟨r, Sx', Sm', q1, q2, hR'⟩ := ho (xs (x3 + 1).toNatClampNeg) (xs (x3 + 2).toNatClampNeg) (xs (x3 + 3).toNatClampNeg) (xs (x3 + 4).toNatClampNeg) (xs (x3 + 5).toNatClampNeg) Sx Sm hR
  refine g_aload_n (pc := 212) (q := 1) dL_law_212 rfl rfl ?_
  refine g_aload_n (pc := 213) (q := 0) dL_law_213 rfl rfl ?_
  refine g_iload_n (pc := 214) (q := 3) dL_law_214 rfl rfl ?_
  refine g_iconst (pc := 215) (v := 1) dL_law_215 zci_1 ?_
  refine g_iadd (pc := 216) dL_law_216 ?_
  refine gl_sld (pc := 217) dL_law_217 h1 ?_
  refine g_aload_n (pc := 218) (q := 0) dL_law_218 rfl rfl ?_
  refine g_iload_n (pc := 219) (q := 3) dL_law_219 rfl rfl ?_
  refine g_iconst (pc := 220) (v := 2) dL_law_220 zci_2 ?_
  refine g_iadd (pc := 221) dL_law_221 ?_
  refine gl_sld (pc := 222) dL_law_222 h2 ?_
  refine g_aload_n (pc := 223) (q := 0) dL_law_223 rfl rfl ?_
  refine g_iload_n (pc := 224) (q := 3) dL_law_224 rfl rfl ?_
  refine g_iconst (pc := 225) (v := 3) dL_law_225 zci_3 ?_
  refine g_iadd (pc := 226) dL_law_226 ?_
  refine gl_sld (pc := 227) dL_law_227 h3 ?_
  refine g_aload_n (pc := 228) (q := 0) dL_law_228 rfl rfl ?_
  refine g_iload_n (pc := 229) (q := 3) dL_law_229 rfl rfl ?_
  refine g_iconst (pc := 230) (v := 4) dL_law_230 zci_4 ?_
  refine g_iadd (pc := 231) dL_law_231 ?_
  refine gl_sld (pc := 232) dL_law_232 h4 ?_
  refine g_aload_n (pc := 233) (q := 0) dL_law_233 rfl rfl ?_
  refine g_iload_n (pc := 234) (q := 3) dL_law_234 rfl rfl ?_
  refine g_iconst (pc := 235) (v := 5) dL_law_235 zci_5 ?_
  refine g_iadd (pc := 236) dL_law_236 ?_
  refine gl_sld (pc := 237) dL_law_237 h5 ?_
  refine gl_X (pc := 238) (st := []) [.int (xs (x3 + 1).toNatClampNeg), .int (xs (x3 + 2).toNatClampNeg), .int (xs (x3 + 3).toNatClampNeg), .int (xs (x3 + 4).toNatClampNeg), .int (xs (x3 + 5).toNatClampNeg)] dL_law_238 zm_L_13 zM_X11_feed ⟨by decide, by decide⟩ ⟨by decide, by decide⟩ rfl (w_X11_feed l q1) rfl rfl (Nat.le_of_ble_eq_true rfl) ?_
  refine g_aload_n (pc := 241) (q := 2) dL_law_241 rfl rfl ?_
  refine g_aload_n (pc := 242) (q := 0) dL_law_242 rfl rfl ?_
  refine g_iload_n (pc := 243) (q := 3) dL_law_243 rfl rfl ?_
  refine g_iconst (pc := 244) (v := 1) dL_law_244 zci_1 ?_
  refine g_iadd (pc := 245) dL_law_245 ?_
  refine gl_sld (pc := 246) dL_law_246 h1 ?_
  refine g_aload_n (pc := 247) (q := 0) dL_law_247 rfl rfl ?_
  refine g_iload_n (pc := 248) (q := 3) dL_law_248 rfl rfl ?_
  refine g_iconst (pc := 249) (v := 2) dL_law_249 zci_2 ?_
  refine g_iadd (pc := 250) dL_law_250 ?_
  refine gl_sld (pc := 251) dL_law_251 h2 ?_
  refine g_aload_n (pc := 252) (q := 0) dL_law_252 rfl rfl ?_
  refine g_iload_n (pc := 253) (q := 3) dL_law_253 rfl rfl ?_
  refine g_iconst (pc := 254) (v := 3) dL_law_254 zci_3 ?_
  refine g_iadd (pc := 255) dL_law_255 ?_
  refine gl_sld (pc := 256) dL_law_256 h3 ?_
  refine g_aload_n (pc := 257) (q := 0) dL_law_257 rfl rfl ?_
  refine g_iload_n (pc := 258) (q := 3) dL_law_258 rfl rfl ?_
  refine g_iconst (pc := 259) (v := 4) dL_law_259 zci_4 ?_
  refine g_iadd (pc := 260) dL_law_260 ?_
  refine gl_sld (pc := 261) dL_law_261 h4 ?_
  refine g_aload_n (pc := 262) (q := 0) dL_law_262 rfl rfl ?_
  refine g_iload_n (pc := 263) (q := 3) dL_law_263 rfl rfl ?_
  refine g_iconst (pc := 264) (v := 5) dL_law_264 zci_5 ?_
  refine g_iadd (pc := 265) dL_law_265 ?_
  refine gl_sld (pc := 266) dL_law_266 h5 ?_
  refine gl_M (pc := 267) (st := [.int r]) [.int (xs (x3 + 1).toNatClampNeg), .int (xs (x3 + 2).toNatClampNeg), .int (xs (x3 + 3).toNatClampNeg), .int (xs (x3 + 4).toNatClampNeg), .int (xs (x3 + 5).toNatClampNeg)] dL_law_267 zm_L_17 zM_X12_feed ⟨by decide, by decide⟩ ⟨by decide, by decide⟩ rfl rfl (w_X12_feed l q2) rfl rfl (Nat.le_of_ble_eq_true rfl) ?_
  refine g_icmp_eq (pc := 270) (tgt := 1291) dL_law_270 (by decide) (fun _ => ?_) (fun c => absurd rfl c)
  exact hK _ _ hR'
set_option maxRecDepth 100000 in
theorem lawc_1 (l : Launch) {b L : Nat} {xs : Nat → Int32} {Rel : zS → zS → Prop} (ho : zSt1 Rel f_X11_end f_X12_end) {x3 : Int32} (h1 : zin (x3 + 1) L) {Sx Sm : zS} (hR : Rel Sx Sm) (hK : ∀ Sx' Sm', Rel Sx' Sm' → WL l b L xs 1291 x3 [] (zcat 67 Sx' Sm')) : WL l b L xs 275 x3 [] (zcat 67 Sx Sm) := by
  obtain ⟨r, Sx', Sm', q1, q2, hR'⟩ := ho (xs (x3 + 1).toNatClampNeg) Sx Sm hR
  refine g_aload_n (pc := 275) (q := 1) dL_law_275 rfl rfl ?_
  refine g_aload_n (pc := 276) (q := 0) dL_law_276 rfl rfl ?_
  refine g_iload_n (pc := 277) (q := 3) dL_law_277 rfl rfl ?_
  refine g_iconst (pc := 278) (v := 1) dL_law_278 zci_1 ?_
  refine g_iadd (pc := 279) dL_law_279 ?_
  refine gl_sld (pc := 280) dL_law_280 h1 ?_
  refine gl_X (pc := 281) (st := []) [.int (xs (x3 + 1).toNatClampNeg)] dL_law_281 zm_L_18 zM_X11_end ⟨by decide, by decide⟩ ⟨by decide, by decide⟩ rfl (w_X11_end l q1) rfl rfl (Nat.le_of_ble_eq_true rfl) ?_
  refine g_aload_n (pc := 284) (q := 2) dL_law_284 rfl rfl ?_
  refine g_aload_n (pc := 285) (q := 0) dL_law_285 rfl rfl ?_
  refine g_iload_n (pc := 286) (q := 3) dL_law_286 rfl rfl ?_
  refine g_iconst (pc := 287) (v := 1) dL_law_287 zci_1 ?_
  refine g_iadd (pc := 288) dL_law_288 ?_
  refine gl_sld (pc := 289) dL_law_289 h1 ?_
  refine gl_M (pc := 290) (st := [.int r]) [.int (xs (x3 + 1).toNatClampNeg)] dL_law_290 zm_L_22 zM_X12_end ⟨by decide, by decide⟩ ⟨by decide, by decide⟩ rfl rfl (w_X12_end l q2) rfl rfl (Nat.le_of_ble_eq_true rfl) ?_
  refine g_icmp_eq (pc := 293) (tgt := 1291) dL_law_293 (by decide) (fun _ => ?_) (fun c => absurd rfl c)
  exact hK _ _ hR'
set_option maxRecDepth 100000 in
theorem lawc_2 (l : Launch) {b L : Nat} {xs : Nat → Int32} {Rel : zS → zS → Prop} (ho : zStH Rel) {x3 : Int32} {Sx Sm : zS} (hR : Rel Sx Sm) (hK : ∀ Sx' Sm', Rel Sx' Sm' → WL l b L xs 1291 x3 [] (zcat 67 Sx' Sm')) : WL l b L xs 298 x3 [] (zcat 67 Sx Sm) := by
  rcases ho Sx Sm hR with ⟨r, Sx', Sm', q1, q2, hR'⟩ | ⟨r0, T, r, Sx', Sm', q1, q0, q3, q2, hR'⟩
  · refine g_aload_n (pc := 298) (q := 1) dL_law_298 rfl rfl ?_
    refine gl_X (pc := 299) (st := []) [] dL_law_299 zm_L_23 zM_X11_hedge ⟨by decide, by decide⟩ ⟨by decide, by decide⟩ rfl (w_X11_hedge l q1) rfl rfl (Nat.le_of_ble_eq_true rfl) ?_
    refine g_aload_n (pc := 302) (q := 2) dL_law_302 rfl rfl ?_
    refine gl_M (pc := 303) (st := [.int r]) [] dL_law_303 zm_L_27 zM_X12_hedge ⟨by decide, by decide⟩ ⟨by decide, by decide⟩ rfl rfl (w_X12_hedge l q2) rfl rfl (Nat.le_of_ble_eq_true rfl) ?_
    refine g_icmp_eq (pc := 306) (tgt := 1291) dL_law_306 (by decide) (fun _ => ?_) (fun c => absurd rfl c)
    exact hK _ _ hR'
  · refine g_aload_n (pc := 298) (q := 1) dL_law_298 rfl rfl ?_
    refine gl_H (pc := 299) dL_law_299 zm_L_23 zM_X11_hedge ⟨by decide, by decide⟩ ⟨by decide, by decide⟩ rfl rfl (ws_X11_hedge l q1 q0 q3) rfl ?_
    refine g_aload_n (pc := 302) (q := 2) dL_law_302 rfl rfl ?_
    refine gl_M (pc := 303) (st := [.int r]) [] dL_law_303 zm_L_27 zM_X12_hedge ⟨by decide, by decide⟩ ⟨by decide, by decide⟩ rfl rfl (w_X12_hedge l q2) rfl rfl (Nat.le_of_ble_eq_true rfl) ?_
    refine g_icmp_eq (pc := 306) (tgt := 1291) dL_law_306 (by decide) (fun _ => ?_) (fun c => absurd rfl c)
    exact hK _ _ hR'
set_option maxRecDepth 100000 in
theorem lawc_3 (l : Launch) {b L : Nat} {xs : Nat → Int32} {Rel : zS → zS → Prop} (ho : zSt1 Rel f_X11_fault f_X12_fault) {x3 : Int32} (h1 : zin (x3 + 1) L) {Sx Sm : zS} (hR : Rel Sx Sm) (hK : ∀ Sx' Sm', Rel Sx' Sm' → WL l b L xs 1291 x3 [] (zcat 67 Sx' Sm')) : WL l b L xs 311 x3 [] (zcat 67 Sx Sm) := by
  obtain ⟨r, Sx', Sm', q1, q2, hR'⟩ := ho (xs (x3 + 1).toNatClampNeg) Sx Sm hR
  refine g_aload_n (pc := 311) (q := 1) dL_law_311 rfl rfl ?_
  refine g_aload_n (pc := 312) (q := 0) dL_law_312 rfl rfl ?_
  refine g_iload_n (pc := 313) (q := 3) dL_law_313 rfl rfl ?_
  refine g_iconst (pc := 314) (v := 1) dL_law_314 zci_1 ?_
  refine g_iadd (pc := 315) dL_law_315 ?_
  refine gl_sld (pc := 316) dL_law_316 h1 ?_
  refine gl_X (pc := 317) (st := []) [.int (xs (x3 + 1).toNatClampNeg)] dL_law_317 zm_L_28 zM_X11_fault ⟨by decide, by decide⟩ ⟨by decide, by decide⟩ rfl (w_X11_fault l q1) rfl rfl (Nat.le_of_ble_eq_true rfl) ?_
  refine g_aload_n (pc := 320) (q := 2) dL_law_320 rfl rfl ?_
  refine g_aload_n (pc := 321) (q := 0) dL_law_321 rfl rfl ?_
  refine g_iload_n (pc := 322) (q := 3) dL_law_322 rfl rfl ?_
  refine g_iconst (pc := 323) (v := 1) dL_law_323 zci_1 ?_
  refine g_iadd (pc := 324) dL_law_324 ?_
  refine gl_sld (pc := 325) dL_law_325 h1 ?_
  refine gl_M (pc := 326) (st := [.int r]) [.int (xs (x3 + 1).toNatClampNeg)] dL_law_326 zm_L_31 zM_X12_fault ⟨by decide, by decide⟩ ⟨by decide, by decide⟩ rfl rfl (w_X12_fault l q2) rfl rfl (Nat.le_of_ble_eq_true rfl) ?_
  refine g_icmp_eq (pc := 329) (tgt := 1291) dL_law_329 (by decide) (fun _ => ?_) (fun c => absurd rfl c)
  exact hK _ _ hR'
set_option maxRecDepth 100000 in
theorem lawc_4 (l : Launch) {b L : Nat} {xs : Nat → Int32} {Rel : zS → zS → Prop} (ho : zSt2 Rel f_X11_bill f_X12_bill) {x3 : Int32} (h1 : zin (x3 + 1) L) (h2 : zin (x3 + 2) L) {Sx Sm : zS} (hR : Rel Sx Sm) (hK : ∀ Sx' Sm', Rel Sx' Sm' → WL l b L xs 1291 x3 [] (zcat 67 Sx' Sm')) : WL l b L xs 334 x3 [] (zcat 67 Sx Sm) := by
  obtain ⟨r, Sx', Sm', q1, q2, hR'⟩ := ho (xs (x3 + 1).toNatClampNeg) (xs (x3 + 2).toNatClampNeg) Sx Sm hR
  refine g_aload_n (pc := 334) (q := 1) dL_law_334 rfl rfl ?_
  refine g_aload_n (pc := 335) (q := 0) dL_law_335 rfl rfl ?_
  refine g_iload_n (pc := 336) (q := 3) dL_law_336 rfl rfl ?_
  refine g_iconst (pc := 337) (v := 1) dL_law_337 zci_1 ?_
  refine g_iadd (pc := 338) dL_law_338 ?_
  refine gl_sld (pc := 339) dL_law_339 h1 ?_
  refine g_aload_n (pc := 340) (q := 0) dL_law_340 rfl rfl ?_
  refine g_iload_n (pc := 341) (q := 3) dL_law_341 rfl rfl ?_
  refine g_iconst (pc := 342) (v := 2) dL_law_342 zci_2 ?_
  refine g_iadd (pc := 343) dL_law_343 ?_
  refine gl_sld (pc := 344) dL_law_344 h2 ?_
  refine gl_X (pc := 345) (st := []) [.int (xs (x3 + 1).toNatClampNeg), .int (xs (x3 + 2).toNatClampNeg)] dL_law_345 zm_L_32 zM_X11_bill ⟨by decide, by decide⟩ ⟨by decide, by decide⟩ rfl (w_X11_bill l q1) rfl rfl (Nat.le_of_ble_eq_true rfl) ?_
  refine g_aload_n (pc := 348) (q := 2) dL_law_348 rfl rfl ?_
  refine g_aload_n (pc := 349) (q := 0) dL_law_349 rfl rfl ?_
  refine g_iload_n (pc := 350) (q := 3) dL_law_350 rfl rfl ?_
  refine g_iconst (pc := 351) (v := 1) dL_law_351 zci_1 ?_
  refine g_iadd (pc := 352) dL_law_352 ?_
  refine gl_sld (pc := 353) dL_law_353 h1 ?_
  refine g_aload_n (pc := 354) (q := 0) dL_law_354 rfl rfl ?_
  refine g_iload_n (pc := 355) (q := 3) dL_law_355 rfl rfl ?_
  refine g_iconst (pc := 356) (v := 2) dL_law_356 zci_2 ?_
  refine g_iadd (pc := 357) dL_law_357 ?_
  refine gl_sld (pc := 358) dL_law_358 h2 ?_
  refine gl_M (pc := 359) (st := [.int r]) [.int (xs (x3 + 1).toNatClampNeg), .int (xs (x3 + 2).toNatClampNeg)] dL_law_359 zm_L_36 zM_X12_bill ⟨by decide, by decide⟩ ⟨by decide, by decide⟩ rfl rfl (w_X12_bill l q2) rfl rfl (Nat.le_of_ble_eq_true rfl) ?_
  refine g_icmp_eq (pc := 362) (tgt := 1291) dL_law_362 (by decide) (fun _ => ?_) (fun c => absurd rfl c)
  exact hK _ _ hR'
set_option maxRecDepth 100000 in
theorem lawc_5 (l : Launch) {b L : Nat} {xs : Nat → Int32} {Rel : zS → zS → Prop} (ho : zSt2 Rel f_X11_stake f_X12_stake) {x3 : Int32} (h1 : zin (x3 + 1) L) (h2 : zin (x3 + 2) L) {Sx Sm : zS} (hR : Rel Sx Sm) (hK : ∀ Sx' Sm', Rel Sx' Sm' → WL l b L xs 1291 x3 [] (zcat 67 Sx' Sm')) : WL l b L xs 367 x3 [] (zcat 67 Sx Sm) := by
  obtain ⟨r, Sx', Sm', q1, q2, hR'⟩ := ho (xs (x3 + 1).toNatClampNeg) (xs (x3 + 2).toNatClampNeg) Sx Sm hR
  refine g_aload_n (pc := 367) (q := 1) dL_law_367 rfl rfl ?_
  refine g_aload_n (pc := 368) (q := 0) dL_law_368 rfl rfl ?_
  refine g_iload_n (pc := 369) (q := 3) dL_law_369 rfl rfl ?_
  refine g_iconst (pc := 370) (v := 1) dL_law_370 zci_1 ?_
  refine g_iadd (pc := 371) dL_law_371 ?_
  refine gl_sld (pc := 372) dL_law_372 h1 ?_
  refine g_aload_n (pc := 373) (q := 0) dL_law_373 rfl rfl ?_
  refine g_iload_n (pc := 374) (q := 3) dL_law_374 rfl rfl ?_
  refine g_iconst (pc := 375) (v := 2) dL_law_375 zci_2 ?_
  refine g_iadd (pc := 376) dL_law_376 ?_
  refine gl_sld (pc := 377) dL_law_377 h2 ?_
  refine gl_X (pc := 378) (st := []) [.int (xs (x3 + 1).toNatClampNeg), .int (xs (x3 + 2).toNatClampNeg)] dL_law_378 zm_L_37 zM_X11_stake ⟨by decide, by decide⟩ ⟨by decide, by decide⟩ rfl (w_X11_stake l q1) rfl rfl (Nat.le_of_ble_eq_true rfl) ?_
  refine g_aload_n (pc := 381) (q := 2) dL_law_381 rfl rfl ?_
  refine g_aload_n (pc := 382) (q := 0) dL_law_382 rfl rfl ?_
  refine g_iload_n (pc := 383) (q := 3) dL_law_383 rfl rfl ?_
  refine g_iconst (pc := 384) (v := 1) dL_law_384 zci_1 ?_
  refine g_iadd (pc := 385) dL_law_385 ?_
  refine gl_sld (pc := 386) dL_law_386 h1 ?_
  refine g_aload_n (pc := 387) (q := 0) dL_law_387 rfl rfl ?_
  refine g_iload_n (pc := 388) (q := 3) dL_law_388 rfl rfl ?_
  refine g_iconst (pc := 389) (v := 2) dL_law_389 zci_2 ?_
  refine g_iadd (pc := 390) dL_law_390 ?_
  refine gl_sld (pc := 391) dL_law_391 h2 ?_
  refine gl_M (pc := 392) (st := [.int r]) [.int (xs (x3 + 1).toNatClampNeg), .int (xs (x3 + 2).toNatClampNeg)] dL_law_392 zm_L_40 zM_X12_stake ⟨by decide, by decide⟩ ⟨by decide, by decide⟩ rfl rfl (w_X12_stake l q2) rfl rfl (Nat.le_of_ble_eq_true rfl) ?_
  refine g_icmp_eq (pc := 395) (tgt := 1291) dL_law_395 (by decide) (fun _ => ?_) (fun c => absurd rfl c)
  exact hK _ _ hR'
set_option maxRecDepth 100000 in
theorem lawc_6 (l : Launch) {b L : Nat} {xs : Nat → Int32} {Rel : zS → zS → Prop} (ho : zSt1 Rel f_X11_law f_X12_law) {x3 : Int32} (h1 : zin (x3 + 1) L) {Sx Sm : zS} (hR : Rel Sx Sm) (hK : ∀ Sx' Sm', Rel Sx' Sm' → WL l b L xs 1291 x3 [] (zcat 67 Sx' Sm')) : WL l b L xs 400 x3 [] (zcat 67 Sx Sm) := by
  obtain ⟨r, Sx', Sm', q1, q2, hR'⟩ := ho (xs (x3 + 1).toNatClampNeg) Sx Sm hR
  refine g_aload_n (pc := 400) (q := 1) dL_law_400 rfl rfl ?_
  refine g_aload_n (pc := 401) (q := 0) dL_law_401 rfl rfl ?_
  refine g_iload_n (pc := 402) (q := 3) dL_law_402 rfl rfl ?_
  refine g_iconst (pc := 403) (v := 1) dL_law_403 zci_1 ?_
  refine g_iadd (pc := 404) dL_law_404 ?_
  refine gl_sld (pc := 405) dL_law_405 h1 ?_
  refine gl_X (pc := 406) (st := []) [.int (xs (x3 + 1).toNatClampNeg)] dL_law_406 zm_L_41 zM_X11_law ⟨by decide, by decide⟩ ⟨by decide, by decide⟩ rfl (w_X11_law l q1) rfl rfl (Nat.le_of_ble_eq_true rfl) ?_
  refine g_aload_n (pc := 409) (q := 2) dL_law_409 rfl rfl ?_
  refine g_aload_n (pc := 410) (q := 0) dL_law_410 rfl rfl ?_
  refine g_iload_n (pc := 411) (q := 3) dL_law_411 rfl rfl ?_
  refine g_iconst (pc := 412) (v := 1) dL_law_412 zci_1 ?_
  refine g_iadd (pc := 413) dL_law_413 ?_
  refine gl_sld (pc := 414) dL_law_414 h1 ?_
  refine gl_M (pc := 415) (st := [.int r]) [.int (xs (x3 + 1).toNatClampNeg)] dL_law_415 zm_L_44 zM_X12_law ⟨by decide, by decide⟩ ⟨by decide, by decide⟩ rfl rfl (w_X12_law l q2) rfl rfl (Nat.le_of_ble_eq_true rfl) ?_
  refine g_icmp_eq (pc := 418) (tgt := 1291) dL_law_418 (by decide) (fun _ => ?_) (fun c => absurd rfl c)
  exact hK _ _ hR'
set_option maxRecDepth 100000 in
theorem lawc_7 (l : Launch) {b L : Nat} {xs : Nat → Int32} {Rel : zS → zS → Prop} (ho : zSt0 Rel f_X11_stands f_X12_stands) {x3 : Int32}  {Sx Sm : zS} (hR : Rel Sx Sm) (hK : ∀ Sx' Sm', Rel Sx' Sm' → WL l b L xs 1291 x3 [] (zcat 67 Sx' Sm')) : WL l b L xs 423 x3 [] (zcat 67 Sx Sm) := by
  obtain ⟨r, Sx', Sm', q1, q2, hR'⟩ := ho  Sx Sm hR
  refine g_aload_n (pc := 423) (q := 1) dL_law_423 rfl rfl ?_
  refine gl_X (pc := 424) (st := []) [] dL_law_424 zm_L_45 zM_X11_stands ⟨by decide, by decide⟩ ⟨by decide, by decide⟩ rfl (w_X11_stands l q1) rfl rfl (Nat.le_of_ble_eq_true rfl) ?_
  refine g_aload_n (pc := 427) (q := 2) dL_law_427 rfl rfl ?_
  refine gl_M (pc := 428) (st := [.int r]) [] dL_law_428 zm_L_48 zM_X12_stands ⟨by decide, by decide⟩ ⟨by decide, by decide⟩ rfl rfl (w_X12_stands l q2) rfl rfl (Nat.le_of_ble_eq_true rfl) ?_
  refine g_icmp_eq (pc := 431) (tgt := 1291) dL_law_431 (by decide) (fun _ => ?_) (fun c => absurd rfl c)
  exact hK _ _ hR'
set_option maxRecDepth 100000 in
theorem lawc_8 (l : Launch) {b L : Nat} {xs : Nat → Int32} {Rel : zS → zS → Prop} (ho : zSt1 Rel f_X11_falls f_X12_falls) {x3 : Int32} (h1 : zin (x3 + 1) L) {Sx Sm : zS} (hR : Rel Sx Sm) (hK : ∀ Sx' Sm', Rel Sx' Sm' → WL l b L xs 1291 x3 [] (zcat 67 Sx' Sm')) : WL l b L xs 436 x3 [] (zcat 67 Sx Sm) := by
  obtain ⟨r, Sx', Sm', q1, q2, hR'⟩ := ho (xs (x3 + 1).toNatClampNeg) Sx Sm hR
  refine g_aload_n (pc := 436) (q := 1) dL_law_436 rfl rfl ?_
  refine g_aload_n (pc := 437) (q := 0) dL_law_437 rfl rfl ?_
  refine g_iload_n (pc := 438) (q := 3) dL_law_438 rfl rfl ?_
  refine g_iconst (pc := 439) (v := 1) dL_law_439 zci_1 ?_
  refine g_iadd (pc := 440) dL_law_440 ?_
  refine gl_sld (pc := 441) dL_law_441 h1 ?_
  refine gl_X (pc := 442) (st := []) [.int (xs (x3 + 1).toNatClampNeg)] dL_law_442 zm_L_49 zM_X11_falls ⟨by decide, by decide⟩ ⟨by decide, by decide⟩ rfl (w_X11_falls l q1) rfl rfl (Nat.le_of_ble_eq_true rfl) ?_
  refine g_aload_n (pc := 445) (q := 2) dL_law_445 rfl rfl ?_
  refine g_aload_n (pc := 446) (q := 0) dL_law_446 rfl rfl ?_
  refine g_iload_n (pc := 447) (q := 3) dL_law_447 rfl rfl ?_
  refine g_iconst (pc := 448) (v := 1) dL_law_448 zci_1 ?_
  refine g_iadd (pc := 449) dL_law_449 ?_
  refine gl_sld (pc := 450) dL_law_450 h1 ?_
  refine gl_M (pc := 451) (st := [.int r]) [.int (xs (x3 + 1).toNatClampNeg)] dL_law_451 zm_L_52 zM_X12_falls ⟨by decide, by decide⟩ ⟨by decide, by decide⟩ rfl rfl (w_X12_falls l q2) rfl rfl (Nat.le_of_ble_eq_true rfl) ?_
  refine g_icmp_eq (pc := 454) (tgt := 1291) dL_law_454 (by decide) (fun _ => ?_) (fun c => absurd rfl c)
  exact hK _ _ hR'
set_option maxRecDepth 100000 in
theorem lawc_9 (l : Launch) {b L : Nat} {xs : Nat → Int32} {Rel : zS → zS → Prop} (ho : zSt5 Rel f_X11_lay f_X12_lay) {x3 : Int32} (h1 : zin (x3 + 1) L) (h2 : zin (x3 + 2) L) (h3 : zin (x3 + 3) L) (h4 : zin (x3 + 4) L) (h5 : zin (x3 + 5) L) {Sx Sm : zS} (hR : Rel Sx Sm) (hK : ∀ Sx' Sm', Rel Sx' Sm' → WL l b L xs 1291 x3 [] (zcat 67 Sx' Sm')) : WL l b L xs 459 x3 [] (zcat 67 Sx Sm) := by
  obtain ⟨r, Sx', Sm', q1, q2, hR'⟩ := ho (xs (x3 + 1).toNatClampNeg) (xs (x3 + 2).toNatClampNeg) (xs (x3 + 3).toNatClampNeg) (xs (x3 + 4).toNatClampNeg) (xs (x3 + 5).toNatClampNeg) Sx Sm hR
  refine g_aload_n (pc := 459) (q := 1) dL_law_459 rfl rfl ?_
  refine g_aload_n (pc := 460) (q := 0) dL_law_460 rfl rfl ?_
  refine g_iload_n (pc := 461) (q := 3) dL_law_461 rfl rfl ?_
  refine g_iconst (pc := 462) (v := 1) dL_law_462 zci_1 ?_
  refine g_iadd (pc := 463) dL_law_463 ?_
  refine gl_sld (pc := 464) dL_law_464 h1 ?_
  refine g_aload_n (pc := 465) (q := 0) dL_law_465 rfl rfl ?_
  refine g_iload_n (pc := 466) (q := 3) dL_law_466 rfl rfl ?_
  refine g_iconst (pc := 467) (v := 2) dL_law_467 zci_2 ?_
  refine g_iadd (pc := 468) dL_law_468 ?_
  refine gl_sld (pc := 469) dL_law_469 h2 ?_
  refine g_aload_n (pc := 470) (q := 0) dL_law_470 rfl rfl ?_
  refine g_iload_n (pc := 471) (q := 3) dL_law_471 rfl rfl ?_
  refine g_iconst (pc := 472) (v := 3) dL_law_472 zci_3 ?_
  refine g_iadd (pc := 473) dL_law_473 ?_
  refine gl_sld (pc := 474) dL_law_474 h3 ?_
  refine g_aload_n (pc := 475) (q := 0) dL_law_475 rfl rfl ?_
  refine g_iload_n (pc := 476) (q := 3) dL_law_476 rfl rfl ?_
  refine g_iconst (pc := 477) (v := 4) dL_law_477 zci_4 ?_
  refine g_iadd (pc := 478) dL_law_478 ?_
  refine gl_sld (pc := 479) dL_law_479 h4 ?_
  refine g_aload_n (pc := 480) (q := 0) dL_law_480 rfl rfl ?_
  refine g_iload_n (pc := 481) (q := 3) dL_law_481 rfl rfl ?_
  refine g_iconst (pc := 482) (v := 5) dL_law_482 zci_5 ?_
  refine g_iadd (pc := 483) dL_law_483 ?_
  refine gl_sld (pc := 484) dL_law_484 h5 ?_
  refine gl_X (pc := 485) (st := []) [.int (xs (x3 + 1).toNatClampNeg), .int (xs (x3 + 2).toNatClampNeg), .int (xs (x3 + 3).toNatClampNeg), .int (xs (x3 + 4).toNatClampNeg), .int (xs (x3 + 5).toNatClampNeg)] dL_law_485 zm_L_53 zM_X11_lay ⟨by decide, by decide⟩ ⟨by decide, by decide⟩ rfl (w_X11_lay l q1) rfl rfl (Nat.le_of_ble_eq_true rfl) ?_
  refine g_aload_n (pc := 488) (q := 2) dL_law_488 rfl rfl ?_
  refine g_aload_n (pc := 489) (q := 0) dL_law_489 rfl rfl ?_
  refine g_iload_n (pc := 490) (q := 3) dL_law_490 rfl rfl ?_
  refine g_iconst (pc := 491) (v := 1) dL_law_491 zci_1 ?_
  refine g_iadd (pc := 492) dL_law_492 ?_
  refine gl_sld (pc := 493) dL_law_493 h1 ?_
  refine g_aload_n (pc := 494) (q := 0) dL_law_494 rfl rfl ?_
  refine g_iload_n (pc := 495) (q := 3) dL_law_495 rfl rfl ?_
  refine g_iconst (pc := 496) (v := 2) dL_law_496 zci_2 ?_
  refine g_iadd (pc := 497) dL_law_497 ?_
  refine gl_sld (pc := 498) dL_law_498 h2 ?_
  refine g_aload_n (pc := 499) (q := 0) dL_law_499 rfl rfl ?_
  refine g_iload_n (pc := 500) (q := 3) dL_law_500 rfl rfl ?_
  refine g_iconst (pc := 501) (v := 3) dL_law_501 zci_3 ?_
  refine g_iadd (pc := 502) dL_law_502 ?_
  refine gl_sld (pc := 503) dL_law_503 h3 ?_
  refine g_aload_n (pc := 504) (q := 0) dL_law_504 rfl rfl ?_
  refine g_iload_n (pc := 505) (q := 3) dL_law_505 rfl rfl ?_
  refine g_iconst (pc := 506) (v := 4) dL_law_506 zci_4 ?_
  refine g_iadd (pc := 507) dL_law_507 ?_
  refine gl_sld (pc := 508) dL_law_508 h4 ?_
  refine g_aload_n (pc := 509) (q := 0) dL_law_509 rfl rfl ?_
  refine g_iload_n (pc := 510) (q := 3) dL_law_510 rfl rfl ?_
  refine g_iconst (pc := 511) (v := 5) dL_law_511 zci_5 ?_
  refine g_iadd (pc := 512) dL_law_512 ?_
  refine gl_sld (pc := 513) dL_law_513 h5 ?_
  refine gl_M (pc := 514) (st := [.int r]) [.int (xs (x3 + 1).toNatClampNeg), .int (xs (x3 + 2).toNatClampNeg), .int (xs (x3 + 3).toNatClampNeg), .int (xs (x3 + 4).toNatClampNeg), .int (xs (x3 + 5).toNatClampNeg)] dL_law_514 zm_L_56 zM_X12_lay ⟨by decide, by decide⟩ ⟨by decide, by decide⟩ rfl rfl (w_X12_lay l q2) rfl rfl (Nat.le_of_ble_eq_true rfl) ?_
  refine g_icmp_eq (pc := 517) (tgt := 1291) dL_law_517 (by decide) (fun _ => ?_) (fun c => absurd rfl c)
  exact hK _ _ hR'
set_option maxRecDepth 100000 in
theorem lawc_10 (l : Launch) {b L : Nat} {xs : Nat → Int32} {Rel : zS → zS → Prop} (ho : zSt3 Rel f_X11_repeal f_X12_repeal) {x3 : Int32} (h1 : zin (x3 + 1) L) (h2 : zin (x3 + 2) L) (h3 : zin (x3 + 3) L) {Sx Sm : zS} (hR : Rel Sx Sm) (hK : ∀ Sx' Sm', Rel Sx' Sm' → WL l b L xs 1291 x3 [] (zcat 67 Sx' Sm')) : WL l b L xs 522 x3 [] (zcat 67 Sx Sm) := by
  obtain ⟨r, Sx', Sm', q1, q2, hR'⟩ := ho (xs (x3 + 1).toNatClampNeg) (xs (x3 + 2).toNatClampNeg) (xs (x3 + 3).toNatClampNeg) Sx Sm hR
  refine g_aload_n (pc := 522) (q := 1) dL_law_522 rfl rfl ?_
  refine g_aload_n (pc := 523) (q := 0) dL_law_523 rfl rfl ?_
  refine g_iload_n (pc := 524) (q := 3) dL_law_524 rfl rfl ?_
  refine g_iconst (pc := 525) (v := 1) dL_law_525 zci_1 ?_
  refine g_iadd (pc := 526) dL_law_526 ?_
  refine gl_sld (pc := 527) dL_law_527 h1 ?_
  refine g_aload_n (pc := 528) (q := 0) dL_law_528 rfl rfl ?_
  refine g_iload_n (pc := 529) (q := 3) dL_law_529 rfl rfl ?_
  refine g_iconst (pc := 530) (v := 2) dL_law_530 zci_2 ?_
  refine g_iadd (pc := 531) dL_law_531 ?_
  refine gl_sld (pc := 532) dL_law_532 h2 ?_
  refine g_aload_n (pc := 533) (q := 0) dL_law_533 rfl rfl ?_
  refine g_iload_n (pc := 534) (q := 3) dL_law_534 rfl rfl ?_
  refine g_iconst (pc := 535) (v := 3) dL_law_535 zci_3 ?_
  refine g_iadd (pc := 536) dL_law_536 ?_
  refine gl_sld (pc := 537) dL_law_537 h3 ?_
  refine gl_X (pc := 538) (st := []) [.int (xs (x3 + 1).toNatClampNeg), .int (xs (x3 + 2).toNatClampNeg), .int (xs (x3 + 3).toNatClampNeg)] dL_law_538 zm_L_57 zM_X11_repeal ⟨by decide, by decide⟩ ⟨by decide, by decide⟩ rfl (w_X11_repeal l q1) rfl rfl (Nat.le_of_ble_eq_true rfl) ?_
  refine g_aload_n (pc := 541) (q := 2) dL_law_541 rfl rfl ?_
  refine g_aload_n (pc := 542) (q := 0) dL_law_542 rfl rfl ?_
  refine g_iload_n (pc := 543) (q := 3) dL_law_543 rfl rfl ?_
  refine g_iconst (pc := 544) (v := 1) dL_law_544 zci_1 ?_
  refine g_iadd (pc := 545) dL_law_545 ?_
  refine gl_sld (pc := 546) dL_law_546 h1 ?_
  refine g_aload_n (pc := 547) (q := 0) dL_law_547 rfl rfl ?_
  refine g_iload_n (pc := 548) (q := 3) dL_law_548 rfl rfl ?_
  refine g_iconst (pc := 549) (v := 2) dL_law_549 zci_2 ?_
  refine g_iadd (pc := 550) dL_law_550 ?_
  refine gl_sld (pc := 551) dL_law_551 h2 ?_
  refine g_aload_n (pc := 552) (q := 0) dL_law_552 rfl rfl ?_
  refine g_iload_n (pc := 553) (q := 3) dL_law_553 rfl rfl ?_
  refine g_iconst (pc := 554) (v := 3) dL_law_554 zci_3 ?_
  refine g_iadd (pc := 555) dL_law_555 ?_
  refine gl_sld (pc := 556) dL_law_556 h3 ?_
  refine gl_M (pc := 557) (st := [.int r]) [.int (xs (x3 + 1).toNatClampNeg), .int (xs (x3 + 2).toNatClampNeg), .int (xs (x3 + 3).toNatClampNeg)] dL_law_557 zm_L_61 zM_X12_repeal ⟨by decide, by decide⟩ ⟨by decide, by decide⟩ rfl rfl (w_X12_repeal l q2) rfl rfl (Nat.le_of_ble_eq_true rfl) ?_
  refine g_icmp_eq (pc := 560) (tgt := 1291) dL_law_560 (by decide) (fun _ => ?_) (fun c => absurd rfl c)
  exact hK _ _ hR'
set_option maxRecDepth 100000 in
theorem lawc_11 (l : Launch) {b L : Nat} {xs : Nat → Int32} {Rel : zS → zS → Prop} (ho : zSt1 Rel f_X11_pull f_X12_pull) {x3 : Int32} (h1 : zin (x3 + 1) L) {Sx Sm : zS} (hR : Rel Sx Sm) (hK : ∀ Sx' Sm', Rel Sx' Sm' → WL l b L xs 1291 x3 [] (zcat 67 Sx' Sm')) : WL l b L xs 565 x3 [] (zcat 67 Sx Sm) := by
  obtain ⟨r, Sx', Sm', q1, q2, hR'⟩ := ho (xs (x3 + 1).toNatClampNeg) Sx Sm hR
  refine g_aload_n (pc := 565) (q := 1) dL_law_565 rfl rfl ?_
  refine g_aload_n (pc := 566) (q := 0) dL_law_566 rfl rfl ?_
  refine g_iload_n (pc := 567) (q := 3) dL_law_567 rfl rfl ?_
  refine g_iconst (pc := 568) (v := 1) dL_law_568 zci_1 ?_
  refine g_iadd (pc := 569) dL_law_569 ?_
  refine gl_sld (pc := 570) dL_law_570 h1 ?_
  refine gl_X (pc := 571) (st := []) [.int (xs (x3 + 1).toNatClampNeg)] dL_law_571 zm_L_62 zM_X11_pull ⟨by decide, by decide⟩ ⟨by decide, by decide⟩ rfl (w_X11_pull l q1) rfl rfl (Nat.le_of_ble_eq_true rfl) ?_
  refine g_aload_n (pc := 574) (q := 2) dL_law_574 rfl rfl ?_
  refine g_aload_n (pc := 575) (q := 0) dL_law_575 rfl rfl ?_
  refine g_iload_n (pc := 576) (q := 3) dL_law_576 rfl rfl ?_
  refine g_iconst (pc := 577) (v := 1) dL_law_577 zci_1 ?_
  refine g_iadd (pc := 578) dL_law_578 ?_
  refine gl_sld (pc := 579) dL_law_579 h1 ?_
  refine gl_M (pc := 580) (st := [.int r]) [.int (xs (x3 + 1).toNatClampNeg)] dL_law_580 zm_L_65 zM_X12_pull ⟨by decide, by decide⟩ ⟨by decide, by decide⟩ rfl rfl (w_X12_pull l q2) rfl rfl (Nat.le_of_ble_eq_true rfl) ?_
  refine g_icmp_eq (pc := 583) (tgt := 1291) dL_law_583 (by decide) (fun _ => ?_) (fun c => absurd rfl c)
  exact hK _ _ hR'
set_option maxRecDepth 100000 in
theorem lawc_12 (l : Launch) {b L : Nat} {xs : Nat → Int32} {Rel : zS → zS → Prop} (ho : zSt2 Rel f_X11_trim f_X12_trim) {x3 : Int32} (h1 : zin (x3 + 1) L) (h2 : zin (x3 + 2) L) {Sx Sm : zS} (hR : Rel Sx Sm) (hK : ∀ Sx' Sm', Rel Sx' Sm' → WL l b L xs 1291 x3 [] (zcat 67 Sx' Sm')) : WL l b L xs 588 x3 [] (zcat 67 Sx Sm) := by
  obtain ⟨r, Sx', Sm', q1, q2, hR'⟩ := ho (xs (x3 + 1).toNatClampNeg) (xs (x3 + 2).toNatClampNeg) Sx Sm hR
  refine g_aload_n (pc := 588) (q := 1) dL_law_588 rfl rfl ?_
  refine g_aload_n (pc := 589) (q := 0) dL_law_589 rfl rfl ?_
  refine g_iload_n (pc := 590) (q := 3) dL_law_590 rfl rfl ?_
  refine g_iconst (pc := 591) (v := 1) dL_law_591 zci_1 ?_
  refine g_iadd (pc := 592) dL_law_592 ?_
  refine gl_sld (pc := 593) dL_law_593 h1 ?_
  refine g_aload_n (pc := 594) (q := 0) dL_law_594 rfl rfl ?_
  refine g_iload_n (pc := 595) (q := 3) dL_law_595 rfl rfl ?_
  refine g_iconst (pc := 596) (v := 2) dL_law_596 zci_2 ?_
  refine g_iadd (pc := 597) dL_law_597 ?_
  refine gl_sld (pc := 598) dL_law_598 h2 ?_
  refine gl_X (pc := 599) (st := []) [.int (xs (x3 + 1).toNatClampNeg), .int (xs (x3 + 2).toNatClampNeg)] dL_law_599 zm_L_66 zM_X11_trim ⟨by decide, by decide⟩ ⟨by decide, by decide⟩ rfl (w_X11_trim l q1) rfl rfl (Nat.le_of_ble_eq_true rfl) ?_
  refine g_aload_n (pc := 602) (q := 2) dL_law_602 rfl rfl ?_
  refine g_aload_n (pc := 603) (q := 0) dL_law_603 rfl rfl ?_
  refine g_iload_n (pc := 604) (q := 3) dL_law_604 rfl rfl ?_
  refine g_iconst (pc := 605) (v := 1) dL_law_605 zci_1 ?_
  refine g_iadd (pc := 606) dL_law_606 ?_
  refine gl_sld (pc := 607) dL_law_607 h1 ?_
  refine g_aload_n (pc := 608) (q := 0) dL_law_608 rfl rfl ?_
  refine g_iload_n (pc := 609) (q := 3) dL_law_609 rfl rfl ?_
  refine g_iconst (pc := 610) (v := 2) dL_law_610 zci_2 ?_
  refine g_iadd (pc := 611) dL_law_611 ?_
  refine gl_sld (pc := 612) dL_law_612 h2 ?_
  refine gl_M (pc := 613) (st := [.int r]) [.int (xs (x3 + 1).toNatClampNeg), .int (xs (x3 + 2).toNatClampNeg)] dL_law_613 zm_L_69 zM_X12_trim ⟨by decide, by decide⟩ ⟨by decide, by decide⟩ rfl rfl (w_X12_trim l q2) rfl rfl (Nat.le_of_ble_eq_true rfl) ?_
  refine g_icmp_eq (pc := 616) (tgt := 1291) dL_law_616 (by decide) (fun _ => ?_) (fun c => absurd rfl c)
  exact hK _ _ hR'
set_option maxRecDepth 100000 in
theorem lawc_13 (l : Launch) {b L : Nat} {xs : Nat → Int32} {Rel : zS → zS → Prop} (ho : zSt0 Rel f_X11_year f_X12_year) {x3 : Int32}  {Sx Sm : zS} (hR : Rel Sx Sm) (hK : ∀ Sx' Sm', Rel Sx' Sm' → WL l b L xs 1291 x3 [] (zcat 67 Sx' Sm')) : WL l b L xs 621 x3 [] (zcat 67 Sx Sm) := by
  obtain ⟨r, Sx', Sm', q1, q2, hR'⟩ := ho  Sx Sm hR
  refine g_aload_n (pc := 621) (q := 1) dL_law_621 rfl rfl ?_
  refine gl_X (pc := 622) (st := []) [] dL_law_622 zm_L_70 zM_X11_year ⟨by decide, by decide⟩ ⟨by decide, by decide⟩ rfl (w_X11_year l q1) rfl rfl (Nat.le_of_ble_eq_true rfl) ?_
  refine g_aload_n (pc := 625) (q := 2) dL_law_625 rfl rfl ?_
  refine gl_M (pc := 626) (st := [.int r]) [] dL_law_626 zm_L_73 zM_X12_year ⟨by decide, by decide⟩ ⟨by decide, by decide⟩ rfl rfl (w_X12_year l q2) rfl rfl (Nat.le_of_ble_eq_true rfl) ?_
  refine g_icmp_eq (pc := 629) (tgt := 1291) dL_law_629 (by decide) (fun _ => ?_) (fun c => absurd rfl c)
  exact hK _ _ hR'
set_option maxRecDepth 100000 in
theorem lawc_14 (l : Launch) {b L : Nat} {xs : Nat → Int32} {Rel : zS → zS → Prop} (ho : zSt0 Rel f_X11_undo f_X12_undo) {x3 : Int32}  {Sx Sm : zS} (hR : Rel Sx Sm) (hK : ∀ Sx' Sm', Rel Sx' Sm' → WL l b L xs 1291 x3 [] (zcat 67 Sx' Sm')) : WL l b L xs 634 x3 [] (zcat 67 Sx Sm) := by
  obtain ⟨r, Sx', Sm', q1, q2, hR'⟩ := ho  Sx Sm hR
  refine g_aload_n (pc := 634) (q := 1) dL_law_634 rfl rfl ?_
  refine gl_X (pc := 635) (st := []) [] dL_law_635 zm_L_74 zM_X11_undo ⟨by decide, by decide⟩ ⟨by decide, by decide⟩ rfl (w_X11_undo l q1) rfl rfl (Nat.le_of_ble_eq_true rfl) ?_
  refine g_aload_n (pc := 638) (q := 2) dL_law_638 rfl rfl ?_
  refine gl_M (pc := 639) (st := [.int r]) [] dL_law_639 zm_L_78 zM_X12_undo ⟨by decide, by decide⟩ ⟨by decide, by decide⟩ rfl rfl (w_X12_undo l q2) rfl rfl (Nat.le_of_ble_eq_true rfl) ?_
  refine g_icmp_eq (pc := 642) (tgt := 1291) dL_law_642 (by decide) (fun _ => ?_) (fun c => absurd rfl c)
  exact hK _ _ hR'
set_option maxRecDepth 100000 in
theorem lawc_15 (l : Launch) {b L : Nat} {xs : Nat → Int32} {Rel : zS → zS → Prop} (ho : zSt0 Rel f_X11_redo f_X12_redo) {x3 : Int32}  {Sx Sm : zS} (hR : Rel Sx Sm) (hK : ∀ Sx' Sm', Rel Sx' Sm' → WL l b L xs 1291 x3 [] (zcat 67 Sx' Sm')) : WL l b L xs 647 x3 [] (zcat 67 Sx Sm) := by
  obtain ⟨r, Sx', Sm', q1, q2, hR'⟩ := ho  Sx Sm hR
  refine g_aload_n (pc := 647) (q := 1) dL_law_647 rfl rfl ?_
  refine gl_X (pc := 648) (st := []) [] dL_law_648 zm_L_79 zM_X11_redo ⟨by decide, by decide⟩ ⟨by decide, by decide⟩ rfl (w_X11_redo l q1) rfl rfl (Nat.le_of_ble_eq_true rfl) ?_
  refine g_aload_n (pc := 651) (q := 2) dL_law_651 rfl rfl ?_
  refine gl_M (pc := 652) (st := [.int r]) [] dL_law_652 zm_L_82 zM_X12_redo ⟨by decide, by decide⟩ ⟨by decide, by decide⟩ rfl rfl (w_X12_redo l q2) rfl rfl (Nat.le_of_ble_eq_true rfl) ?_
  refine g_icmp_eq (pc := 655) (tgt := 1291) dL_law_655 (by decide) (fun _ => ?_) (fun c => absurd rfl c)
  exact hK _ _ hR'
set_option maxRecDepth 100000 in
theorem lawc_16 (l : Launch) {b L : Nat} {xs : Nat → Int32} {Rel : zS → zS → Prop} (ho : zSt2 Rel f_X11_will f_X12_will) {x3 : Int32} (h1 : zin (x3 + 1) L) (h2 : zin (x3 + 2) L) {Sx Sm : zS} (hR : Rel Sx Sm) (hK : ∀ Sx' Sm', Rel Sx' Sm' → WL l b L xs 1291 x3 [] (zcat 67 Sx' Sm')) : WL l b L xs 660 x3 [] (zcat 67 Sx Sm) := by
  obtain ⟨r, Sx', Sm', q1, q2, hR'⟩ := ho (xs (x3 + 1).toNatClampNeg) (xs (x3 + 2).toNatClampNeg) Sx Sm hR
  refine g_aload_n (pc := 660) (q := 1) dL_law_660 rfl rfl ?_
  refine g_aload_n (pc := 661) (q := 0) dL_law_661 rfl rfl ?_
  refine g_iload_n (pc := 662) (q := 3) dL_law_662 rfl rfl ?_
  refine g_iconst (pc := 663) (v := 1) dL_law_663 zci_1 ?_
  refine g_iadd (pc := 664) dL_law_664 ?_
  refine gl_sld (pc := 665) dL_law_665 h1 ?_
  refine g_aload_n (pc := 666) (q := 0) dL_law_666 rfl rfl ?_
  refine g_iload_n (pc := 667) (q := 3) dL_law_667 rfl rfl ?_
  refine g_iconst (pc := 668) (v := 2) dL_law_668 zci_2 ?_
  refine g_iadd (pc := 669) dL_law_669 ?_
  refine gl_sld (pc := 670) dL_law_670 h2 ?_
  refine gl_X (pc := 671) (st := []) [.int (xs (x3 + 1).toNatClampNeg), .int (xs (x3 + 2).toNatClampNeg)] dL_law_671 zm_L_83 zM_X11_will ⟨by decide, by decide⟩ ⟨by decide, by decide⟩ rfl (w_X11_will l q1) rfl rfl (Nat.le_of_ble_eq_true rfl) ?_
  refine g_aload_n (pc := 674) (q := 2) dL_law_674 rfl rfl ?_
  refine g_aload_n (pc := 675) (q := 0) dL_law_675 rfl rfl ?_
  refine g_iload_n (pc := 676) (q := 3) dL_law_676 rfl rfl ?_
  refine g_iconst (pc := 677) (v := 1) dL_law_677 zci_1 ?_
  refine g_iadd (pc := 678) dL_law_678 ?_
  refine gl_sld (pc := 679) dL_law_679 h1 ?_
  refine g_aload_n (pc := 680) (q := 0) dL_law_680 rfl rfl ?_
  refine g_iload_n (pc := 681) (q := 3) dL_law_681 rfl rfl ?_
  refine g_iconst (pc := 682) (v := 2) dL_law_682 zci_2 ?_
  refine g_iadd (pc := 683) dL_law_683 ?_
  refine gl_sld (pc := 684) dL_law_684 h2 ?_
  refine gl_M (pc := 685) (st := [.int r]) [.int (xs (x3 + 1).toNatClampNeg), .int (xs (x3 + 2).toNatClampNeg)] dL_law_685 zm_L_86 zM_X12_will ⟨by decide, by decide⟩ ⟨by decide, by decide⟩ rfl rfl (w_X12_will l q2) rfl rfl (Nat.le_of_ble_eq_true rfl) ?_
  refine g_icmp_eq (pc := 688) (tgt := 1291) dL_law_688 (by decide) (fun _ => ?_) (fun c => absurd rfl c)
  exact hK _ _ hR'
set_option maxRecDepth 100000 in
theorem lawc_17 (l : Launch) {b L : Nat} {xs : Nat → Int32} {Rel : zS → zS → Prop} (ho : zSt1 Rel f_X11_lapse f_X12_lapse) {x3 : Int32} (h1 : zin (x3 + 1) L) {Sx Sm : zS} (hR : Rel Sx Sm) (hK : ∀ Sx' Sm', Rel Sx' Sm' → WL l b L xs 1291 x3 [] (zcat 67 Sx' Sm')) : WL l b L xs 693 x3 [] (zcat 67 Sx Sm) := by
  obtain ⟨r, Sx', Sm', q1, q2, hR'⟩ := ho (xs (x3 + 1).toNatClampNeg) Sx Sm hR
  refine g_aload_n (pc := 693) (q := 1) dL_law_693 rfl rfl ?_
  refine g_aload_n (pc := 694) (q := 0) dL_law_694 rfl rfl ?_
  refine g_iload_n (pc := 695) (q := 3) dL_law_695 rfl rfl ?_
  refine g_iconst (pc := 696) (v := 1) dL_law_696 zci_1 ?_
  refine g_iadd (pc := 697) dL_law_697 ?_
  refine gl_sld (pc := 698) dL_law_698 h1 ?_
  refine gl_X (pc := 699) (st := []) [.int (xs (x3 + 1).toNatClampNeg)] dL_law_699 zm_L_87 zM_X11_lapse ⟨by decide, by decide⟩ ⟨by decide, by decide⟩ rfl (w_X11_lapse l q1) rfl rfl (Nat.le_of_ble_eq_true rfl) ?_
  refine g_aload_n (pc := 702) (q := 2) dL_law_702 rfl rfl ?_
  refine g_aload_n (pc := 703) (q := 0) dL_law_703 rfl rfl ?_
  refine g_iload_n (pc := 704) (q := 3) dL_law_704 rfl rfl ?_
  refine g_iconst (pc := 705) (v := 1) dL_law_705 zci_1 ?_
  refine g_iadd (pc := 706) dL_law_706 ?_
  refine gl_sld (pc := 707) dL_law_707 h1 ?_
  refine gl_M (pc := 708) (st := [.int r]) [.int (xs (x3 + 1).toNatClampNeg)] dL_law_708 zm_L_90 zM_X12_lapse ⟨by decide, by decide⟩ ⟨by decide, by decide⟩ rfl rfl (w_X12_lapse l q2) rfl rfl (Nat.le_of_ble_eq_true rfl) ?_
  refine g_icmp_eq (pc := 711) (tgt := 1291) dL_law_711 (by decide) (fun _ => ?_) (fun c => absurd rfl c)
  exact hK _ _ hR'
set_option maxRecDepth 100000 in
theorem lawc_18 (l : Launch) {b L : Nat} {xs : Nat → Int32} {Rel : zS → zS → Prop} (ho : zSt1 Rel f_X11_dies f_X12_dies) {x3 : Int32} (h1 : zin (x3 + 1) L) {Sx Sm : zS} (hR : Rel Sx Sm) (hK : ∀ Sx' Sm', Rel Sx' Sm' → WL l b L xs 1291 x3 [] (zcat 67 Sx' Sm')) : WL l b L xs 716 x3 [] (zcat 67 Sx Sm) := by
  obtain ⟨r, Sx', Sm', q1, q2, hR'⟩ := ho (xs (x3 + 1).toNatClampNeg) Sx Sm hR
  refine g_aload_n (pc := 716) (q := 1) dL_law_716 rfl rfl ?_
  refine g_aload_n (pc := 717) (q := 0) dL_law_717 rfl rfl ?_
  refine g_iload_n (pc := 718) (q := 3) dL_law_718 rfl rfl ?_
  refine g_iconst (pc := 719) (v := 1) dL_law_719 zci_1 ?_
  refine g_iadd (pc := 720) dL_law_720 ?_
  refine gl_sld (pc := 721) dL_law_721 h1 ?_
  refine gl_X (pc := 722) (st := []) [.int (xs (x3 + 1).toNatClampNeg)] dL_law_722 zm_L_91 zM_X11_dies ⟨by decide, by decide⟩ ⟨by decide, by decide⟩ rfl (w_X11_dies l q1) rfl rfl (Nat.le_of_ble_eq_true rfl) ?_
  refine g_aload_n (pc := 725) (q := 2) dL_law_725 rfl rfl ?_
  refine g_aload_n (pc := 726) (q := 0) dL_law_726 rfl rfl ?_
  refine g_iload_n (pc := 727) (q := 3) dL_law_727 rfl rfl ?_
  refine g_iconst (pc := 728) (v := 1) dL_law_728 zci_1 ?_
  refine g_iadd (pc := 729) dL_law_729 ?_
  refine gl_sld (pc := 730) dL_law_730 h1 ?_
  refine gl_M (pc := 731) (st := [.int r]) [.int (xs (x3 + 1).toNatClampNeg)] dL_law_731 zm_L_94 zM_X12_dies ⟨by decide, by decide⟩ ⟨by decide, by decide⟩ rfl rfl (w_X12_dies l q2) rfl rfl (Nat.le_of_ble_eq_true rfl) ?_
  refine g_icmp_eq (pc := 734) (tgt := 1291) dL_law_734 (by decide) (fun _ => ?_) (fun c => absurd rfl c)
  exact hK _ _ hR'
set_option maxRecDepth 100000 in
theorem lawc_19 (l : Launch) {b L : Nat} {xs : Nat → Int32} {Rel : zS → zS → Prop} (ho : zSt1 Rel f_X11_living f_X12_living) {x3 : Int32} (h1 : zin (x3 + 1) L) {Sx Sm : zS} (hR : Rel Sx Sm) (hK : ∀ Sx' Sm', Rel Sx' Sm' → WL l b L xs 1291 x3 [] (zcat 67 Sx' Sm')) : WL l b L xs 739 x3 [] (zcat 67 Sx Sm) := by
  obtain ⟨r, Sx', Sm', q1, q2, hR'⟩ := ho (xs (x3 + 1).toNatClampNeg) Sx Sm hR
  refine g_aload_n (pc := 739) (q := 1) dL_law_739 rfl rfl ?_
  refine g_aload_n (pc := 740) (q := 0) dL_law_740 rfl rfl ?_
  refine g_iload_n (pc := 741) (q := 3) dL_law_741 rfl rfl ?_
  refine g_iconst (pc := 742) (v := 1) dL_law_742 zci_1 ?_
  refine g_iadd (pc := 743) dL_law_743 ?_
  refine gl_sld (pc := 744) dL_law_744 h1 ?_
  refine gl_X (pc := 745) (st := []) [.int (xs (x3 + 1).toNatClampNeg)] dL_law_745 zm_L_95 zM_X11_living ⟨by decide, by decide⟩ ⟨by decide, by decide⟩ rfl (w_X11_living l q1) rfl rfl (Nat.le_of_ble_eq_true rfl) ?_
  refine g_aload_n (pc := 748) (q := 2) dL_law_748 rfl rfl ?_
  refine g_aload_n (pc := 749) (q := 0) dL_law_749 rfl rfl ?_
  refine g_iload_n (pc := 750) (q := 3) dL_law_750 rfl rfl ?_
  refine g_iconst (pc := 751) (v := 1) dL_law_751 zci_1 ?_
  refine g_iadd (pc := 752) dL_law_752 ?_
  refine gl_sld (pc := 753) dL_law_753 h1 ?_
  refine gl_M (pc := 754) (st := [.int r]) [.int (xs (x3 + 1).toNatClampNeg)] dL_law_754 zm_L_98 zM_X12_living ⟨by decide, by decide⟩ ⟨by decide, by decide⟩ rfl rfl (w_X12_living l q2) rfl rfl (Nat.le_of_ble_eq_true rfl) ?_
  refine g_icmp_eq (pc := 757) (tgt := 1291) dL_law_757 (by decide) (fun _ => ?_) (fun c => absurd rfl c)
  exact hK _ _ hR'
set_option maxRecDepth 100000 in
theorem lawc_20 (l : Launch) {b L : Nat} {xs : Nat → Int32} {Rel : zS → zS → Prop} (ho : zSt0 Rel f_X11_clashes f_X12_clashes) {x3 : Int32}  {Sx Sm : zS} (hR : Rel Sx Sm) (hK : ∀ Sx' Sm', Rel Sx' Sm' → WL l b L xs 1291 x3 [] (zcat 67 Sx' Sm')) : WL l b L xs 762 x3 [] (zcat 67 Sx Sm) := by
  obtain ⟨r, Sx', Sm', q1, q2, hR'⟩ := ho  Sx Sm hR
  refine g_aload_n (pc := 762) (q := 1) dL_law_762 rfl rfl ?_
  refine gl_X (pc := 763) (st := []) [] dL_law_763 zm_L_99 zM_X11_clashes ⟨by decide, by decide⟩ ⟨by decide, by decide⟩ rfl (w_X11_clashes l q1) rfl rfl (Nat.le_of_ble_eq_true rfl) ?_
  refine g_aload_n (pc := 766) (q := 2) dL_law_766 rfl rfl ?_
  refine gl_M (pc := 767) (st := [.int r]) [] dL_law_767 zm_L_102 zM_X12_clashes ⟨by decide, by decide⟩ ⟨by decide, by decide⟩ rfl rfl (w_X12_clashes l q2) rfl rfl (Nat.le_of_ble_eq_true rfl) ?_
  refine g_icmp_eq (pc := 770) (tgt := 1291) dL_law_770 (by decide) (fun _ => ?_) (fun c => absurd rfl c)
  exact hK _ _ hR'
set_option maxRecDepth 100000 in
theorem lawc_21 (l : Launch) {b L : Nat} {xs : Nat → Int32} {Rel : zS → zS → Prop} (ho : zSt1 Rel f_X11_weed f_X12_weed) {x3 : Int32} (h1 : zin (x3 + 1) L) {Sx Sm : zS} (hR : Rel Sx Sm) (hK : ∀ Sx' Sm', Rel Sx' Sm' → WL l b L xs 1291 x3 [] (zcat 67 Sx' Sm')) : WL l b L xs 775 x3 [] (zcat 67 Sx Sm) := by
  obtain ⟨r, Sx', Sm', q1, q2, hR'⟩ := ho (xs (x3 + 1).toNatClampNeg) Sx Sm hR
  refine g_aload_n (pc := 775) (q := 1) dL_law_775 rfl rfl ?_
  refine g_aload_n (pc := 776) (q := 0) dL_law_776 rfl rfl ?_
  refine g_iload_n (pc := 777) (q := 3) dL_law_777 rfl rfl ?_
  refine g_iconst (pc := 778) (v := 1) dL_law_778 zci_1 ?_
  refine g_iadd (pc := 779) dL_law_779 ?_
  refine gl_sld (pc := 780) dL_law_780 h1 ?_
  refine gl_X (pc := 781) (st := []) [.int (xs (x3 + 1).toNatClampNeg)] dL_law_781 zm_L_103 zM_X11_weed ⟨by decide, by decide⟩ ⟨by decide, by decide⟩ rfl (w_X11_weed l q1) rfl rfl (Nat.le_of_ble_eq_true rfl) ?_
  refine g_aload_n (pc := 784) (q := 2) dL_law_784 rfl rfl ?_
  refine g_aload_n (pc := 785) (q := 0) dL_law_785 rfl rfl ?_
  refine g_iload_n (pc := 786) (q := 3) dL_law_786 rfl rfl ?_
  refine g_iconst (pc := 787) (v := 1) dL_law_787 zci_1 ?_
  refine g_iadd (pc := 788) dL_law_788 ?_
  refine gl_sld (pc := 789) dL_law_789 h1 ?_
  refine gl_M (pc := 790) (st := [.int r]) [.int (xs (x3 + 1).toNatClampNeg)] dL_law_790 zm_L_106 zM_X12_weed ⟨by decide, by decide⟩ ⟨by decide, by decide⟩ rfl rfl (w_X12_weed l q2) rfl rfl (Nat.le_of_ble_eq_true rfl) ?_
  refine g_icmp_eq (pc := 793) (tgt := 1291) dL_law_793 (by decide) (fun _ => ?_) (fun c => absurd rfl c)
  exact hK _ _ hR'
set_option maxRecDepth 100000 in
theorem lawc_22 (l : Launch) {b L : Nat} {xs : Nat → Int32} {Rel : zS → zS → Prop} (ho : zSt3 Rel f_X11_places f_X12_places) {x3 : Int32} (h1 : zin (x3 + 1) L) (h2 : zin (x3 + 2) L) (h3 : zin (x3 + 3) L) {Sx Sm : zS} (hR : Rel Sx Sm) (hK : ∀ Sx' Sm', Rel Sx' Sm' → WL l b L xs 1291 x3 [] (zcat 67 Sx' Sm')) : WL l b L xs 798 x3 [] (zcat 67 Sx Sm) := by
  obtain ⟨r, Sx', Sm', q1, q2, hR'⟩ := ho (xs (x3 + 1).toNatClampNeg) (xs (x3 + 2).toNatClampNeg) (xs (x3 + 3).toNatClampNeg) Sx Sm hR
  refine g_aload_n (pc := 798) (q := 1) dL_law_798 rfl rfl ?_
  refine g_aload_n (pc := 799) (q := 0) dL_law_799 rfl rfl ?_
  refine g_iload_n (pc := 800) (q := 3) dL_law_800 rfl rfl ?_
  refine g_iconst (pc := 801) (v := 1) dL_law_801 zci_1 ?_
  refine g_iadd (pc := 802) dL_law_802 ?_
  refine gl_sld (pc := 803) dL_law_803 h1 ?_
  refine g_aload_n (pc := 804) (q := 0) dL_law_804 rfl rfl ?_
  refine g_iload_n (pc := 805) (q := 3) dL_law_805 rfl rfl ?_
  refine g_iconst (pc := 806) (v := 2) dL_law_806 zci_2 ?_
  refine g_iadd (pc := 807) dL_law_807 ?_
  refine gl_sld (pc := 808) dL_law_808 h2 ?_
  refine g_aload_n (pc := 809) (q := 0) dL_law_809 rfl rfl ?_
  refine g_iload_n (pc := 810) (q := 3) dL_law_810 rfl rfl ?_
  refine g_iconst (pc := 811) (v := 3) dL_law_811 zci_3 ?_
  refine g_iadd (pc := 812) dL_law_812 ?_
  refine gl_sld (pc := 813) dL_law_813 h3 ?_
  refine gl_X (pc := 814) (st := []) [.int (xs (x3 + 1).toNatClampNeg), .int (xs (x3 + 2).toNatClampNeg), .int (xs (x3 + 3).toNatClampNeg)] dL_law_814 zm_L_107 zM_X11_places ⟨by decide, by decide⟩ ⟨by decide, by decide⟩ rfl (w_X11_places l q1) rfl rfl (Nat.le_of_ble_eq_true rfl) ?_
  refine g_aload_n (pc := 817) (q := 2) dL_law_817 rfl rfl ?_
  refine g_aload_n (pc := 818) (q := 0) dL_law_818 rfl rfl ?_
  refine g_iload_n (pc := 819) (q := 3) dL_law_819 rfl rfl ?_
  refine g_iconst (pc := 820) (v := 1) dL_law_820 zci_1 ?_
  refine g_iadd (pc := 821) dL_law_821 ?_
  refine gl_sld (pc := 822) dL_law_822 h1 ?_
  refine g_aload_n (pc := 823) (q := 0) dL_law_823 rfl rfl ?_
  refine g_iload_n (pc := 824) (q := 3) dL_law_824 rfl rfl ?_
  refine g_iconst (pc := 825) (v := 2) dL_law_825 zci_2 ?_
  refine g_iadd (pc := 826) dL_law_826 ?_
  refine gl_sld (pc := 827) dL_law_827 h2 ?_
  refine g_aload_n (pc := 828) (q := 0) dL_law_828 rfl rfl ?_
  refine g_iload_n (pc := 829) (q := 3) dL_law_829 rfl rfl ?_
  refine g_iconst (pc := 830) (v := 3) dL_law_830 zci_3 ?_
  refine g_iadd (pc := 831) dL_law_831 ?_
  refine gl_sld (pc := 832) dL_law_832 h3 ?_
  refine gl_M (pc := 833) (st := [.int r]) [.int (xs (x3 + 1).toNatClampNeg), .int (xs (x3 + 2).toNatClampNeg), .int (xs (x3 + 3).toNatClampNeg)] dL_law_833 zm_L_110 zM_X12_places ⟨by decide, by decide⟩ ⟨by decide, by decide⟩ rfl rfl (w_X12_places l q2) rfl rfl (Nat.le_of_ble_eq_true rfl) ?_
  refine g_icmp_eq (pc := 836) (tgt := 1291) dL_law_836 (by decide) (fun _ => ?_) (fun c => absurd rfl c)
  exact hK _ _ hR'
set_option maxRecDepth 100000 in
theorem lawc_23 (l : Launch) {b L : Nat} {xs : Nat → Int32} {Rel : zS → zS → Prop} (ho : zSt0 Rel f_X11_gaps f_X12_gaps) {x3 : Int32}  {Sx Sm : zS} (hR : Rel Sx Sm) (hK : ∀ Sx' Sm', Rel Sx' Sm' → WL l b L xs 1291 x3 [] (zcat 67 Sx' Sm')) : WL l b L xs 841 x3 [] (zcat 67 Sx Sm) := by
  obtain ⟨r, Sx', Sm', q1, q2, hR'⟩ := ho  Sx Sm hR
  refine g_aload_n (pc := 841) (q := 1) dL_law_841 rfl rfl ?_
  refine gl_X (pc := 842) (st := []) [] dL_law_842 zm_L_111 zM_X11_gaps ⟨by decide, by decide⟩ ⟨by decide, by decide⟩ rfl (w_X11_gaps l q1) rfl rfl (Nat.le_of_ble_eq_true rfl) ?_
  refine g_aload_n (pc := 845) (q := 2) dL_law_845 rfl rfl ?_
  refine gl_M (pc := 846) (st := [.int r]) [] dL_law_846 zm_L_114 zM_X12_gaps ⟨by decide, by decide⟩ ⟨by decide, by decide⟩ rfl rfl (w_X12_gaps l q2) rfl rfl (Nat.le_of_ble_eq_true rfl) ?_
  refine g_icmp_eq (pc := 849) (tgt := 1291) dL_law_849 (by decide) (fun _ => ?_) (fun c => absurd rfl c)
  exact hK _ _ hR'
set_option maxRecDepth 100000 in
theorem lawc_24 (l : Launch) {b L : Nat} {xs : Nat → Int32} {Rel : zS → zS → Prop} (ho : zSt0 Rel f_X11_widest f_X12_widest) {x3 : Int32}  {Sx Sm : zS} (hR : Rel Sx Sm) (hK : ∀ Sx' Sm', Rel Sx' Sm' → WL l b L xs 1291 x3 [] (zcat 67 Sx' Sm')) : WL l b L xs 854 x3 [] (zcat 67 Sx Sm) := by
  obtain ⟨r, Sx', Sm', q1, q2, hR'⟩ := ho  Sx Sm hR
  refine g_aload_n (pc := 854) (q := 1) dL_law_854 rfl rfl ?_
  refine gl_X (pc := 855) (st := []) [] dL_law_855 zm_L_115 zM_X11_widest ⟨by decide, by decide⟩ ⟨by decide, by decide⟩ rfl (w_X11_widest l q1) rfl rfl (Nat.le_of_ble_eq_true rfl) ?_
  refine g_aload_n (pc := 858) (q := 2) dL_law_858 rfl rfl ?_
  refine gl_M (pc := 859) (st := [.int r]) [] dL_law_859 zm_L_118 zM_X12_widest ⟨by decide, by decide⟩ ⟨by decide, by decide⟩ rfl rfl (w_X12_widest l q2) rfl rfl (Nat.le_of_ble_eq_true rfl) ?_
  refine g_icmp_eq (pc := 862) (tgt := 1291) dL_law_862 (by decide) (fun _ => ?_) (fun c => absurd rfl c)
  exact hK _ _ hR'
set_option maxRecDepth 100000 in
theorem lawc_25 (l : Launch) {b L : Nat} {xs : Nat → Int32} {Rel : zS → zS → Prop} (ho : zSt1 Rel f_X11_closes f_X12_closes) {x3 : Int32} (h1 : zin (x3 + 1) L) {Sx Sm : zS} (hR : Rel Sx Sm) (hK : ∀ Sx' Sm', Rel Sx' Sm' → WL l b L xs 1291 x3 [] (zcat 67 Sx' Sm')) : WL l b L xs 867 x3 [] (zcat 67 Sx Sm) := by
  obtain ⟨r, Sx', Sm', q1, q2, hR'⟩ := ho (xs (x3 + 1).toNatClampNeg) Sx Sm hR
  refine g_aload_n (pc := 867) (q := 1) dL_law_867 rfl rfl ?_
  refine g_aload_n (pc := 868) (q := 0) dL_law_868 rfl rfl ?_
  refine g_iload_n (pc := 869) (q := 3) dL_law_869 rfl rfl ?_
  refine g_iconst (pc := 870) (v := 1) dL_law_870 zci_1 ?_
  refine g_iadd (pc := 871) dL_law_871 ?_
  refine gl_sld (pc := 872) dL_law_872 h1 ?_
  refine gl_X (pc := 873) (st := []) [.int (xs (x3 + 1).toNatClampNeg)] dL_law_873 zm_L_119 zM_X11_closes ⟨by decide, by decide⟩ ⟨by decide, by decide⟩ rfl (w_X11_closes l q1) rfl rfl (Nat.le_of_ble_eq_true rfl) ?_
  refine g_aload_n (pc := 876) (q := 2) dL_law_876 rfl rfl ?_
  refine g_aload_n (pc := 877) (q := 0) dL_law_877 rfl rfl ?_
  refine g_iload_n (pc := 878) (q := 3) dL_law_878 rfl rfl ?_
  refine g_iconst (pc := 879) (v := 1) dL_law_879 zci_1 ?_
  refine g_iadd (pc := 880) dL_law_880 ?_
  refine gl_sld (pc := 881) dL_law_881 h1 ?_
  refine gl_M (pc := 882) (st := [.int r]) [.int (xs (x3 + 1).toNatClampNeg)] dL_law_882 zm_L_122 zM_X12_closes ⟨by decide, by decide⟩ ⟨by decide, by decide⟩ rfl rfl (w_X12_closes l q2) rfl rfl (Nat.le_of_ble_eq_true rfl) ?_
  refine g_icmp_eq (pc := 885) (tgt := 1291) dL_law_885 (by decide) (fun _ => ?_) (fun c => absurd rfl c)
  exact hK _ _ hR'
set_option maxRecDepth 100000 in
theorem lawc_26 (l : Launch) {b L : Nat} {xs : Nat → Int32} {Rel : zS → zS → Prop} (ho : zSt2 Rel f_X11_walk f_X12_walk) {x3 : Int32} (h1 : zin (x3 + 1) L) (h2 : zin (x3 + 2) L) {Sx Sm : zS} (hR : Rel Sx Sm) (hK : ∀ Sx' Sm', Rel Sx' Sm' → WL l b L xs 1291 x3 [] (zcat 67 Sx' Sm')) : WL l b L xs 890 x3 [] (zcat 67 Sx Sm) := by
  obtain ⟨r, Sx', Sm', q1, q2, hR'⟩ := ho (xs (x3 + 1).toNatClampNeg) (xs (x3 + 2).toNatClampNeg) Sx Sm hR
  refine g_aload_n (pc := 890) (q := 1) dL_law_890 rfl rfl ?_
  refine g_aload_n (pc := 891) (q := 0) dL_law_891 rfl rfl ?_
  refine g_iload_n (pc := 892) (q := 3) dL_law_892 rfl rfl ?_
  refine g_iconst (pc := 893) (v := 1) dL_law_893 zci_1 ?_
  refine g_iadd (pc := 894) dL_law_894 ?_
  refine gl_sld (pc := 895) dL_law_895 h1 ?_
  refine g_aload_n (pc := 896) (q := 0) dL_law_896 rfl rfl ?_
  refine g_iload_n (pc := 897) (q := 3) dL_law_897 rfl rfl ?_
  refine g_iconst (pc := 898) (v := 2) dL_law_898 zci_2 ?_
  refine g_iadd (pc := 899) dL_law_899 ?_
  refine gl_sld (pc := 900) dL_law_900 h2 ?_
  refine gl_X (pc := 901) (st := []) [.int (xs (x3 + 1).toNatClampNeg), .int (xs (x3 + 2).toNatClampNeg)] dL_law_901 zm_L_123 zM_X11_walk ⟨by decide, by decide⟩ ⟨by decide, by decide⟩ rfl (w_X11_walk l q1) rfl rfl (Nat.le_of_ble_eq_true rfl) ?_
  refine g_aload_n (pc := 904) (q := 2) dL_law_904 rfl rfl ?_
  refine g_aload_n (pc := 905) (q := 0) dL_law_905 rfl rfl ?_
  refine g_iload_n (pc := 906) (q := 3) dL_law_906 rfl rfl ?_
  refine g_iconst (pc := 907) (v := 1) dL_law_907 zci_1 ?_
  refine g_iadd (pc := 908) dL_law_908 ?_
  refine gl_sld (pc := 909) dL_law_909 h1 ?_
  refine g_aload_n (pc := 910) (q := 0) dL_law_910 rfl rfl ?_
  refine g_iload_n (pc := 911) (q := 3) dL_law_911 rfl rfl ?_
  refine g_iconst (pc := 912) (v := 2) dL_law_912 zci_2 ?_
  refine g_iadd (pc := 913) dL_law_913 ?_
  refine gl_sld (pc := 914) dL_law_914 h2 ?_
  refine gl_M (pc := 915) (st := [.int r]) [.int (xs (x3 + 1).toNatClampNeg), .int (xs (x3 + 2).toNatClampNeg)] dL_law_915 zm_L_126 zM_X12_walk ⟨by decide, by decide⟩ ⟨by decide, by decide⟩ rfl rfl (w_X12_walk l q2) rfl rfl (Nat.le_of_ble_eq_true rfl) ?_
  refine g_icmp_eq (pc := 918) (tgt := 1291) dL_law_918 (by decide) (fun _ => ?_) (fun c => absurd rfl c)
  exact hK _ _ hR'
set_option maxRecDepth 100000 in
theorem lawc_27 (l : Launch) {b L : Nat} {xs : Nat → Int32} {Rel : zS → zS → Prop} (ho : zSt2 Rel f_X11_plan f_X12_plan) {x3 : Int32} (h1 : zin (x3 + 1) L) (h2 : zin (x3 + 2) L) {Sx Sm : zS} (hR : Rel Sx Sm) (hK : ∀ Sx' Sm', Rel Sx' Sm' → WL l b L xs 1291 x3 [] (zcat 67 Sx' Sm')) : WL l b L xs 923 x3 [] (zcat 67 Sx Sm) := by
  obtain ⟨r, Sx', Sm', q1, q2, hR'⟩ := ho (xs (x3 + 1).toNatClampNeg) (xs (x3 + 2).toNatClampNeg) Sx Sm hR
  refine g_aload_n (pc := 923) (q := 1) dL_law_923 rfl rfl ?_
  refine g_aload_n (pc := 924) (q := 0) dL_law_924 rfl rfl ?_
  refine g_iload_n (pc := 925) (q := 3) dL_law_925 rfl rfl ?_
  refine g_iconst (pc := 926) (v := 1) dL_law_926 zci_1 ?_
  refine g_iadd (pc := 927) dL_law_927 ?_
  refine gl_sld (pc := 928) dL_law_928 h1 ?_
  refine g_aload_n (pc := 929) (q := 0) dL_law_929 rfl rfl ?_
  refine g_iload_n (pc := 930) (q := 3) dL_law_930 rfl rfl ?_
  refine g_iconst (pc := 931) (v := 2) dL_law_931 zci_2 ?_
  refine g_iadd (pc := 932) dL_law_932 ?_
  refine gl_sld (pc := 933) dL_law_933 h2 ?_
  refine gl_X (pc := 934) (st := []) [.int (xs (x3 + 1).toNatClampNeg), .int (xs (x3 + 2).toNatClampNeg)] dL_law_934 zm_L_127 zM_X11_plan ⟨by decide, by decide⟩ ⟨by decide, by decide⟩ rfl (w_X11_plan l q1) rfl rfl (Nat.le_of_ble_eq_true rfl) ?_
  refine g_aload_n (pc := 937) (q := 2) dL_law_937 rfl rfl ?_
  refine g_aload_n (pc := 938) (q := 0) dL_law_938 rfl rfl ?_
  refine g_iload_n (pc := 939) (q := 3) dL_law_939 rfl rfl ?_
  refine g_iconst (pc := 940) (v := 1) dL_law_940 zci_1 ?_
  refine g_iadd (pc := 941) dL_law_941 ?_
  refine gl_sld (pc := 942) dL_law_942 h1 ?_
  refine g_aload_n (pc := 943) (q := 0) dL_law_943 rfl rfl ?_
  refine g_iload_n (pc := 944) (q := 3) dL_law_944 rfl rfl ?_
  refine g_iconst (pc := 945) (v := 2) dL_law_945 zci_2 ?_
  refine g_iadd (pc := 946) dL_law_946 ?_
  refine gl_sld (pc := 947) dL_law_947 h2 ?_
  refine gl_M (pc := 948) (st := [.int r]) [.int (xs (x3 + 1).toNatClampNeg), .int (xs (x3 + 2).toNatClampNeg)] dL_law_948 zm_L_130 zM_X12_plan ⟨by decide, by decide⟩ ⟨by decide, by decide⟩ rfl rfl (w_X12_plan l q2) rfl rfl (Nat.le_of_ble_eq_true rfl) ?_
  refine g_icmp_eq (pc := 951) (tgt := 1291) dL_law_951 (by decide) (fun _ => ?_) (fun c => absurd rfl c)
  exact hK _ _ hR'
set_option maxRecDepth 100000 in
theorem lawc_28 (l : Launch) {b L : Nat} {xs : Nat → Int32} {Rel : zS → zS → Prop} (ho : zSt1 Rel f_X11_joy f_X12_joy) {x3 : Int32} (h1 : zin (x3 + 1) L) {Sx Sm : zS} (hR : Rel Sx Sm) (hK : ∀ Sx' Sm', Rel Sx' Sm' → WL l b L xs 1291 x3 [] (zcat 67 Sx' Sm')) : WL l b L xs 956 x3 [] (zcat 67 Sx Sm) := by
  obtain ⟨r, Sx', Sm', q1, q2, hR'⟩ := ho (xs (x3 + 1).toNatClampNeg) Sx Sm hR
  refine g_aload_n (pc := 956) (q := 1) dL_law_956 rfl rfl ?_
  refine g_aload_n (pc := 957) (q := 0) dL_law_957 rfl rfl ?_
  refine g_iload_n (pc := 958) (q := 3) dL_law_958 rfl rfl ?_
  refine g_iconst (pc := 959) (v := 1) dL_law_959 zci_1 ?_
  refine g_iadd (pc := 960) dL_law_960 ?_
  refine gl_sld (pc := 961) dL_law_961 h1 ?_
  refine gl_X (pc := 962) (st := []) [.int (xs (x3 + 1).toNatClampNeg)] dL_law_962 zm_L_131 zM_X11_joy ⟨by decide, by decide⟩ ⟨by decide, by decide⟩ rfl (w_X11_joy l q1) rfl rfl (Nat.le_of_ble_eq_true rfl) ?_
  refine g_aload_n (pc := 965) (q := 2) dL_law_965 rfl rfl ?_
  refine g_aload_n (pc := 966) (q := 0) dL_law_966 rfl rfl ?_
  refine g_iload_n (pc := 967) (q := 3) dL_law_967 rfl rfl ?_
  refine g_iconst (pc := 968) (v := 1) dL_law_968 zci_1 ?_
  refine g_iadd (pc := 969) dL_law_969 ?_
  refine gl_sld (pc := 970) dL_law_970 h1 ?_
  refine gl_M (pc := 971) (st := [.int r]) [.int (xs (x3 + 1).toNatClampNeg)] dL_law_971 zm_L_134 zM_X12_joy ⟨by decide, by decide⟩ ⟨by decide, by decide⟩ rfl rfl (w_X12_joy l q2) rfl rfl (Nat.le_of_ble_eq_true rfl) ?_
  refine g_icmp_eq (pc := 974) (tgt := 1291) dL_law_974 (by decide) (fun _ => ?_) (fun c => absurd rfl c)
  exact hK _ _ hR'
set_option maxRecDepth 100000 in
theorem lawc_29 (l : Launch) {b L : Nat} {xs : Nat → Int32} {Rel : zS → zS → Prop} (ho : zSt0 Rel f_X11_saddest f_X12_saddest) {x3 : Int32}  {Sx Sm : zS} (hR : Rel Sx Sm) (hK : ∀ Sx' Sm', Rel Sx' Sm' → WL l b L xs 1291 x3 [] (zcat 67 Sx' Sm')) : WL l b L xs 979 x3 [] (zcat 67 Sx Sm) := by
  obtain ⟨r, Sx', Sm', q1, q2, hR'⟩ := ho  Sx Sm hR
  refine g_aload_n (pc := 979) (q := 1) dL_law_979 rfl rfl ?_
  refine gl_X (pc := 980) (st := []) [] dL_law_980 zm_L_135 zM_X11_saddest ⟨by decide, by decide⟩ ⟨by decide, by decide⟩ rfl (w_X11_saddest l q1) rfl rfl (Nat.le_of_ble_eq_true rfl) ?_
  refine g_aload_n (pc := 983) (q := 2) dL_law_983 rfl rfl ?_
  refine gl_M (pc := 984) (st := [.int r]) [] dL_law_984 zm_L_138 zM_X12_saddest ⟨by decide, by decide⟩ ⟨by decide, by decide⟩ rfl rfl (w_X12_saddest l q2) rfl rfl (Nat.le_of_ble_eq_true rfl) ?_
  refine g_icmp_eq (pc := 987) (tgt := 1291) dL_law_987 (by decide) (fun _ => ?_) (fun c => absurd rfl c)
  exact hK _ _ hR'
set_option maxRecDepth 100000 in
theorem lawc_30 (l : Launch) {b L : Nat} {xs : Nat → Int32} {Rel : zS → zS → Prop} (ho : zSt0 Rel f_X11_game f_X12_game) {x3 : Int32}  {Sx Sm : zS} (hR : Rel Sx Sm) (hK : ∀ Sx' Sm', Rel Sx' Sm' → WL l b L xs 1291 x3 [] (zcat 67 Sx' Sm')) : WL l b L xs 992 x3 [] (zcat 67 Sx Sm) := by
  obtain ⟨r, Sx', Sm', q1, q2, hR'⟩ := ho  Sx Sm hR
  refine g_aload_n (pc := 992) (q := 1) dL_law_992 rfl rfl ?_
  refine gl_X (pc := 993) (st := []) [] dL_law_993 zm_L_139 zM_X11_game ⟨by decide, by decide⟩ ⟨by decide, by decide⟩ rfl (w_X11_game l q1) rfl rfl (Nat.le_of_ble_eq_true rfl) ?_
  refine g_aload_n (pc := 996) (q := 2) dL_law_996 rfl rfl ?_
  refine gl_M (pc := 997) (st := [.int r]) [] dL_law_997 zm_L_142 zM_X12_game ⟨by decide, by decide⟩ ⟨by decide, by decide⟩ rfl rfl (w_X12_game l q2) rfl rfl (Nat.le_of_ble_eq_true rfl) ?_
  refine g_icmp_eq (pc := 1000) (tgt := 1291) dL_law_1000 (by decide) (fun _ => ?_) (fun c => absurd rfl c)
  exact hK _ _ hR'
set_option maxRecDepth 100000 in
theorem lawc_31 (l : Launch) {b L : Nat} {xs : Nat → Int32} {Rel : zS → zS → Prop} (ho : zSt1 Rel f_X11_lies f_X12_lies) {x3 : Int32} (h1 : zin (x3 + 1) L) {Sx Sm : zS} (hR : Rel Sx Sm) (hK : ∀ Sx' Sm', Rel Sx' Sm' → WL l b L xs 1291 x3 [] (zcat 67 Sx' Sm')) : WL l b L xs 1005 x3 [] (zcat 67 Sx Sm) := by
  obtain ⟨r, Sx', Sm', q1, q2, hR'⟩ := ho (xs (x3 + 1).toNatClampNeg) Sx Sm hR
  refine g_aload_n (pc := 1005) (q := 1) dL_law_1005 rfl rfl ?_
  refine g_aload_n (pc := 1006) (q := 0) dL_law_1006 rfl rfl ?_
  refine g_iload_n (pc := 1007) (q := 3) dL_law_1007 rfl rfl ?_
  refine g_iconst (pc := 1008) (v := 1) dL_law_1008 zci_1 ?_
  refine g_iadd (pc := 1009) dL_law_1009 ?_
  refine gl_sld (pc := 1010) dL_law_1010 h1 ?_
  refine gl_X (pc := 1011) (st := []) [.int (xs (x3 + 1).toNatClampNeg)] dL_law_1011 zm_L_143 zM_X11_lies ⟨by decide, by decide⟩ ⟨by decide, by decide⟩ rfl (w_X11_lies l q1) rfl rfl (Nat.le_of_ble_eq_true rfl) ?_
  refine g_aload_n (pc := 1014) (q := 2) dL_law_1014 rfl rfl ?_
  refine g_aload_n (pc := 1015) (q := 0) dL_law_1015 rfl rfl ?_
  refine g_iload_n (pc := 1016) (q := 3) dL_law_1016 rfl rfl ?_
  refine g_iconst (pc := 1017) (v := 1) dL_law_1017 zci_1 ?_
  refine g_iadd (pc := 1018) dL_law_1018 ?_
  refine gl_sld (pc := 1019) dL_law_1019 h1 ?_
  refine gl_M (pc := 1020) (st := [.int r]) [.int (xs (x3 + 1).toNatClampNeg)] dL_law_1020 zm_L_146 zM_X12_lies ⟨by decide, by decide⟩ ⟨by decide, by decide⟩ rfl rfl (w_X12_lies l q2) rfl rfl (Nat.le_of_ble_eq_true rfl) ?_
  refine g_icmp_eq (pc := 1023) (tgt := 1291) dL_law_1023 (by decide) (fun _ => ?_) (fun c => absurd rfl c)
  exact hK _ _ hR'
set_option maxRecDepth 100000 in
theorem lawc_32 (l : Launch) {b L : Nat} {xs : Nat → Int32} {Rel : zS → zS → Prop} (ho : zStR Rel) {x3 : Int32} (h1 : zin (x3 + 1) L) (h2 : zin (x3 + 2) L) (h3 : zin (x3 + 3) L) {Sx Sm : zS} (hR : Rel Sx Sm) (hK : ∀ Sx' Sm', Rel Sx' Sm' → WL l b L xs 1291 x3 [] (zcat 67 Sx' Sm')) : WL l b L xs 1028 x3 [] (zcat 67 Sx Sm) := by
  by_cases cz : xs (x3 + 3).toNatClampNeg = 0
  · obtain ⟨r, Sx', Sm', q1, q2, hR'⟩ := ho (xs (x3 + 1).toNatClampNeg) (xs (x3 + 2).toNatClampNeg) 0 (by decide) Sx Sm hR
    refine g_aload_n (pc := 1028) (q := 1) dL_law_1028 rfl rfl ?_
    refine g_aload_n (pc := 1029) (q := 0) dL_law_1029 rfl rfl ?_
    refine g_iload_n (pc := 1030) (q := 3) dL_law_1030 rfl rfl ?_
    refine g_iconst (pc := 1031) (v := 1) dL_law_1031 zci_1 ?_
    refine g_iadd (pc := 1032) dL_law_1032 ?_
    refine gl_sld (pc := 1033) dL_law_1033 h1 ?_
    refine g_aload_n (pc := 1034) (q := 0) dL_law_1034 rfl rfl ?_
    refine g_iload_n (pc := 1035) (q := 3) dL_law_1035 rfl rfl ?_
    refine g_iconst (pc := 1036) (v := 2) dL_law_1036 zci_2 ?_
    refine g_iadd (pc := 1037) dL_law_1037 ?_
    refine gl_sld (pc := 1038) dL_law_1038 h2 ?_
    refine g_aload_n (pc := 1039) (q := 0) dL_law_1039 rfl rfl ?_
    refine g_iload_n (pc := 1040) (q := 3) dL_law_1040 rfl rfl ?_
    refine g_iconst (pc := 1041) (v := 3) dL_law_1041 zci_3 ?_
    refine g_iadd (pc := 1042) dL_law_1042 ?_
    refine gl_sld (pc := 1043) dL_law_1043 h3 ?_
    refine g_if_eq (pc := 1044) (tgt := 1051) dL_law_1044 (by decide) (fun _ => ?_) (fun c => absurd cz c)
    refine g_iconst (pc := 1051) (v := 0) dL_law_1051 zci_0 ?_
    refine gl_X (pc := 1052) (st := []) [.int (xs (x3 + 1).toNatClampNeg), .int (xs (x3 + 2).toNatClampNeg), .int 0] dL_law_1052 zm_L_147 zM_X11_ring ⟨by decide, by decide⟩ ⟨by decide, by decide⟩ rfl (w_X11_ring l q1) rfl rfl (Nat.le_of_ble_eq_true rfl) ?_
    refine g_aload_n (pc := 1055) (q := 2) dL_law_1055 rfl rfl ?_
    refine g_aload_n (pc := 1056) (q := 0) dL_law_1056 rfl rfl ?_
    refine g_iload_n (pc := 1057) (q := 3) dL_law_1057 rfl rfl ?_
    refine g_iconst (pc := 1058) (v := 1) dL_law_1058 zci_1 ?_
    refine g_iadd (pc := 1059) dL_law_1059 ?_
    refine gl_sld (pc := 1060) dL_law_1060 h1 ?_
    refine g_aload_n (pc := 1061) (q := 0) dL_law_1061 rfl rfl ?_
    refine g_iload_n (pc := 1062) (q := 3) dL_law_1062 rfl rfl ?_
    refine g_iconst (pc := 1063) (v := 2) dL_law_1063 zci_2 ?_
    refine g_iadd (pc := 1064) dL_law_1064 ?_
    refine gl_sld (pc := 1065) dL_law_1065 h2 ?_
    refine g_aload_n (pc := 1066) (q := 0) dL_law_1066 rfl rfl ?_
    refine g_iload_n (pc := 1067) (q := 3) dL_law_1067 rfl rfl ?_
    refine g_iconst (pc := 1068) (v := 3) dL_law_1068 zci_3 ?_
    refine g_iadd (pc := 1069) dL_law_1069 ?_
    refine gl_sld (pc := 1070) dL_law_1070 h3 ?_
    refine g_if_eq (pc := 1071) (tgt := 1078) dL_law_1071 (by decide) (fun _ => ?_) (fun c => absurd cz c)
    refine g_iconst (pc := 1078) (v := 0) dL_law_1078 zci_0 ?_
    refine gl_M (pc := 1079) (st := [.int r]) [.int (xs (x3 + 1).toNatClampNeg), .int (xs (x3 + 2).toNatClampNeg), .int 0] dL_law_1079 zm_L_151 zM_X12_ring ⟨by decide, by decide⟩ ⟨by decide, by decide⟩ rfl rfl (w_X12_ring l q2) rfl rfl (Nat.le_of_ble_eq_true rfl) ?_
    refine g_icmp_eq (pc := 1082) (tgt := 1291) dL_law_1082 (by decide) (fun _ => ?_) (fun c => absurd rfl c)
    exact hK _ _ hR'
  · obtain ⟨r, Sx', Sm', q1, q2, hR'⟩ := ho (xs (x3 + 1).toNatClampNeg) (xs (x3 + 2).toNatClampNeg) 1 (by decide) Sx Sm hR
    refine g_aload_n (pc := 1028) (q := 1) dL_law_1028 rfl rfl ?_
    refine g_aload_n (pc := 1029) (q := 0) dL_law_1029 rfl rfl ?_
    refine g_iload_n (pc := 1030) (q := 3) dL_law_1030 rfl rfl ?_
    refine g_iconst (pc := 1031) (v := 1) dL_law_1031 zci_1 ?_
    refine g_iadd (pc := 1032) dL_law_1032 ?_
    refine gl_sld (pc := 1033) dL_law_1033 h1 ?_
    refine g_aload_n (pc := 1034) (q := 0) dL_law_1034 rfl rfl ?_
    refine g_iload_n (pc := 1035) (q := 3) dL_law_1035 rfl rfl ?_
    refine g_iconst (pc := 1036) (v := 2) dL_law_1036 zci_2 ?_
    refine g_iadd (pc := 1037) dL_law_1037 ?_
    refine gl_sld (pc := 1038) dL_law_1038 h2 ?_
    refine g_aload_n (pc := 1039) (q := 0) dL_law_1039 rfl rfl ?_
    refine g_iload_n (pc := 1040) (q := 3) dL_law_1040 rfl rfl ?_
    refine g_iconst (pc := 1041) (v := 3) dL_law_1041 zci_3 ?_
    refine g_iadd (pc := 1042) dL_law_1042 ?_
    refine gl_sld (pc := 1043) dL_law_1043 h3 ?_
    refine g_if_eq (pc := 1044) (tgt := 1051) dL_law_1044 (by decide) (fun c => absurd c cz) (fun _ => ?_)
    refine g_iconst (pc := 1047) (v := 1) dL_law_1047 zci_1 ?_
    refine g_goto (pc := 1048) (tgt := 1052) dL_law_1048 (by decide) ?_
    refine gl_X (pc := 1052) (st := []) [.int (xs (x3 + 1).toNatClampNeg), .int (xs (x3 + 2).toNatClampNeg), .int 1] dL_law_1052 zm_L_147 zM_X11_ring ⟨by decide, by decide⟩ ⟨by decide, by decide⟩ rfl (w_X11_ring l q1) rfl rfl (Nat.le_of_ble_eq_true rfl) ?_
    refine g_aload_n (pc := 1055) (q := 2) dL_law_1055 rfl rfl ?_
    refine g_aload_n (pc := 1056) (q := 0) dL_law_1056 rfl rfl ?_
    refine g_iload_n (pc := 1057) (q := 3) dL_law_1057 rfl rfl ?_
    refine g_iconst (pc := 1058) (v := 1) dL_law_1058 zci_1 ?_
    refine g_iadd (pc := 1059) dL_law_1059 ?_
    refine gl_sld (pc := 1060) dL_law_1060 h1 ?_
    refine g_aload_n (pc := 1061) (q := 0) dL_law_1061 rfl rfl ?_
    refine g_iload_n (pc := 1062) (q := 3) dL_law_1062 rfl rfl ?_
    refine g_iconst (pc := 1063) (v := 2) dL_law_1063 zci_2 ?_
    refine g_iadd (pc := 1064) dL_law_1064 ?_
    refine gl_sld (pc := 1065) dL_law_1065 h2 ?_
    refine g_aload_n (pc := 1066) (q := 0) dL_law_1066 rfl rfl ?_
    refine g_iload_n (pc := 1067) (q := 3) dL_law_1067 rfl rfl ?_
    refine g_iconst (pc := 1068) (v := 3) dL_law_1068 zci_3 ?_
    refine g_iadd (pc := 1069) dL_law_1069 ?_
    refine gl_sld (pc := 1070) dL_law_1070 h3 ?_
    refine g_if_eq (pc := 1071) (tgt := 1078) dL_law_1071 (by decide) (fun c => absurd c cz) (fun _ => ?_)
    refine g_iconst (pc := 1074) (v := 1) dL_law_1074 zci_1 ?_
    refine g_goto (pc := 1075) (tgt := 1079) dL_law_1075 (by decide) ?_
    refine gl_M (pc := 1079) (st := [.int r]) [.int (xs (x3 + 1).toNatClampNeg), .int (xs (x3 + 2).toNatClampNeg), .int 1] dL_law_1079 zm_L_151 zM_X12_ring ⟨by decide, by decide⟩ ⟨by decide, by decide⟩ rfl rfl (w_X12_ring l q2) rfl rfl (Nat.le_of_ble_eq_true rfl) ?_
    refine g_icmp_eq (pc := 1082) (tgt := 1291) dL_law_1082 (by decide) (fun _ => ?_) (fun c => absurd rfl c)
    exact hK _ _ hR'
set_option maxRecDepth 100000 in
theorem lawc_33 (l : Launch) {b L : Nat} {xs : Nat → Int32} {Rel : zS → zS → Prop} (ho : zSt1 Rel f_X11_untell f_X12_untell) {x3 : Int32} (h1 : zin (x3 + 1) L) {Sx Sm : zS} (hR : Rel Sx Sm) (hK : ∀ Sx' Sm', Rel Sx' Sm' → WL l b L xs 1291 x3 [] (zcat 67 Sx' Sm')) : WL l b L xs 1087 x3 [] (zcat 67 Sx Sm) := by
  obtain ⟨r, Sx', Sm', q1, q2, hR'⟩ := ho (xs (x3 + 1).toNatClampNeg) Sx Sm hR
  refine g_aload_n (pc := 1087) (q := 1) dL_law_1087 rfl rfl ?_
  refine g_aload_n (pc := 1088) (q := 0) dL_law_1088 rfl rfl ?_
  refine g_iload_n (pc := 1089) (q := 3) dL_law_1089 rfl rfl ?_
  refine g_iconst (pc := 1090) (v := 1) dL_law_1090 zci_1 ?_
  refine g_iadd (pc := 1091) dL_law_1091 ?_
  refine gl_sld (pc := 1092) dL_law_1092 h1 ?_
  refine gl_X (pc := 1093) (st := []) [.int (xs (x3 + 1).toNatClampNeg)] dL_law_1093 zm_L_152 zM_X11_untell ⟨by decide, by decide⟩ ⟨by decide, by decide⟩ rfl (w_X11_untell l q1) rfl rfl (Nat.le_of_ble_eq_true rfl) ?_
  refine g_aload_n (pc := 1096) (q := 2) dL_law_1096 rfl rfl ?_
  refine g_aload_n (pc := 1097) (q := 0) dL_law_1097 rfl rfl ?_
  refine g_iload_n (pc := 1098) (q := 3) dL_law_1098 rfl rfl ?_
  refine g_iconst (pc := 1099) (v := 1) dL_law_1099 zci_1 ?_
  refine g_iadd (pc := 1100) dL_law_1100 ?_
  refine gl_sld (pc := 1101) dL_law_1101 h1 ?_
  refine gl_M (pc := 1102) (st := [.int r]) [.int (xs (x3 + 1).toNatClampNeg)] dL_law_1102 zm_L_156 zM_X12_untell ⟨by decide, by decide⟩ ⟨by decide, by decide⟩ rfl rfl (w_X12_untell l q2) rfl rfl (Nat.le_of_ble_eq_true rfl) ?_
  refine g_icmp_eq (pc := 1105) (tgt := 1291) dL_law_1105 (by decide) (fun _ => ?_) (fun c => absurd rfl c)
  exact hK _ _ hR'
set_option maxRecDepth 100000 in
theorem lawc_34 (l : Launch) {b L : Nat} {xs : Nat → Int32} {Rel : zS → zS → Prop} (ho : zSt1 Rel f_X11_later f_X12_later) {x3 : Int32} (h1 : zin (x3 + 1) L) {Sx Sm : zS} (hR : Rel Sx Sm) (hK : ∀ Sx' Sm', Rel Sx' Sm' → WL l b L xs 1291 x3 [] (zcat 67 Sx' Sm')) : WL l b L xs 1110 x3 [] (zcat 67 Sx Sm) := by
  obtain ⟨r, Sx', Sm', q1, q2, hR'⟩ := ho (xs (x3 + 1).toNatClampNeg) Sx Sm hR
  refine g_aload_n (pc := 1110) (q := 1) dL_law_1110 rfl rfl ?_
  refine g_aload_n (pc := 1111) (q := 0) dL_law_1111 rfl rfl ?_
  refine g_iload_n (pc := 1112) (q := 3) dL_law_1112 rfl rfl ?_
  refine g_iconst (pc := 1113) (v := 1) dL_law_1113 zci_1 ?_
  refine g_iadd (pc := 1114) dL_law_1114 ?_
  refine gl_sld (pc := 1115) dL_law_1115 h1 ?_
  refine gl_X (pc := 1116) (st := []) [.int (xs (x3 + 1).toNatClampNeg)] dL_law_1116 zm_L_157 zM_X11_later ⟨by decide, by decide⟩ ⟨by decide, by decide⟩ rfl (w_X11_later l q1) rfl rfl (Nat.le_of_ble_eq_true rfl) ?_
  refine g_aload_n (pc := 1119) (q := 2) dL_law_1119 rfl rfl ?_
  refine g_aload_n (pc := 1120) (q := 0) dL_law_1120 rfl rfl ?_
  refine g_iload_n (pc := 1121) (q := 3) dL_law_1121 rfl rfl ?_
  refine g_iconst (pc := 1122) (v := 1) dL_law_1122 zci_1 ?_
  refine g_iadd (pc := 1123) dL_law_1123 ?_
  refine gl_sld (pc := 1124) dL_law_1124 h1 ?_
  refine gl_M (pc := 1125) (st := [.int r]) [.int (xs (x3 + 1).toNatClampNeg)] dL_law_1125 zm_L_160 zM_X12_later ⟨by decide, by decide⟩ ⟨by decide, by decide⟩ rfl rfl (w_X12_later l q2) rfl rfl (Nat.le_of_ble_eq_true rfl) ?_
  refine g_icmp_eq (pc := 1128) (tgt := 1291) dL_law_1128 (by decide) (fun _ => ?_) (fun c => absurd rfl c)
  exact hK _ _ hR'
set_option maxRecDepth 100000 in
theorem lawc_35 (l : Launch) {b L : Nat} {xs : Nat → Int32} {Rel : zS → zS → Prop} (ho : zSt1 Rel f_X11_orders f_X12_orders) {x3 : Int32} (h1 : zin (x3 + 1) L) {Sx Sm : zS} (hR : Rel Sx Sm) (hK : ∀ Sx' Sm', Rel Sx' Sm' → WL l b L xs 1291 x3 [] (zcat 67 Sx' Sm')) : WL l b L xs 1133 x3 [] (zcat 67 Sx Sm) := by
  obtain ⟨r, Sx', Sm', q1, q2, hR'⟩ := ho (xs (x3 + 1).toNatClampNeg) Sx Sm hR
  refine g_aload_n (pc := 1133) (q := 1) dL_law_1133 rfl rfl ?_
  refine g_aload_n (pc := 1134) (q := 0) dL_law_1134 rfl rfl ?_
  refine g_iload_n (pc := 1135) (q := 3) dL_law_1135 rfl rfl ?_
  refine g_iconst (pc := 1136) (v := 1) dL_law_1136 zci_1 ?_
  refine g_iadd (pc := 1137) dL_law_1137 ?_
  refine gl_sld (pc := 1138) dL_law_1138 h1 ?_
  refine gl_X (pc := 1139) (st := []) [.int (xs (x3 + 1).toNatClampNeg)] dL_law_1139 zm_L_161 zM_X11_orders ⟨by decide, by decide⟩ ⟨by decide, by decide⟩ rfl (w_X11_orders l q1) rfl rfl (Nat.le_of_ble_eq_true rfl) ?_
  refine g_aload_n (pc := 1142) (q := 2) dL_law_1142 rfl rfl ?_
  refine g_aload_n (pc := 1143) (q := 0) dL_law_1143 rfl rfl ?_
  refine g_iload_n (pc := 1144) (q := 3) dL_law_1144 rfl rfl ?_
  refine g_iconst (pc := 1145) (v := 1) dL_law_1145 zci_1 ?_
  refine g_iadd (pc := 1146) dL_law_1146 ?_
  refine gl_sld (pc := 1147) dL_law_1147 h1 ?_
  refine gl_M (pc := 1148) (st := [.int r]) [.int (xs (x3 + 1).toNatClampNeg)] dL_law_1148 zm_L_164 zM_X12_orders ⟨by decide, by decide⟩ ⟨by decide, by decide⟩ rfl rfl (w_X12_orders l q2) rfl rfl (Nat.le_of_ble_eq_true rfl) ?_
  refine g_icmp_eq (pc := 1151) (tgt := 1291) dL_law_1151 (by decide) (fun _ => ?_) (fun c => absurd rfl c)
  exact hK _ _ hR'
set_option maxRecDepth 100000 in
theorem lawc_36 (l : Launch) {b L : Nat} {xs : Nat → Int32} {Rel : zS → zS → Prop} (ho : zSt2 Rel f_X11_sure f_X12_sure) {x3 : Int32} (h1 : zin (x3 + 1) L) (h2 : zin (x3 + 2) L) {Sx Sm : zS} (hR : Rel Sx Sm) (hK : ∀ Sx' Sm', Rel Sx' Sm' → WL l b L xs 1291 x3 [] (zcat 67 Sx' Sm')) : WL l b L xs 1156 x3 [] (zcat 67 Sx Sm) := by
  obtain ⟨r, Sx', Sm', q1, q2, hR'⟩ := ho (xs (x3 + 1).toNatClampNeg) (xs (x3 + 2).toNatClampNeg) Sx Sm hR
  refine g_aload_n (pc := 1156) (q := 1) dL_law_1156 rfl rfl ?_
  refine g_aload_n (pc := 1157) (q := 0) dL_law_1157 rfl rfl ?_
  refine g_iload_n (pc := 1158) (q := 3) dL_law_1158 rfl rfl ?_
  refine g_iconst (pc := 1159) (v := 1) dL_law_1159 zci_1 ?_
  refine g_iadd (pc := 1160) dL_law_1160 ?_
  refine gl_sld (pc := 1161) dL_law_1161 h1 ?_
  refine g_aload_n (pc := 1162) (q := 0) dL_law_1162 rfl rfl ?_
  refine g_iload_n (pc := 1163) (q := 3) dL_law_1163 rfl rfl ?_
  refine g_iconst (pc := 1164) (v := 2) dL_law_1164 zci_2 ?_
  refine g_iadd (pc := 1165) dL_law_1165 ?_
  refine gl_sld (pc := 1166) dL_law_1166 h2 ?_
  refine gl_X (pc := 1167) (st := []) [.int (xs (x3 + 1).toNatClampNeg), .int (xs (x3 + 2).toNatClampNeg)] dL_law_1167 zm_L_165 zM_X11_sure ⟨by decide, by decide⟩ ⟨by decide, by decide⟩ rfl (w_X11_sure l q1) rfl rfl (Nat.le_of_ble_eq_true rfl) ?_
  refine g_aload_n (pc := 1170) (q := 2) dL_law_1170 rfl rfl ?_
  refine g_aload_n (pc := 1171) (q := 0) dL_law_1171 rfl rfl ?_
  refine g_iload_n (pc := 1172) (q := 3) dL_law_1172 rfl rfl ?_
  refine g_iconst (pc := 1173) (v := 1) dL_law_1173 zci_1 ?_
  refine g_iadd (pc := 1174) dL_law_1174 ?_
  refine gl_sld (pc := 1175) dL_law_1175 h1 ?_
  refine g_aload_n (pc := 1176) (q := 0) dL_law_1176 rfl rfl ?_
  refine g_iload_n (pc := 1177) (q := 3) dL_law_1177 rfl rfl ?_
  refine g_iconst (pc := 1178) (v := 2) dL_law_1178 zci_2 ?_
  refine g_iadd (pc := 1179) dL_law_1179 ?_
  refine gl_sld (pc := 1180) dL_law_1180 h2 ?_
  refine gl_M (pc := 1181) (st := [.int r]) [.int (xs (x3 + 1).toNatClampNeg), .int (xs (x3 + 2).toNatClampNeg)] dL_law_1181 zm_L_168 zM_X12_sure ⟨by decide, by decide⟩ ⟨by decide, by decide⟩ rfl rfl (w_X12_sure l q2) rfl rfl (Nat.le_of_ble_eq_true rfl) ?_
  refine g_icmp_eq (pc := 1184) (tgt := 1291) dL_law_1184 (by decide) (fun _ => ?_) (fun c => absurd rfl c)
  exact hK _ _ hR'
set_option maxRecDepth 100000 in
theorem lawc_37 (l : Launch) {b L : Nat} {xs : Nat → Int32} {Rel : zS → zS → Prop} (ho : zSt2 Rel f_X11_ask f_X12_ask) {x3 : Int32} (h1 : zin (x3 + 1) L) (h2 : zin (x3 + 2) L) {Sx Sm : zS} (hR : Rel Sx Sm) (hK : ∀ Sx' Sm', Rel Sx' Sm' → WL l b L xs 1291 x3 [] (zcat 67 Sx' Sm')) : WL l b L xs 1189 x3 [] (zcat 67 Sx Sm) := by
  obtain ⟨r, Sx', Sm', q1, q2, hR'⟩ := ho (xs (x3 + 1).toNatClampNeg) (xs (x3 + 2).toNatClampNeg) Sx Sm hR
  refine g_aload_n (pc := 1189) (q := 1) dL_law_1189 rfl rfl ?_
  refine g_aload_n (pc := 1190) (q := 0) dL_law_1190 rfl rfl ?_
  refine g_iload_n (pc := 1191) (q := 3) dL_law_1191 rfl rfl ?_
  refine g_iconst (pc := 1192) (v := 1) dL_law_1192 zci_1 ?_
  refine g_iadd (pc := 1193) dL_law_1193 ?_
  refine gl_sld (pc := 1194) dL_law_1194 h1 ?_
  refine g_aload_n (pc := 1195) (q := 0) dL_law_1195 rfl rfl ?_
  refine g_iload_n (pc := 1196) (q := 3) dL_law_1196 rfl rfl ?_
  refine g_iconst (pc := 1197) (v := 2) dL_law_1197 zci_2 ?_
  refine g_iadd (pc := 1198) dL_law_1198 ?_
  refine gl_sld (pc := 1199) dL_law_1199 h2 ?_
  refine gl_X (pc := 1200) (st := []) [.int (xs (x3 + 1).toNatClampNeg), .int (xs (x3 + 2).toNatClampNeg)] dL_law_1200 zm_L_169 zM_X11_ask ⟨by decide, by decide⟩ ⟨by decide, by decide⟩ rfl (w_X11_ask l q1) rfl rfl (Nat.le_of_ble_eq_true rfl) ?_
  refine g_aload_n (pc := 1203) (q := 2) dL_law_1203 rfl rfl ?_
  refine g_aload_n (pc := 1204) (q := 0) dL_law_1204 rfl rfl ?_
  refine g_iload_n (pc := 1205) (q := 3) dL_law_1205 rfl rfl ?_
  refine g_iconst (pc := 1206) (v := 1) dL_law_1206 zci_1 ?_
  refine g_iadd (pc := 1207) dL_law_1207 ?_
  refine gl_sld (pc := 1208) dL_law_1208 h1 ?_
  refine g_aload_n (pc := 1209) (q := 0) dL_law_1209 rfl rfl ?_
  refine g_iload_n (pc := 1210) (q := 3) dL_law_1210 rfl rfl ?_
  refine g_iconst (pc := 1211) (v := 2) dL_law_1211 zci_2 ?_
  refine g_iadd (pc := 1212) dL_law_1212 ?_
  refine gl_sld (pc := 1213) dL_law_1213 h2 ?_
  refine gl_M (pc := 1214) (st := [.int r]) [.int (xs (x3 + 1).toNatClampNeg), .int (xs (x3 + 2).toNatClampNeg)] dL_law_1214 zm_L_172 zM_X12_ask ⟨by decide, by decide⟩ ⟨by decide, by decide⟩ rfl rfl (w_X12_ask l q2) rfl rfl (Nat.le_of_ble_eq_true rfl) ?_
  refine g_icmp_eq (pc := 1217) (tgt := 1291) dL_law_1217 (by decide) (fun _ => ?_) (fun c => absurd rfl c)
  exact hK _ _ hR'
set_option maxRecDepth 100000 in
theorem lawc_38 (l : Launch) {b L : Nat} {xs : Nat → Int32} {Rel : zS → zS → Prop} (ho : zSt1 Rel f_X11_image f_X12_image) {x3 : Int32} (h1 : zin (x3 + 1) L) {Sx Sm : zS} (hR : Rel Sx Sm) (hK : ∀ Sx' Sm', Rel Sx' Sm' → WL l b L xs 1291 x3 [] (zcat 67 Sx' Sm')) : WL l b L xs 1222 x3 [] (zcat 67 Sx Sm) := by
  obtain ⟨r, Sx', Sm', q1, q2, hR'⟩ := ho (xs (x3 + 1).toNatClampNeg) Sx Sm hR
  refine g_aload_n (pc := 1222) (q := 1) dL_law_1222 rfl rfl ?_
  refine g_aload_n (pc := 1223) (q := 0) dL_law_1223 rfl rfl ?_
  refine g_iload_n (pc := 1224) (q := 3) dL_law_1224 rfl rfl ?_
  refine g_iconst (pc := 1225) (v := 1) dL_law_1225 zci_1 ?_
  refine g_iadd (pc := 1226) dL_law_1226 ?_
  refine gl_sld (pc := 1227) dL_law_1227 h1 ?_
  refine gl_X (pc := 1228) (st := []) [.int (xs (x3 + 1).toNatClampNeg)] dL_law_1228 zm_L_173 zM_X11_image ⟨by decide, by decide⟩ ⟨by decide, by decide⟩ rfl (w_X11_image l q1) rfl rfl (Nat.le_of_ble_eq_true rfl) ?_
  refine g_aload_n (pc := 1231) (q := 2) dL_law_1231 rfl rfl ?_
  refine g_aload_n (pc := 1232) (q := 0) dL_law_1232 rfl rfl ?_
  refine g_iload_n (pc := 1233) (q := 3) dL_law_1233 rfl rfl ?_
  refine g_iconst (pc := 1234) (v := 1) dL_law_1234 zci_1 ?_
  refine g_iadd (pc := 1235) dL_law_1235 ?_
  refine gl_sld (pc := 1236) dL_law_1236 h1 ?_
  refine gl_M (pc := 1237) (st := [.int r]) [.int (xs (x3 + 1).toNatClampNeg)] dL_law_1237 zm_L_176 zM_X12_image ⟨by decide, by decide⟩ ⟨by decide, by decide⟩ rfl rfl (w_X12_image l q2) rfl rfl (Nat.le_of_ble_eq_true rfl) ?_
  refine g_icmp_eq (pc := 1240) (tgt := 1291) dL_law_1240 (by decide) (fun _ => ?_) (fun c => absurd rfl c)
  exact hK _ _ hR'
set_option maxRecDepth 100000 in
theorem lawc_39 (l : Launch) {b L : Nat} {xs : Nat → Int32} {Rel : zS → zS → Prop} (ho : zSt1 Rel f_X11_back f_X12_back) {x3 : Int32} (h1 : zin (x3 + 1) L) {Sx Sm : zS} (hR : Rel Sx Sm) (hK : ∀ Sx' Sm', Rel Sx' Sm' → WL l b L xs 1291 x3 [] (zcat 67 Sx' Sm')) : WL l b L xs 1245 x3 [] (zcat 67 Sx Sm) := by
  obtain ⟨r, Sx', Sm', q1, q2, hR'⟩ := ho (xs (x3 + 1).toNatClampNeg) Sx Sm hR
  refine g_aload_n (pc := 1245) (q := 1) dL_law_1245 rfl rfl ?_
  refine g_aload_n (pc := 1246) (q := 0) dL_law_1246 rfl rfl ?_
  refine g_iload_n (pc := 1247) (q := 3) dL_law_1247 rfl rfl ?_
  refine g_iconst (pc := 1248) (v := 1) dL_law_1248 zci_1 ?_
  refine g_iadd (pc := 1249) dL_law_1249 ?_
  refine gl_sld (pc := 1250) dL_law_1250 h1 ?_
  refine gl_X (pc := 1251) (st := []) [.int (xs (x3 + 1).toNatClampNeg)] dL_law_1251 zm_L_177 zM_X11_back ⟨by decide, by decide⟩ ⟨by decide, by decide⟩ rfl (w_X11_back l q1) rfl rfl (Nat.le_of_ble_eq_true rfl) ?_
  refine g_aload_n (pc := 1254) (q := 2) dL_law_1254 rfl rfl ?_
  refine g_aload_n (pc := 1255) (q := 0) dL_law_1255 rfl rfl ?_
  refine g_iload_n (pc := 1256) (q := 3) dL_law_1256 rfl rfl ?_
  refine g_iconst (pc := 1257) (v := 1) dL_law_1257 zci_1 ?_
  refine g_iadd (pc := 1258) dL_law_1258 ?_
  refine gl_sld (pc := 1259) dL_law_1259 h1 ?_
  refine gl_M (pc := 1260) (st := [.int r]) [.int (xs (x3 + 1).toNatClampNeg)] dL_law_1260 zm_L_180 zM_X12_back ⟨by decide, by decide⟩ ⟨by decide, by decide⟩ rfl rfl (w_X12_back l q2) rfl rfl (Nat.le_of_ble_eq_true rfl) ?_
  refine g_icmp_eq (pc := 1263) (tgt := 1291) dL_law_1263 (by decide) (fun _ => ?_) (fun c => absurd rfl c)
  exact hK _ _ hR'
set_option maxRecDepth 100000 in
theorem lawc_40 (l : Launch) {b L : Nat} {xs : Nat → Int32} {Rel : zS → zS → Prop} (ho : zSt1 Rel f_X11_about f_X12_about) {x3 : Int32} (h1 : zin (x3 + 1) L) {Sx Sm : zS} (hR : Rel Sx Sm) (hK : ∀ Sx' Sm', Rel Sx' Sm' → WL l b L xs 1291 x3 [] (zcat 67 Sx' Sm')) : WL l b L xs 1268 x3 [] (zcat 67 Sx Sm) := by
  obtain ⟨r, Sx', Sm', q1, q2, hR'⟩ := ho (xs (x3 + 1).toNatClampNeg) Sx Sm hR
  refine g_aload_n (pc := 1268) (q := 1) dL_law_1268 rfl rfl ?_
  refine g_aload_n (pc := 1269) (q := 0) dL_law_1269 rfl rfl ?_
  refine g_iload_n (pc := 1270) (q := 3) dL_law_1270 rfl rfl ?_
  refine g_iconst (pc := 1271) (v := 1) dL_law_1271 zci_1 ?_
  refine g_iadd (pc := 1272) dL_law_1272 ?_
  refine gl_sld (pc := 1273) dL_law_1273 h1 ?_
  refine gl_X (pc := 1274) (st := []) [.int (xs (x3 + 1).toNatClampNeg)] dL_law_1274 zm_L_181 zM_X11_about ⟨by decide, by decide⟩ ⟨by decide, by decide⟩ rfl (w_X11_about l q1) rfl rfl (Nat.le_of_ble_eq_true rfl) ?_
  refine g_aload_n (pc := 1277) (q := 2) dL_law_1277 rfl rfl ?_
  refine g_aload_n (pc := 1278) (q := 0) dL_law_1278 rfl rfl ?_
  refine g_iload_n (pc := 1279) (q := 3) dL_law_1279 rfl rfl ?_
  refine g_iconst (pc := 1280) (v := 1) dL_law_1280 zci_1 ?_
  refine g_iadd (pc := 1281) dL_law_1281 ?_
  refine gl_sld (pc := 1282) dL_law_1282 h1 ?_
  refine gl_M (pc := 1283) (st := [.int r]) [.int (xs (x3 + 1).toNatClampNeg)] dL_law_1283 zm_L_184 zM_X12_about ⟨by decide, by decide⟩ ⟨by decide, by decide⟩ rfl rfl (w_X12_about l q2) rfl rfl (Nat.le_of_ble_eq_true rfl) ?_
  refine g_icmp_eq (pc := 1286) (tgt := 1291) dL_law_1286 (by decide) (fun _ => ?_) (fun c => absurd rfl c)
  exact hK _ _ hR'
