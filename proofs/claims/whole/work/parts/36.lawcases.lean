set_option maxRecDepth 20000 in
theorem law_0 {l : Launch} {E : uE} {K : uK} {a b : Nat} {o : Int64} {σ : uS} {bb L : Nat} {xs : Nat → Int32} (hC : Cx E K RL cL_law (some .boolean) 11 414) (hN : 7 = K.2.2.2.2.2) (hL : Lx E K bb L xs) (w : Int32) (s1 : Int32) (e1 : s1 = xs (w + 1).toNatClampNeg) (n1 : vp_in (w + 1) L) (s2 : Int32) (e2 : s2 = xs (w + 2).toNatClampNeg) (n2 : vp_in (w + 2) L) (s3 : Int32) (e3 : s3 = xs (w + 3).toNatClampNeg) (n3 : vp_in (w + 3) L) (s4 : Int32) (e4 : s4 = xs (w + 4).toNatClampNeg) (n4 : vp_in (w + 4) L) (s5 : Int32) (e5 : s5 = xs (w + 5).toNatClampNeg) (n5 : vp_in (w + 5) L) (r : Int32) (σ1 σ2 : uS) (h1 : F_X11_feed s1 s2 s3 s4 s5 σ = some (r, σ1)) (h2 : F_X12_feed s1 s2 s3 s4 s5 σ1 = some (r, σ2)) (hab : Rm K a b) (kk : Gd l E K a b o σ2 2650 [some (.ref bb), some (.ref (E.2.1 0)), some (.ref (E.2.1 55)), some (.ref (E.2.1 92)), some (.int w), none, none] []) : Gd l E K a b o σ 248 [some (.ref bb), some (.ref (E.2.1 0)), some (.ref (E.2.1 55)), some (.ref (E.2.1 92)), some (.int w), none, none] [] := by
  refine g_aload_n (pc := 248) hC dL_law_248 rfl ?_
  refine g_aload_n (pc := 249) hC dL_law_249 rfl ?_
  refine g_iload (pc := 250) hC dL_law_250 rfl ?_
  refine g_iconst (pc := 252) hC ki_1 dL_law_252 ?_
  refine g_iadd (pc := 253) hC dL_law_253 ?_
  refine g_sld (pc := 254) hC hL n1 e1 dL_law_254 ?_
  refine g_aload_n (pc := 255) hC dL_law_255 rfl ?_
  refine g_iload (pc := 256) hC dL_law_256 rfl ?_
  refine g_iconst (pc := 258) hC ki_2 dL_law_258 ?_
  refine g_iadd (pc := 259) hC dL_law_259 ?_
  refine g_sld (pc := 260) hC hL n2 e2 dL_law_260 ?_
  refine g_aload_n (pc := 261) hC dL_law_261 rfl ?_
  refine g_iload (pc := 262) hC dL_law_262 rfl ?_
  refine g_iconst (pc := 264) hC ki_3 dL_law_264 ?_
  refine g_iadd (pc := 265) hC dL_law_265 ?_
  refine g_sld (pc := 266) hC hL n3 e3 dL_law_266 ?_
  refine g_aload_n (pc := 267) hC dL_law_267 rfl ?_
  refine g_iload (pc := 268) hC dL_law_268 rfl ?_
  refine g_iconst (pc := 270) hC ki_4 dL_law_270 ?_
  refine g_iadd (pc := 271) hC dL_law_271 ?_
  refine g_sld (pc := 272) hC hL n4 e4 dL_law_272 ?_
  refine g_aload_n (pc := 273) hC dL_law_273 rfl ?_
  refine g_iload (pc := 274) hC dL_law_274 rfl ?_
  refine g_iconst (pc := 276) hC ki_5 dL_law_276 ?_
  refine g_iadd (pc := 277) hC dL_law_277 ?_
  refine g_sld (pc := 278) hC hL n5 e5 dL_law_278 ?_
  refine g_callVi (pc := 279) (As := [.int s1, .int s2, .int s3, .int s4, .int s5]) (rest := []) hC (c_X11_feed l E s1 s2 s3 s4 s5 σ r σ1 h1) mi_X11_feed mv_X11_feed ob_0 rfl rfl lk_L_113 rfl rfl (Nat.le_of_ble_eq_true rfl) ⟨by decide, by decide⟩ hab dL_law_279 ?_
  refine g_aload_n (pc := 282) hC dL_law_282 rfl ?_
  refine g_aload_n (pc := 283) hC dL_law_283 rfl ?_
  refine g_iload (pc := 284) hC dL_law_284 rfl ?_
  refine g_iconst (pc := 286) hC ki_1 dL_law_286 ?_
  refine g_iadd (pc := 287) hC dL_law_287 ?_
  refine g_sld (pc := 288) hC hL n1 e1 dL_law_288 ?_
  refine g_aload_n (pc := 289) hC dL_law_289 rfl ?_
  refine g_iload (pc := 290) hC dL_law_290 rfl ?_
  refine g_iconst (pc := 292) hC ki_2 dL_law_292 ?_
  refine g_iadd (pc := 293) hC dL_law_293 ?_
  refine g_sld (pc := 294) hC hL n2 e2 dL_law_294 ?_
  refine g_aload_n (pc := 295) hC dL_law_295 rfl ?_
  refine g_iload (pc := 296) hC dL_law_296 rfl ?_
  refine g_iconst (pc := 298) hC ki_3 dL_law_298 ?_
  refine g_iadd (pc := 299) hC dL_law_299 ?_
  refine g_sld (pc := 300) hC hL n3 e3 dL_law_300 ?_
  refine g_aload_n (pc := 301) hC dL_law_301 rfl ?_
  refine g_iload (pc := 302) hC dL_law_302 rfl ?_
  refine g_iconst (pc := 304) hC ki_4 dL_law_304 ?_
  refine g_iadd (pc := 305) hC dL_law_305 ?_
  refine g_sld (pc := 306) hC hL n4 e4 dL_law_306 ?_
  refine g_aload_n (pc := 307) hC dL_law_307 rfl ?_
  refine g_iload (pc := 308) hC dL_law_308 rfl ?_
  refine g_iconst (pc := 310) hC ki_5 dL_law_310 ?_
  refine g_iadd (pc := 311) hC dL_law_311 ?_
  refine g_sld (pc := 312) hC hL n5 e5 dL_law_312 ?_
  refine g_callVi (pc := 313) (As := [.int s1, .int s2, .int s3, .int s4, .int s5]) (rest := [.int r]) hC (c_X12_feed l E s1 s2 s3 s4 s5 σ1 r σ2 h2) mi_X12_feed mv_X12_feed ob_55 rfl rfl lk_L_117 rfl rfl (Nat.le_of_ble_eq_true rfl) ⟨by decide, by decide⟩ hab dL_law_313 ?_
  refine g_icmp_eq (tgt := 2650) (pc := 316) hC dL_law_316 (by decide) (fun _ => ?_) (fun q => absurd rfl q)
  exact kk
set_option maxRecDepth 20000 in
theorem law_1 {l : Launch} {E : uE} {K : uK} {a b : Nat} {o : Int64} {σ : uS} {bb L : Nat} {xs : Nat → Int32} (hC : Cx E K RL cL_law (some .boolean) 11 414) (hN : 7 = K.2.2.2.2.2) (hL : Lx E K bb L xs) (w : Int32) (s1 : Int32) (e1 : s1 = xs (w + 1).toNatClampNeg) (n1 : vp_in (w + 1) L) (r : Int32) (σ1 σ2 : uS) (h1 : F_X11_samples s1 σ = some (r, σ1)) (h2 : F_X12_samples s1 σ1 = some (r, σ2)) (hab : Rm K a b) (kk : Gd l E K a b o σ2 2650 [some (.ref bb), some (.ref (E.2.1 0)), some (.ref (E.2.1 55)), some (.ref (E.2.1 92)), some (.int w), none, none] []) : Gd l E K a b o σ 321 [some (.ref bb), some (.ref (E.2.1 0)), some (.ref (E.2.1 55)), some (.ref (E.2.1 92)), some (.int w), none, none] [] := by
  refine g_aload_n (pc := 321) hC dL_law_321 rfl ?_
  refine g_aload_n (pc := 322) hC dL_law_322 rfl ?_
  refine g_iload (pc := 323) hC dL_law_323 rfl ?_
  refine g_iconst (pc := 325) hC ki_1 dL_law_325 ?_
  refine g_iadd (pc := 326) hC dL_law_326 ?_
  refine g_sld (pc := 327) hC hL n1 e1 dL_law_327 ?_
  refine g_callVi (pc := 328) (As := [.int s1]) (rest := []) hC (c_X11_samples l E s1 σ r σ1 h1) mi_X11_samples mv_X11_samples ob_0 rfl rfl lk_L_118 rfl rfl (Nat.le_of_ble_eq_true rfl) ⟨by decide, by decide⟩ hab dL_law_328 ?_
  refine g_aload_n (pc := 331) hC dL_law_331 rfl ?_
  refine g_aload_n (pc := 332) hC dL_law_332 rfl ?_
  refine g_iload (pc := 333) hC dL_law_333 rfl ?_
  refine g_iconst (pc := 335) hC ki_1 dL_law_335 ?_
  refine g_iadd (pc := 336) hC dL_law_336 ?_
  refine g_sld (pc := 337) hC hL n1 e1 dL_law_337 ?_
  refine g_callVi (pc := 338) (As := [.int s1]) (rest := [.int r]) hC (c_X12_samples l E s1 σ1 r σ2 h2) mi_X12_samples mv_X12_samples ob_55 rfl rfl lk_L_121 rfl rfl (Nat.le_of_ble_eq_true rfl) ⟨by decide, by decide⟩ hab dL_law_338 ?_
  refine g_icmp_eq (tgt := 2650) (pc := 341) hC dL_law_341 (by decide) (fun _ => ?_) (fun q => absurd rfl q)
  exact kk
set_option maxRecDepth 20000 in
theorem law_2 {l : Launch} {E : uE} {K : uK} {a b : Nat} {o : Int64} {σ : uS} {bb L : Nat} {xs : Nat → Int32} (hC : Cx E K RL cL_law (some .boolean) 11 414) (hN : 7 = K.2.2.2.2.2) (hL : Lx E K bb L xs) (w : Int32) (s1 : Int32) (e1 : s1 = xs (w + 1).toNatClampNeg) (n1 : vp_in (w + 1) L) (s2 : Int32) (e2 : s2 = xs (w + 2).toNatClampNeg) (n2 : vp_in (w + 2) L) (s3 : Int32) (e3 : s3 = xs (w + 3).toNatClampNeg) (n3 : vp_in (w + 3) L) (r : Int32) (σ1 σ2 : uS) (h1 : F_X11_cycles s1 s2 s3 σ = some (r, σ1)) (h2 : F_X12_cycles s1 s2 s3 σ1 = some (r, σ2)) (hab : Rm K a b) (kk : Gd l E K a b o σ2 2650 [some (.ref bb), some (.ref (E.2.1 0)), some (.ref (E.2.1 55)), some (.ref (E.2.1 92)), some (.int w), none, none] []) : Gd l E K a b o σ 346 [some (.ref bb), some (.ref (E.2.1 0)), some (.ref (E.2.1 55)), some (.ref (E.2.1 92)), some (.int w), none, none] [] := by
  refine g_aload_n (pc := 346) hC dL_law_346 rfl ?_
  refine g_aload_n (pc := 347) hC dL_law_347 rfl ?_
  refine g_iload (pc := 348) hC dL_law_348 rfl ?_
  refine g_iconst (pc := 350) hC ki_1 dL_law_350 ?_
  refine g_iadd (pc := 351) hC dL_law_351 ?_
  refine g_sld (pc := 352) hC hL n1 e1 dL_law_352 ?_
  refine g_aload_n (pc := 353) hC dL_law_353 rfl ?_
  refine g_iload (pc := 354) hC dL_law_354 rfl ?_
  refine g_iconst (pc := 356) hC ki_2 dL_law_356 ?_
  refine g_iadd (pc := 357) hC dL_law_357 ?_
  refine g_sld (pc := 358) hC hL n2 e2 dL_law_358 ?_
  refine g_aload_n (pc := 359) hC dL_law_359 rfl ?_
  refine g_iload (pc := 360) hC dL_law_360 rfl ?_
  refine g_iconst (pc := 362) hC ki_3 dL_law_362 ?_
  refine g_iadd (pc := 363) hC dL_law_363 ?_
  refine g_sld (pc := 364) hC hL n3 e3 dL_law_364 ?_
  refine g_callVi (pc := 365) (As := [.int s1, .int s2, .int s3]) (rest := []) hC (c_X11_cycles l E s1 s2 s3 σ r σ1 h1) mi_X11_cycles mv_X11_cycles ob_0 rfl rfl lk_L_122 rfl rfl (Nat.le_of_ble_eq_true rfl) ⟨by decide, by decide⟩ hab dL_law_365 ?_
  refine g_aload_n (pc := 368) hC dL_law_368 rfl ?_
  refine g_aload_n (pc := 369) hC dL_law_369 rfl ?_
  refine g_iload (pc := 370) hC dL_law_370 rfl ?_
  refine g_iconst (pc := 372) hC ki_1 dL_law_372 ?_
  refine g_iadd (pc := 373) hC dL_law_373 ?_
  refine g_sld (pc := 374) hC hL n1 e1 dL_law_374 ?_
  refine g_aload_n (pc := 375) hC dL_law_375 rfl ?_
  refine g_iload (pc := 376) hC dL_law_376 rfl ?_
  refine g_iconst (pc := 378) hC ki_2 dL_law_378 ?_
  refine g_iadd (pc := 379) hC dL_law_379 ?_
  refine g_sld (pc := 380) hC hL n2 e2 dL_law_380 ?_
  refine g_aload_n (pc := 381) hC dL_law_381 rfl ?_
  refine g_iload (pc := 382) hC dL_law_382 rfl ?_
  refine g_iconst (pc := 384) hC ki_3 dL_law_384 ?_
  refine g_iadd (pc := 385) hC dL_law_385 ?_
  refine g_sld (pc := 386) hC hL n3 e3 dL_law_386 ?_
  refine g_callVi (pc := 387) (As := [.int s1, .int s2, .int s3]) (rest := [.int r]) hC (c_X12_cycles l E s1 s2 s3 σ1 r σ2 h2) mi_X12_cycles mv_X12_cycles ob_55 rfl rfl lk_L_125 rfl rfl (Nat.le_of_ble_eq_true rfl) ⟨by decide, by decide⟩ hab dL_law_387 ?_
  refine g_icmp_eq (tgt := 2650) (pc := 390) hC dL_law_390 (by decide) (fun _ => ?_) (fun q => absurd rfl q)
  exact kk
set_option maxRecDepth 20000 in
theorem law_3 {l : Launch} {E : uE} {K : uK} {a b : Nat} {o : Int64} {σ : uS} {bb L : Nat} {xs : Nat → Int32} (hC : Cx E K RL cL_law (some .boolean) 11 414) (hN : 7 = K.2.2.2.2.2) (hL : Lx E K bb L xs) (w : Int32) (s1 : Int32) (e1 : s1 = xs (w + 1).toNatClampNeg) (n1 : vp_in (w + 1) L) (s2 : Int32) (e2 : s2 = xs (w + 2).toNatClampNeg) (n2 : vp_in (w + 2) L) (s3 : Int32) (e3 : s3 = xs (w + 3).toNatClampNeg) (n3 : vp_in (w + 3) L) (r : Int32) (σ1 σ2 : uS) (h1 : F_X11_noise s1 s2 s3 σ = some (r, σ1)) (h2 : F_X12_noise s1 s2 s3 σ1 = some (r, σ2)) (hab : Rm K a b) (kk : Gd l E K a b o σ2 2650 [some (.ref bb), some (.ref (E.2.1 0)), some (.ref (E.2.1 55)), some (.ref (E.2.1 92)), some (.int w), none, none] []) : Gd l E K a b o σ 395 [some (.ref bb), some (.ref (E.2.1 0)), some (.ref (E.2.1 55)), some (.ref (E.2.1 92)), some (.int w), none, none] [] := by
  refine g_aload_n (pc := 395) hC dL_law_395 rfl ?_
  refine g_aload_n (pc := 396) hC dL_law_396 rfl ?_
  refine g_iload (pc := 397) hC dL_law_397 rfl ?_
  refine g_iconst (pc := 399) hC ki_1 dL_law_399 ?_
  refine g_iadd (pc := 400) hC dL_law_400 ?_
  refine g_sld (pc := 401) hC hL n1 e1 dL_law_401 ?_
  refine g_aload_n (pc := 402) hC dL_law_402 rfl ?_
  refine g_iload (pc := 403) hC dL_law_403 rfl ?_
  refine g_iconst (pc := 405) hC ki_2 dL_law_405 ?_
  refine g_iadd (pc := 406) hC dL_law_406 ?_
  refine g_sld (pc := 407) hC hL n2 e2 dL_law_407 ?_
  refine g_aload_n (pc := 408) hC dL_law_408 rfl ?_
  refine g_iload (pc := 409) hC dL_law_409 rfl ?_
  refine g_iconst (pc := 411) hC ki_3 dL_law_411 ?_
  refine g_iadd (pc := 412) hC dL_law_412 ?_
  refine g_sld (pc := 413) hC hL n3 e3 dL_law_413 ?_
  refine g_callVi (pc := 414) (As := [.int s1, .int s2, .int s3]) (rest := []) hC (c_X11_noise l E s1 s2 s3 σ r σ1 h1) mi_X11_noise mv_X11_noise ob_0 rfl rfl lk_L_126 rfl rfl (Nat.le_of_ble_eq_true rfl) ⟨by decide, by decide⟩ hab dL_law_414 ?_
  refine g_aload_n (pc := 417) hC dL_law_417 rfl ?_
  refine g_aload_n (pc := 418) hC dL_law_418 rfl ?_
  refine g_iload (pc := 419) hC dL_law_419 rfl ?_
  refine g_iconst (pc := 421) hC ki_1 dL_law_421 ?_
  refine g_iadd (pc := 422) hC dL_law_422 ?_
  refine g_sld (pc := 423) hC hL n1 e1 dL_law_423 ?_
  refine g_aload_n (pc := 424) hC dL_law_424 rfl ?_
  refine g_iload (pc := 425) hC dL_law_425 rfl ?_
  refine g_iconst (pc := 427) hC ki_2 dL_law_427 ?_
  refine g_iadd (pc := 428) hC dL_law_428 ?_
  refine g_sld (pc := 429) hC hL n2 e2 dL_law_429 ?_
  refine g_aload_n (pc := 430) hC dL_law_430 rfl ?_
  refine g_iload (pc := 431) hC dL_law_431 rfl ?_
  refine g_iconst (pc := 433) hC ki_3 dL_law_433 ?_
  refine g_iadd (pc := 434) hC dL_law_434 ?_
  refine g_sld (pc := 435) hC hL n3 e3 dL_law_435 ?_
  refine g_callVi (pc := 436) (As := [.int s1, .int s2, .int s3]) (rest := [.int r]) hC (c_X12_noise l E s1 s2 s3 σ1 r σ2 h2) mi_X12_noise mv_X12_noise ob_55 rfl rfl lk_L_129 rfl rfl (Nat.le_of_ble_eq_true rfl) ⟨by decide, by decide⟩ hab dL_law_436 ?_
  refine g_icmp_eq (tgt := 2650) (pc := 439) hC dL_law_439 (by decide) (fun _ => ?_) (fun q => absurd rfl q)
  exact kk
set_option maxRecDepth 20000 in
theorem law_4 {l : Launch} {E : uE} {K : uK} {a b : Nat} {o : Int64} {σ : uS} {bb L : Nat} {xs : Nat → Int32} (hC : Cx E K RL cL_law (some .boolean) 11 414) (hN : 7 = K.2.2.2.2.2) (hL : Lx E K bb L xs) (w : Int32) (s1 : Int32) (e1 : s1 = xs (w + 1).toNatClampNeg) (n1 : vp_in (w + 1) L) (s2 : Int32) (e2 : s2 = xs (w + 2).toNatClampNeg) (n2 : vp_in (w + 2) L) (r : Int32) (σ1 σ2 : uS) (h1 : F_X11_poke s1 s2 σ = some (r, σ1)) (h2 : F_X12_poke s1 s2 σ1 = some (r, σ2)) (hab : Rm K a b) (kk : Gd l E K a b o σ2 2650 [some (.ref bb), some (.ref (E.2.1 0)), some (.ref (E.2.1 55)), some (.ref (E.2.1 92)), some (.int w), none, none] []) : Gd l E K a b o σ 444 [some (.ref bb), some (.ref (E.2.1 0)), some (.ref (E.2.1 55)), some (.ref (E.2.1 92)), some (.int w), none, none] [] := by
  refine g_aload_n (pc := 444) hC dL_law_444 rfl ?_
  refine g_aload_n (pc := 445) hC dL_law_445 rfl ?_
  refine g_iload (pc := 446) hC dL_law_446 rfl ?_
  refine g_iconst (pc := 448) hC ki_1 dL_law_448 ?_
  refine g_iadd (pc := 449) hC dL_law_449 ?_
  refine g_sld (pc := 450) hC hL n1 e1 dL_law_450 ?_
  refine g_aload_n (pc := 451) hC dL_law_451 rfl ?_
  refine g_iload (pc := 452) hC dL_law_452 rfl ?_
  refine g_iconst (pc := 454) hC ki_2 dL_law_454 ?_
  refine g_iadd (pc := 455) hC dL_law_455 ?_
  refine g_sld (pc := 456) hC hL n2 e2 dL_law_456 ?_
  refine g_callVi (pc := 457) (As := [.int s1, .int s2]) (rest := []) hC (c_X11_poke l E s1 s2 σ r σ1 h1) mi_X11_poke mv_X11_poke ob_0 rfl rfl lk_L_130 rfl rfl (Nat.le_of_ble_eq_true rfl) ⟨by decide, by decide⟩ hab dL_law_457 ?_
  refine g_aload_n (pc := 460) hC dL_law_460 rfl ?_
  refine g_aload_n (pc := 461) hC dL_law_461 rfl ?_
  refine g_iload (pc := 462) hC dL_law_462 rfl ?_
  refine g_iconst (pc := 464) hC ki_1 dL_law_464 ?_
  refine g_iadd (pc := 465) hC dL_law_465 ?_
  refine g_sld (pc := 466) hC hL n1 e1 dL_law_466 ?_
  refine g_aload_n (pc := 467) hC dL_law_467 rfl ?_
  refine g_iload (pc := 468) hC dL_law_468 rfl ?_
  refine g_iconst (pc := 470) hC ki_2 dL_law_470 ?_
  refine g_iadd (pc := 471) hC dL_law_471 ?_
  refine g_sld (pc := 472) hC hL n2 e2 dL_law_472 ?_
  refine g_callVi (pc := 473) (As := [.int s1, .int s2]) (rest := [.int r]) hC (c_X12_poke l E s1 s2 σ1 r σ2 h2) mi_X12_poke mv_X12_poke ob_55 rfl rfl lk_L_133 rfl rfl (Nat.le_of_ble_eq_true rfl) ⟨by decide, by decide⟩ hab dL_law_473 ?_
  refine g_icmp_eq (tgt := 2650) (pc := 476) hC dL_law_476 (by decide) (fun _ => ?_) (fun q => absurd rfl q)
  exact kk
set_option maxRecDepth 20000 in
theorem law_5 {l : Launch} {E : uE} {K : uK} {a b : Nat} {o : Int64} {σ : uS} {bb L : Nat} {xs : Nat → Int32} (hC : Cx E K RL cL_law (some .boolean) 11 414) (hN : 7 = K.2.2.2.2.2) (hL : Lx E K bb L xs) (w : Int32) (s1 : Int32) (e1 : s1 = xs (w + 1).toNatClampNeg) (n1 : vp_in (w + 1) L) (r : Int32) (σ1 σ2 : uS) (h1 : F_X11_cut s1 σ = some (r, σ1)) (h2 : F_X12_cut s1 σ1 = some (r, σ2)) (hab : Rm K a b) (kk : Gd l E K a b o σ2 2650 [some (.ref bb), some (.ref (E.2.1 0)), some (.ref (E.2.1 55)), some (.ref (E.2.1 92)), some (.int w), none, none] []) : Gd l E K a b o σ 481 [some (.ref bb), some (.ref (E.2.1 0)), some (.ref (E.2.1 55)), some (.ref (E.2.1 92)), some (.int w), none, none] [] := by
  refine g_aload_n (pc := 481) hC dL_law_481 rfl ?_
  refine g_aload_n (pc := 482) hC dL_law_482 rfl ?_
  refine g_iload (pc := 483) hC dL_law_483 rfl ?_
  refine g_iconst (pc := 485) hC ki_1 dL_law_485 ?_
  refine g_iadd (pc := 486) hC dL_law_486 ?_
  refine g_sld (pc := 487) hC hL n1 e1 dL_law_487 ?_
  refine g_callVi (pc := 488) (As := [.int s1]) (rest := []) hC (c_X11_cut l E s1 σ r σ1 h1) mi_X11_cut mv_X11_cut ob_0 rfl rfl lk_L_134 rfl rfl (Nat.le_of_ble_eq_true rfl) ⟨by decide, by decide⟩ hab dL_law_488 ?_
  refine g_aload_n (pc := 491) hC dL_law_491 rfl ?_
  refine g_aload_n (pc := 492) hC dL_law_492 rfl ?_
  refine g_iload (pc := 493) hC dL_law_493 rfl ?_
  refine g_iconst (pc := 495) hC ki_1 dL_law_495 ?_
  refine g_iadd (pc := 496) hC dL_law_496 ?_
  refine g_sld (pc := 497) hC hL n1 e1 dL_law_497 ?_
  refine g_callVi (pc := 498) (As := [.int s1]) (rest := [.int r]) hC (c_X12_cut l E s1 σ1 r σ2 h2) mi_X12_cut mv_X12_cut ob_55 rfl rfl lk_L_137 rfl rfl (Nat.le_of_ble_eq_true rfl) ⟨by decide, by decide⟩ hab dL_law_498 ?_
  refine g_icmp_eq (tgt := 2650) (pc := 501) hC dL_law_501 (by decide) (fun _ => ?_) (fun q => absurd rfl q)
  exact kk
set_option maxRecDepth 20000 in
theorem law_6_r {l : Launch} {E : uE} {K : uK} {a b : Nat} {o : Int64} {σ : uS} {bb L : Nat} {xs : Nat → Int32} (hC : Cx E K RL cL_law (some .boolean) 11 414) (hN : 7 = K.2.2.2.2.2) (hL : Lx E K bb L xs) (w : Int32) (s1 : Int32) (e1 : s1 = xs (w + 1).toNatClampNeg) (n1 : vp_in (w + 1) L) (r : Int32) (σ1 σ2 : uS) (h1 : F_X11_sample s1 σ = some (.inl r, σ1)) (h2 : F_X12_sample s1 σ1 = some (r, σ2)) (h3 : σ2 55 9 = 0) (hab : Rm K a b) (kk : Gd l E K a b r.toInt64 σ2 2650 [some (.ref bb), some (.ref (E.2.1 0)), some (.ref (E.2.1 55)), some (.ref (E.2.1 92)), some (.int w), none, none] []) : Gd l E K a b o σ 506 [some (.ref bb), some (.ref (E.2.1 0)), some (.ref (E.2.1 55)), some (.ref (E.2.1 92)), some (.int w), none, none] [] := by
  refine g_aload_n (pc := 506) hC dL_law_506 rfl ?_
  refine g_aload_n (pc := 507) hC dL_law_507 rfl ?_
  refine g_iload (pc := 508) hC dL_law_508 rfl ?_
  refine g_iconst (pc := 510) hC ki_1 dL_law_510 ?_
  refine g_iadd (pc := 511) hC dL_law_511 ?_
  refine g_sld (pc := 512) hC hL n1 e1 dL_law_512 ?_
  refine g_aload_n (pc := 513) hC dL_law_513 rfl ?_
  refine g_callH (pc := 514) (As := [.ref (E.2.1 0), .int s1, .ref (E.2.1 92)]) (rest := []) hC (hr_sample l E s1 σ o r σ1 h1) mh_sample lk_L_138 rfl rfl (Nat.le_of_ble_eq_true rfl) ⟨by decide, by decide⟩ hab dL_law_514 ?_
  refine g_istore (lv2 := [some (.ref bb), some (.ref (E.2.1 0)), some (.ref (E.2.1 55)), some (.ref (E.2.1 92)), some (.int w), some (.int 0), none]) (pc := 517) hC dL_law_517 rfl (Or.inr rfl) (by rw [← hN]; decide) ?_
  refine g_aload_n (pc := 519) hC dL_law_519 rfl ?_
  refine g_aload_n (pc := 520) hC dL_law_520 rfl ?_
  refine g_iload (pc := 521) hC dL_law_521 rfl ?_
  refine g_iconst (pc := 523) hC ki_1 dL_law_523 ?_
  refine g_iadd (pc := 524) hC dL_law_524 ?_
  refine g_sld (pc := 525) hC hL n1 e1 dL_law_525 ?_
  refine g_callVi (pc := 526) (As := [.int s1]) (rest := []) hC (c_X12_sample l E s1 σ1 r σ2 h2) mi_X12_sample mv_X12_sample ob_55 rfl rfl lk_L_143 rfl rfl (Nat.le_of_ble_eq_true rfl) ⟨by decide, by decide⟩ hab dL_law_526 ?_
  refine g_istore (lv2 := [some (.ref bb), some (.ref (E.2.1 0)), some (.ref (E.2.1 55)), some (.ref (E.2.1 92)), some (.int w), some (.int 0), some (.int r)]) (pc := 529) hC dL_law_529 rfl (Or.inr rfl) (by rw [← hN]; decide) ?_
  refine g_aload_n (pc := 531) hC dL_law_531 rfl ?_
  refine g_callVi (pc := 532) (As := []) (rest := []) hC (c_X12_thrown l E σ2 _ rfl) mi_X12_thrown mv_X12_thrown ob_55 rfl rfl lk_L_144 rfl rfl (Nat.le_of_ble_eq_true rfl) ⟨by decide, by decide⟩ hab dL_law_532 ?_
  refine g_top h3.symm ?_
  refine g_iload (pc := 535) hC dL_law_535 rfl ?_
  refine g_icmp_eq (tgt := 542) (pc := 537) hC dL_law_537 (by decide) (fun _ => ?_) (fun q => absurd rfl q)
  refine g_iload (pc := 542) hC dL_law_542 rfl ?_
  refine g_if_ne (tgt := 559) (pc := 544) hC dL_law_544 (by decide) (fun q => absurd rfl q) (fun _ => ?_)
  refine g_aload_n (pc := 547) hC dL_law_547 rfl ?_
  refine g_iconst (pc := 548) hC ki_0 dL_law_548 ?_
  refine g_lald (pc := 549) hC dL_law_549 ?_
  refine g_iload (pc := 550) hC dL_law_550 rfl ?_
  refine g_i2l (pc := 552) hC dL_law_552 ?_
  refine g_lcmp (pc := 553) hC dL_law_553 ?_
  refine g_if_eq (tgt := 559) (pc := 554) hC dL_law_554 (by decide) (fun _ => ?_) (fun q => absurd (lg_cmp_self _) q)
  refine g_goto (tgt := 2650) (pc := 559) hC dL_law_559 (by decide) ?_
  refine g_mask [true, true, true, true, true, false, false] rfl ?_
  exact kk
set_option maxRecDepth 20000 in
theorem law_6_x1 {l : Launch} {E : uE} {K : uK} {a b : Nat} {o : Int64} {σ : uS} {bb L : Nat} {xs : Nat → Int32} (hC : Cx E K RL cL_law (some .boolean) 11 414) (hN : 7 = K.2.2.2.2.2) (hL : Lx E K bb L xs) (w : Int32) (s1 : Int32) (e1 : s1 = xs (w + 1).toNatClampNeg) (n1 : vp_in (w + 1) L) (hl9 : l.stackTraces = false) (r : Int32) (σ1 σ2 : uS) (h1 : F_X11_sample s1 σ = some (.inr 1, σ1)) (h2 : F_X12_sample s1 σ1 = some (r, σ2)) (h3 : σ2 55 9 = 1) (hab : Rm K (a + 1) (b + 6)) (kk : Gd l E K (a + 1) (b + 6) o σ2 2650 [some (.ref bb), some (.ref (E.2.1 0)), some (.ref (E.2.1 55)), some (.ref (E.2.1 92)), some (.int w), none, none] []) : Gd l E K a b o σ 506 [some (.ref bb), some (.ref (E.2.1 0)), some (.ref (E.2.1 55)), some (.ref (E.2.1 92)), some (.int w), none, none] [] := by
  refine g_aload_n (pc := 506) hC dL_law_506 rfl ?_
  refine g_aload_n (pc := 507) hC dL_law_507 rfl ?_
  refine g_iload (pc := 508) hC dL_law_508 rfl ?_
  refine g_iconst (pc := 510) hC ki_1 dL_law_510 ?_
  refine g_iadd (pc := 511) hC dL_law_511 ?_
  refine g_sld (pc := 512) hC hL n1 e1 dL_law_512 ?_
  refine g_aload_n (pc := 513) hC dL_law_513 rfl ?_
  refine g_callH (pc := 514) (As := [.ref (E.2.1 0), .int s1, .ref (E.2.1 92)]) (rest := []) hC (hx_sample_1 l hl9 E s1 σ o σ1 h1) mh_sample lk_L_138 rfl rfl (Nat.le_of_ble_eq_true rfl) ⟨by decide, by decide⟩ hab dL_law_514 ?_
  refine g_istore (lv2 := [some (.ref bb), some (.ref (E.2.1 0)), some (.ref (E.2.1 55)), some (.ref (E.2.1 92)), some (.int w), some (.int 1), none]) (pc := 517) hC dL_law_517 rfl (Or.inr rfl) (by rw [← hN]; decide) ?_
  refine g_aload_n (pc := 519) hC dL_law_519 rfl ?_
  refine g_aload_n (pc := 520) hC dL_law_520 rfl ?_
  refine g_iload (pc := 521) hC dL_law_521 rfl ?_
  refine g_iconst (pc := 523) hC ki_1 dL_law_523 ?_
  refine g_iadd (pc := 524) hC dL_law_524 ?_
  refine g_sld (pc := 525) hC hL n1 e1 dL_law_525 ?_
  refine g_callVi (pc := 526) (As := [.int s1]) (rest := []) hC (c_X12_sample l E s1 σ1 r σ2 h2) mi_X12_sample mv_X12_sample ob_55 rfl rfl lk_L_143 rfl rfl (Nat.le_of_ble_eq_true rfl) ⟨by decide, by decide⟩ hab dL_law_526 ?_
  refine g_istore (lv2 := [some (.ref bb), some (.ref (E.2.1 0)), some (.ref (E.2.1 55)), some (.ref (E.2.1 92)), some (.int w), some (.int 1), some (.int r)]) (pc := 529) hC dL_law_529 rfl (Or.inr rfl) (by rw [← hN]; decide) ?_
  refine g_aload_n (pc := 531) hC dL_law_531 rfl ?_
  refine g_callVi (pc := 532) (As := []) (rest := []) hC (c_X12_thrown l E σ2 _ rfl) mi_X12_thrown mv_X12_thrown ob_55 rfl rfl lk_L_144 rfl rfl (Nat.le_of_ble_eq_true rfl) ⟨by decide, by decide⟩ hab dL_law_532 ?_
  refine g_top h3.symm ?_
  refine g_iload (pc := 535) hC dL_law_535 rfl ?_
  refine g_icmp_eq (tgt := 542) (pc := 537) hC dL_law_537 (by decide) (fun _ => ?_) (fun q => absurd rfl q)
  refine g_iload (pc := 542) hC dL_law_542 rfl ?_
  refine g_if_ne (tgt := 559) (pc := 544) hC dL_law_544 (by decide) (fun _ => ?_) (fun q => absurd q (by decide))
  refine g_goto (tgt := 2650) (pc := 559) hC dL_law_559 (by decide) ?_
  refine g_mask [true, true, true, true, true, false, false] rfl ?_
  exact kk
set_option maxRecDepth 20000 in
theorem law_7 {l : Launch} {E : uE} {K : uK} {a b : Nat} {o : Int64} {σ : uS} {bb L : Nat} {xs : Nat → Int32} (hC : Cx E K RL cL_law (some .boolean) 11 414) (hN : 7 = K.2.2.2.2.2) (hL : Lx E K bb L xs) (w : Int32) (s1 : Int32) (e1 : s1 = xs (w + 1).toNatClampNeg) (n1 : vp_in (w + 1) L) (s2 : Int32) (e2 : s2 = xs (w + 2).toNatClampNeg) (n2 : vp_in (w + 2) L) (r : Int32) (σ1 σ2 : uS) (h1 : F_X11_bound s1 s2 σ = some (r, σ1)) (h2 : F_X12_bound s1 s2 σ1 = some (r, σ2)) (hab : Rm K a b) (kk : Gd l E K a b o σ2 2650 [some (.ref bb), some (.ref (E.2.1 0)), some (.ref (E.2.1 55)), some (.ref (E.2.1 92)), some (.int w), none, none] []) : Gd l E K a b o σ 562 [some (.ref bb), some (.ref (E.2.1 0)), some (.ref (E.2.1 55)), some (.ref (E.2.1 92)), some (.int w), none, none] [] := by
  refine g_aload_n (pc := 562) hC dL_law_562 rfl ?_
  refine g_aload_n (pc := 563) hC dL_law_563 rfl ?_
  refine g_iload (pc := 564) hC dL_law_564 rfl ?_
  refine g_iconst (pc := 566) hC ki_1 dL_law_566 ?_
  refine g_iadd (pc := 567) hC dL_law_567 ?_
  refine g_sld (pc := 568) hC hL n1 e1 dL_law_568 ?_
  refine g_aload_n (pc := 569) hC dL_law_569 rfl ?_
  refine g_iload (pc := 570) hC dL_law_570 rfl ?_
  refine g_iconst (pc := 572) hC ki_2 dL_law_572 ?_
  refine g_iadd (pc := 573) hC dL_law_573 ?_
  refine g_sld (pc := 574) hC hL n2 e2 dL_law_574 ?_
  refine g_callVi (pc := 575) (As := [.int s1, .int s2]) (rest := []) hC (c_X11_bound l E s1 s2 σ r σ1 h1) mi_X11_bound mv_X11_bound ob_0 rfl rfl lk_L_148 rfl rfl (Nat.le_of_ble_eq_true rfl) ⟨by decide, by decide⟩ hab dL_law_575 ?_
  refine g_aload_n (pc := 578) hC dL_law_578 rfl ?_
  refine g_aload_n (pc := 579) hC dL_law_579 rfl ?_
  refine g_iload (pc := 580) hC dL_law_580 rfl ?_
  refine g_iconst (pc := 582) hC ki_1 dL_law_582 ?_
  refine g_iadd (pc := 583) hC dL_law_583 ?_
  refine g_sld (pc := 584) hC hL n1 e1 dL_law_584 ?_
  refine g_aload_n (pc := 585) hC dL_law_585 rfl ?_
  refine g_iload (pc := 586) hC dL_law_586 rfl ?_
  refine g_iconst (pc := 588) hC ki_2 dL_law_588 ?_
  refine g_iadd (pc := 589) hC dL_law_589 ?_
  refine g_sld (pc := 590) hC hL n2 e2 dL_law_590 ?_
  refine g_callVi (pc := 591) (As := [.int s1, .int s2]) (rest := [.int r]) hC (c_X12_bound l E s1 s2 σ1 r σ2 h2) mi_X12_bound mv_X12_bound ob_55 rfl rfl lk_L_151 rfl rfl (Nat.le_of_ble_eq_true rfl) ⟨by decide, by decide⟩ hab dL_law_591 ?_
  refine g_icmp_eq (tgt := 2650) (pc := 594) hC dL_law_594 (by decide) (fun _ => ?_) (fun q => absurd rfl q)
  exact kk
set_option maxRecDepth 20000 in
theorem law_8_r {l : Launch} {E : uE} {K : uK} {a b : Nat} {o : Int64} {σ : uS} {bb L : Nat} {xs : Nat → Int32} (hC : Cx E K RL cL_law (some .boolean) 11 414) (hN : 7 = K.2.2.2.2.2) (hL : Lx E K bb L xs) (w : Int32) (s1 : Int32) (e1 : s1 = xs (w + 1).toNatClampNeg) (n1 : vp_in (w + 1) L) (r : Int32) (σ1 σ2 : uS) (h1 : F_X11_count s1 σ = some (.inl r, σ1)) (h2 : F_X12_count s1 σ1 = some (r, σ2)) (h3 : σ2 55 9 = 0) (hab : Rm K a b) (kk : Gd l E K a b r.toInt64 σ2 2650 [some (.ref bb), some (.ref (E.2.1 0)), some (.ref (E.2.1 55)), some (.ref (E.2.1 92)), some (.int w), none, none] []) : Gd l E K a b o σ 599 [some (.ref bb), some (.ref (E.2.1 0)), some (.ref (E.2.1 55)), some (.ref (E.2.1 92)), some (.int w), none, none] [] := by
  refine g_aload_n (pc := 599) hC dL_law_599 rfl ?_
  refine g_aload_n (pc := 600) hC dL_law_600 rfl ?_
  refine g_iload (pc := 601) hC dL_law_601 rfl ?_
  refine g_iconst (pc := 603) hC ki_1 dL_law_603 ?_
  refine g_iadd (pc := 604) hC dL_law_604 ?_
  refine g_sld (pc := 605) hC hL n1 e1 dL_law_605 ?_
  refine g_aload_n (pc := 606) hC dL_law_606 rfl ?_
  refine g_callH (pc := 607) (As := [.ref (E.2.1 0), .int s1, .ref (E.2.1 92)]) (rest := []) hC (hr_count l E s1 σ o r σ1 h1) mh_count lk_L_152 rfl rfl (Nat.le_of_ble_eq_true rfl) ⟨by decide, by decide⟩ hab dL_law_607 ?_
  refine g_istore (lv2 := [some (.ref bb), some (.ref (E.2.1 0)), some (.ref (E.2.1 55)), some (.ref (E.2.1 92)), some (.int w), some (.int 0), none]) (pc := 610) hC dL_law_610 rfl (Or.inr rfl) (by rw [← hN]; decide) ?_
  refine g_aload_n (pc := 612) hC dL_law_612 rfl ?_
  refine g_aload_n (pc := 613) hC dL_law_613 rfl ?_
  refine g_iload (pc := 614) hC dL_law_614 rfl ?_
  refine g_iconst (pc := 616) hC ki_1 dL_law_616 ?_
  refine g_iadd (pc := 617) hC dL_law_617 ?_
  refine g_sld (pc := 618) hC hL n1 e1 dL_law_618 ?_
  refine g_callVi (pc := 619) (As := [.int s1]) (rest := []) hC (c_X12_count l E s1 σ1 r σ2 h2) mi_X12_count mv_X12_count ob_55 rfl rfl lk_L_154 rfl rfl (Nat.le_of_ble_eq_true rfl) ⟨by decide, by decide⟩ hab dL_law_619 ?_
  refine g_istore (lv2 := [some (.ref bb), some (.ref (E.2.1 0)), some (.ref (E.2.1 55)), some (.ref (E.2.1 92)), some (.int w), some (.int 0), some (.int r)]) (pc := 622) hC dL_law_622 rfl (Or.inr rfl) (by rw [← hN]; decide) ?_
  refine g_aload_n (pc := 624) hC dL_law_624 rfl ?_
  refine g_callVi (pc := 625) (As := []) (rest := []) hC (c_X12_thrown l E σ2 _ rfl) mi_X12_thrown mv_X12_thrown ob_55 rfl rfl lk_L_144 rfl rfl (Nat.le_of_ble_eq_true rfl) ⟨by decide, by decide⟩ hab dL_law_625 ?_
  refine g_top h3.symm ?_
  refine g_iload (pc := 628) hC dL_law_628 rfl ?_
  refine g_icmp_eq (tgt := 635) (pc := 630) hC dL_law_630 (by decide) (fun _ => ?_) (fun q => absurd rfl q)
  refine g_iload (pc := 635) hC dL_law_635 rfl ?_
  refine g_if_ne (tgt := 652) (pc := 637) hC dL_law_637 (by decide) (fun q => absurd rfl q) (fun _ => ?_)
  refine g_aload_n (pc := 640) hC dL_law_640 rfl ?_
  refine g_iconst (pc := 641) hC ki_0 dL_law_641 ?_
  refine g_lald (pc := 642) hC dL_law_642 ?_
  refine g_iload (pc := 643) hC dL_law_643 rfl ?_
  refine g_i2l (pc := 645) hC dL_law_645 ?_
  refine g_lcmp (pc := 646) hC dL_law_646 ?_
  refine g_if_eq (tgt := 652) (pc := 647) hC dL_law_647 (by decide) (fun _ => ?_) (fun q => absurd (lg_cmp_self _) q)
  refine g_goto (tgt := 2650) (pc := 652) hC dL_law_652 (by decide) ?_
  refine g_mask [true, true, true, true, true, false, false] rfl ?_
  exact kk
set_option maxRecDepth 20000 in
theorem law_8_x1 {l : Launch} {E : uE} {K : uK} {a b : Nat} {o : Int64} {σ : uS} {bb L : Nat} {xs : Nat → Int32} (hC : Cx E K RL cL_law (some .boolean) 11 414) (hN : 7 = K.2.2.2.2.2) (hL : Lx E K bb L xs) (w : Int32) (s1 : Int32) (e1 : s1 = xs (w + 1).toNatClampNeg) (n1 : vp_in (w + 1) L) (hl9 : l.stackTraces = false) (r : Int32) (σ1 σ2 : uS) (h1 : F_X11_count s1 σ = some (.inr 1, σ1)) (h2 : F_X12_count s1 σ1 = some (r, σ2)) (h3 : σ2 55 9 = 1) (hab : Rm K (a + 1) (b + 6)) (kk : Gd l E K (a + 1) (b + 6) o σ2 2650 [some (.ref bb), some (.ref (E.2.1 0)), some (.ref (E.2.1 55)), some (.ref (E.2.1 92)), some (.int w), none, none] []) : Gd l E K a b o σ 599 [some (.ref bb), some (.ref (E.2.1 0)), some (.ref (E.2.1 55)), some (.ref (E.2.1 92)), some (.int w), none, none] [] := by
  refine g_aload_n (pc := 599) hC dL_law_599 rfl ?_
  refine g_aload_n (pc := 600) hC dL_law_600 rfl ?_
  refine g_iload (pc := 601) hC dL_law_601 rfl ?_
  refine g_iconst (pc := 603) hC ki_1 dL_law_603 ?_
  refine g_iadd (pc := 604) hC dL_law_604 ?_
  refine g_sld (pc := 605) hC hL n1 e1 dL_law_605 ?_
  refine g_aload_n (pc := 606) hC dL_law_606 rfl ?_
  refine g_callH (pc := 607) (As := [.ref (E.2.1 0), .int s1, .ref (E.2.1 92)]) (rest := []) hC (hx_count_1 l hl9 E s1 σ o σ1 h1) mh_count lk_L_152 rfl rfl (Nat.le_of_ble_eq_true rfl) ⟨by decide, by decide⟩ hab dL_law_607 ?_
  refine g_istore (lv2 := [some (.ref bb), some (.ref (E.2.1 0)), some (.ref (E.2.1 55)), some (.ref (E.2.1 92)), some (.int w), some (.int 1), none]) (pc := 610) hC dL_law_610 rfl (Or.inr rfl) (by rw [← hN]; decide) ?_
  refine g_aload_n (pc := 612) hC dL_law_612 rfl ?_
  refine g_aload_n (pc := 613) hC dL_law_613 rfl ?_
  refine g_iload (pc := 614) hC dL_law_614 rfl ?_
  refine g_iconst (pc := 616) hC ki_1 dL_law_616 ?_
  refine g_iadd (pc := 617) hC dL_law_617 ?_
  refine g_sld (pc := 618) hC hL n1 e1 dL_law_618 ?_
  refine g_callVi (pc := 619) (As := [.int s1]) (rest := []) hC (c_X12_count l E s1 σ1 r σ2 h2) mi_X12_count mv_X12_count ob_55 rfl rfl lk_L_154 rfl rfl (Nat.le_of_ble_eq_true rfl) ⟨by decide, by decide⟩ hab dL_law_619 ?_
  refine g_istore (lv2 := [some (.ref bb), some (.ref (E.2.1 0)), some (.ref (E.2.1 55)), some (.ref (E.2.1 92)), some (.int w), some (.int 1), some (.int r)]) (pc := 622) hC dL_law_622 rfl (Or.inr rfl) (by rw [← hN]; decide) ?_
  refine g_aload_n (pc := 624) hC dL_law_624 rfl ?_
  refine g_callVi (pc := 625) (As := []) (rest := []) hC (c_X12_thrown l E σ2 _ rfl) mi_X12_thrown mv_X12_thrown ob_55 rfl rfl lk_L_144 rfl rfl (Nat.le_of_ble_eq_true rfl) ⟨by decide, by decide⟩ hab dL_law_625 ?_
  refine g_top h3.symm ?_
  refine g_iload (pc := 628) hC dL_law_628 rfl ?_
  refine g_icmp_eq (tgt := 635) (pc := 630) hC dL_law_630 (by decide) (fun _ => ?_) (fun q => absurd rfl q)
  refine g_iload (pc := 635) hC dL_law_635 rfl ?_
  refine g_if_ne (tgt := 652) (pc := 637) hC dL_law_637 (by decide) (fun _ => ?_) (fun q => absurd q (by decide))
  refine g_goto (tgt := 2650) (pc := 652) hC dL_law_652 (by decide) ?_
  refine g_mask [true, true, true, true, true, false, false] rfl ?_
  exact kk
set_option maxRecDepth 20000 in
theorem law_9_r {l : Launch} {E : uE} {K : uK} {a b : Nat} {o : Int64} {σ : uS} {bb L : Nat} {xs : Nat → Int32} (hC : Cx E K RL cL_law (some .boolean) 11 414) (hN : 7 = K.2.2.2.2.2) (hL : Lx E K bb L xs) (w : Int32) (s1 : Int32) (e1 : s1 = xs (w + 1).toNatClampNeg) (n1 : vp_in (w + 1) L) (s2 : Int32) (e2 : s2 = xs (w + 2).toNatClampNeg) (n2 : vp_in (w + 2) L) (r : Int32) (σ1 σ2 : uS) (h1 : F_X11_diff s1 s2 σ = some (.inl r, σ1)) (h2 : F_X12_diff s1 s2 σ1 = some (r, σ2)) (h3 : σ2 55 9 = 0) (hab : Rm K a b) (kk : Gd l E K a b r.toInt64 σ2 2650 [some (.ref bb), some (.ref (E.2.1 0)), some (.ref (E.2.1 55)), some (.ref (E.2.1 92)), some (.int w), none, none] []) : Gd l E K a b o σ 655 [some (.ref bb), some (.ref (E.2.1 0)), some (.ref (E.2.1 55)), some (.ref (E.2.1 92)), some (.int w), none, none] [] := by
  refine g_aload_n (pc := 655) hC dL_law_655 rfl ?_
  refine g_aload_n (pc := 656) hC dL_law_656 rfl ?_
  refine g_iload (pc := 657) hC dL_law_657 rfl ?_
  refine g_iconst (pc := 659) hC ki_1 dL_law_659 ?_
  refine g_iadd (pc := 660) hC dL_law_660 ?_
  refine g_sld (pc := 661) hC hL n1 e1 dL_law_661 ?_
  refine g_aload_n (pc := 662) hC dL_law_662 rfl ?_
  refine g_iload (pc := 663) hC dL_law_663 rfl ?_
  refine g_iconst (pc := 665) hC ki_2 dL_law_665 ?_
  refine g_iadd (pc := 666) hC dL_law_666 ?_
  refine g_sld (pc := 667) hC hL n2 e2 dL_law_667 ?_
  refine g_aload_n (pc := 668) hC dL_law_668 rfl ?_
  refine g_callH (pc := 669) (As := [.ref (E.2.1 0), .int s1, .int s2, .ref (E.2.1 92)]) (rest := []) hC (hr_diff l E s1 s2 σ o r σ1 h1) mh_diff lk_L_155 rfl rfl (Nat.le_of_ble_eq_true rfl) ⟨by decide, by decide⟩ hab dL_law_669 ?_
  refine g_istore (lv2 := [some (.ref bb), some (.ref (E.2.1 0)), some (.ref (E.2.1 55)), some (.ref (E.2.1 92)), some (.int w), some (.int 0), none]) (pc := 672) hC dL_law_672 rfl (Or.inr rfl) (by rw [← hN]; decide) ?_
  refine g_aload_n (pc := 674) hC dL_law_674 rfl ?_
  refine g_aload_n (pc := 675) hC dL_law_675 rfl ?_
  refine g_iload (pc := 676) hC dL_law_676 rfl ?_
  refine g_iconst (pc := 678) hC ki_1 dL_law_678 ?_
  refine g_iadd (pc := 679) hC dL_law_679 ?_
  refine g_sld (pc := 680) hC hL n1 e1 dL_law_680 ?_
  refine g_aload_n (pc := 681) hC dL_law_681 rfl ?_
  refine g_iload (pc := 682) hC dL_law_682 rfl ?_
  refine g_iconst (pc := 684) hC ki_2 dL_law_684 ?_
  refine g_iadd (pc := 685) hC dL_law_685 ?_
  refine g_sld (pc := 686) hC hL n2 e2 dL_law_686 ?_
  refine g_callVi (pc := 687) (As := [.int s1, .int s2]) (rest := []) hC (c_X12_diff l E s1 s2 σ1 r σ2 h2) mi_X12_diff mv_X12_diff ob_55 rfl rfl lk_L_158 rfl rfl (Nat.le_of_ble_eq_true rfl) ⟨by decide, by decide⟩ hab dL_law_687 ?_
  refine g_istore (lv2 := [some (.ref bb), some (.ref (E.2.1 0)), some (.ref (E.2.1 55)), some (.ref (E.2.1 92)), some (.int w), some (.int 0), some (.int r)]) (pc := 690) hC dL_law_690 rfl (Or.inr rfl) (by rw [← hN]; decide) ?_
  refine g_aload_n (pc := 692) hC dL_law_692 rfl ?_
  refine g_callVi (pc := 693) (As := []) (rest := []) hC (c_X12_thrown l E σ2 _ rfl) mi_X12_thrown mv_X12_thrown ob_55 rfl rfl lk_L_144 rfl rfl (Nat.le_of_ble_eq_true rfl) ⟨by decide, by decide⟩ hab dL_law_693 ?_
  refine g_top h3.symm ?_
  refine g_iload (pc := 696) hC dL_law_696 rfl ?_
  refine g_icmp_eq (tgt := 703) (pc := 698) hC dL_law_698 (by decide) (fun _ => ?_) (fun q => absurd rfl q)
  refine g_iload (pc := 703) hC dL_law_703 rfl ?_
  refine g_if_ne (tgt := 720) (pc := 705) hC dL_law_705 (by decide) (fun q => absurd rfl q) (fun _ => ?_)
  refine g_aload_n (pc := 708) hC dL_law_708 rfl ?_
  refine g_iconst (pc := 709) hC ki_0 dL_law_709 ?_
  refine g_lald (pc := 710) hC dL_law_710 ?_
  refine g_iload (pc := 711) hC dL_law_711 rfl ?_
  refine g_i2l (pc := 713) hC dL_law_713 ?_
  refine g_lcmp (pc := 714) hC dL_law_714 ?_
  refine g_if_eq (tgt := 720) (pc := 715) hC dL_law_715 (by decide) (fun _ => ?_) (fun q => absurd (lg_cmp_self _) q)
  refine g_goto (tgt := 2650) (pc := 720) hC dL_law_720 (by decide) ?_
  refine g_mask [true, true, true, true, true, false, false] rfl ?_
  exact kk
set_option maxRecDepth 20000 in
theorem law_9_x1 {l : Launch} {E : uE} {K : uK} {a b : Nat} {o : Int64} {σ : uS} {bb L : Nat} {xs : Nat → Int32} (hC : Cx E K RL cL_law (some .boolean) 11 414) (hN : 7 = K.2.2.2.2.2) (hL : Lx E K bb L xs) (w : Int32) (s1 : Int32) (e1 : s1 = xs (w + 1).toNatClampNeg) (n1 : vp_in (w + 1) L) (s2 : Int32) (e2 : s2 = xs (w + 2).toNatClampNeg) (n2 : vp_in (w + 2) L) (hl9 : l.stackTraces = false) (r : Int32) (σ1 σ2 : uS) (h1 : F_X11_diff s1 s2 σ = some (.inr 1, σ1)) (h2 : F_X12_diff s1 s2 σ1 = some (r, σ2)) (h3 : σ2 55 9 = 1) (hab : Rm K (a + 1) (b + 6)) (kk : Gd l E K (a + 1) (b + 6) o σ2 2650 [some (.ref bb), some (.ref (E.2.1 0)), some (.ref (E.2.1 55)), some (.ref (E.2.1 92)), some (.int w), none, none] []) : Gd l E K a b o σ 655 [some (.ref bb), some (.ref (E.2.1 0)), some (.ref (E.2.1 55)), some (.ref (E.2.1 92)), some (.int w), none, none] [] := by
  refine g_aload_n (pc := 655) hC dL_law_655 rfl ?_
  refine g_aload_n (pc := 656) hC dL_law_656 rfl ?_
  refine g_iload (pc := 657) hC dL_law_657 rfl ?_
  refine g_iconst (pc := 659) hC ki_1 dL_law_659 ?_
  refine g_iadd (pc := 660) hC dL_law_660 ?_
  refine g_sld (pc := 661) hC hL n1 e1 dL_law_661 ?_
  refine g_aload_n (pc := 662) hC dL_law_662 rfl ?_
  refine g_iload (pc := 663) hC dL_law_663 rfl ?_
  refine g_iconst (pc := 665) hC ki_2 dL_law_665 ?_
  refine g_iadd (pc := 666) hC dL_law_666 ?_
  refine g_sld (pc := 667) hC hL n2 e2 dL_law_667 ?_
  refine g_aload_n (pc := 668) hC dL_law_668 rfl ?_
  refine g_callH (pc := 669) (As := [.ref (E.2.1 0), .int s1, .int s2, .ref (E.2.1 92)]) (rest := []) hC (hx_diff_1 l hl9 E s1 s2 σ o σ1 h1) mh_diff lk_L_155 rfl rfl (Nat.le_of_ble_eq_true rfl) ⟨by decide, by decide⟩ hab dL_law_669 ?_
  refine g_istore (lv2 := [some (.ref bb), some (.ref (E.2.1 0)), some (.ref (E.2.1 55)), some (.ref (E.2.1 92)), some (.int w), some (.int 1), none]) (pc := 672) hC dL_law_672 rfl (Or.inr rfl) (by rw [← hN]; decide) ?_
  refine g_aload_n (pc := 674) hC dL_law_674 rfl ?_
  refine g_aload_n (pc := 675) hC dL_law_675 rfl ?_
  refine g_iload (pc := 676) hC dL_law_676 rfl ?_
  refine g_iconst (pc := 678) hC ki_1 dL_law_678 ?_
  refine g_iadd (pc := 679) hC dL_law_679 ?_
  refine g_sld (pc := 680) hC hL n1 e1 dL_law_680 ?_
  refine g_aload_n (pc := 681) hC dL_law_681 rfl ?_
  refine g_iload (pc := 682) hC dL_law_682 rfl ?_
  refine g_iconst (pc := 684) hC ki_2 dL_law_684 ?_
  refine g_iadd (pc := 685) hC dL_law_685 ?_
  refine g_sld (pc := 686) hC hL n2 e2 dL_law_686 ?_
  refine g_callVi (pc := 687) (As := [.int s1, .int s2]) (rest := []) hC (c_X12_diff l E s1 s2 σ1 r σ2 h2) mi_X12_diff mv_X12_diff ob_55 rfl rfl lk_L_158 rfl rfl (Nat.le_of_ble_eq_true rfl) ⟨by decide, by decide⟩ hab dL_law_687 ?_
  refine g_istore (lv2 := [some (.ref bb), some (.ref (E.2.1 0)), some (.ref (E.2.1 55)), some (.ref (E.2.1 92)), some (.int w), some (.int 1), some (.int r)]) (pc := 690) hC dL_law_690 rfl (Or.inr rfl) (by rw [← hN]; decide) ?_
  refine g_aload_n (pc := 692) hC dL_law_692 rfl ?_
  refine g_callVi (pc := 693) (As := []) (rest := []) hC (c_X12_thrown l E σ2 _ rfl) mi_X12_thrown mv_X12_thrown ob_55 rfl rfl lk_L_144 rfl rfl (Nat.le_of_ble_eq_true rfl) ⟨by decide, by decide⟩ hab dL_law_693 ?_
  refine g_top h3.symm ?_
  refine g_iload (pc := 696) hC dL_law_696 rfl ?_
  refine g_icmp_eq (tgt := 703) (pc := 698) hC dL_law_698 (by decide) (fun _ => ?_) (fun q => absurd rfl q)
  refine g_iload (pc := 703) hC dL_law_703 rfl ?_
  refine g_if_ne (tgt := 720) (pc := 705) hC dL_law_705 (by decide) (fun _ => ?_) (fun q => absurd q (by decide))
  refine g_goto (tgt := 2650) (pc := 720) hC dL_law_720 (by decide) ?_
  refine g_mask [true, true, true, true, true, false, false] rfl ?_
  exact kk
set_option maxRecDepth 20000 in
theorem law_10_r {l : Launch} {E : uE} {K : uK} {a b : Nat} {o : Int64} {σ : uS} {bb L : Nat} {xs : Nat → Int32} (hC : Cx E K RL cL_law (some .boolean) 11 414) (hN : 7 = K.2.2.2.2.2) (hL : Lx E K bb L xs) (w : Int32) (s1 : Int32) (e1 : s1 = xs (w + 1).toNatClampNeg) (n1 : vp_in (w + 1) L) (s2 : Int32) (e2 : s2 = xs (w + 2).toNatClampNeg) (n2 : vp_in (w + 2) L) (r : Int32) (σ1 σ2 : uS) (h1 : F_X11_rel s1 s2 σ = some (.inl r, σ1)) (h2 : F_X12_rel s1 s2 σ1 = some (r, σ2)) (h3 : σ2 55 9 = 0) (hab : Rm K a b) (kk : Gd l E K a b r.toInt64 σ2 2650 [some (.ref bb), some (.ref (E.2.1 0)), some (.ref (E.2.1 55)), some (.ref (E.2.1 92)), some (.int w), none, none] []) : Gd l E K a b o σ 723 [some (.ref bb), some (.ref (E.2.1 0)), some (.ref (E.2.1 55)), some (.ref (E.2.1 92)), some (.int w), none, none] [] := by
  refine g_aload_n (pc := 723) hC dL_law_723 rfl ?_
  refine g_aload_n (pc := 724) hC dL_law_724 rfl ?_
  refine g_iload (pc := 725) hC dL_law_725 rfl ?_
  refine g_iconst (pc := 727) hC ki_1 dL_law_727 ?_
  refine g_iadd (pc := 728) hC dL_law_728 ?_
  refine g_sld (pc := 729) hC hL n1 e1 dL_law_729 ?_
  refine g_aload_n (pc := 730) hC dL_law_730 rfl ?_
  refine g_iload (pc := 731) hC dL_law_731 rfl ?_
  refine g_iconst (pc := 733) hC ki_2 dL_law_733 ?_
  refine g_iadd (pc := 734) hC dL_law_734 ?_
  refine g_sld (pc := 735) hC hL n2 e2 dL_law_735 ?_
  refine g_aload_n (pc := 736) hC dL_law_736 rfl ?_
  refine g_callH (pc := 737) (As := [.ref (E.2.1 0), .int s1, .int s2, .ref (E.2.1 92)]) (rest := []) hC (hr_rel l E s1 s2 σ o r σ1 h1) mh_rel lk_L_159 rfl rfl (Nat.le_of_ble_eq_true rfl) ⟨by decide, by decide⟩ hab dL_law_737 ?_
  refine g_istore (lv2 := [some (.ref bb), some (.ref (E.2.1 0)), some (.ref (E.2.1 55)), some (.ref (E.2.1 92)), some (.int w), some (.int 0), none]) (pc := 740) hC dL_law_740 rfl (Or.inr rfl) (by rw [← hN]; decide) ?_
  refine g_aload_n (pc := 742) hC dL_law_742 rfl ?_
  refine g_aload_n (pc := 743) hC dL_law_743 rfl ?_
  refine g_iload (pc := 744) hC dL_law_744 rfl ?_
  refine g_iconst (pc := 746) hC ki_1 dL_law_746 ?_
  refine g_iadd (pc := 747) hC dL_law_747 ?_
  refine g_sld (pc := 748) hC hL n1 e1 dL_law_748 ?_
  refine g_aload_n (pc := 749) hC dL_law_749 rfl ?_
  refine g_iload (pc := 750) hC dL_law_750 rfl ?_
  refine g_iconst (pc := 752) hC ki_2 dL_law_752 ?_
  refine g_iadd (pc := 753) hC dL_law_753 ?_
  refine g_sld (pc := 754) hC hL n2 e2 dL_law_754 ?_
  refine g_callVi (pc := 755) (As := [.int s1, .int s2]) (rest := []) hC (c_X12_rel l E s1 s2 σ1 r σ2 h2) mi_X12_rel mv_X12_rel ob_55 rfl rfl lk_L_161 rfl rfl (Nat.le_of_ble_eq_true rfl) ⟨by decide, by decide⟩ hab dL_law_755 ?_
  refine g_istore (lv2 := [some (.ref bb), some (.ref (E.2.1 0)), some (.ref (E.2.1 55)), some (.ref (E.2.1 92)), some (.int w), some (.int 0), some (.int r)]) (pc := 758) hC dL_law_758 rfl (Or.inr rfl) (by rw [← hN]; decide) ?_
  refine g_aload_n (pc := 760) hC dL_law_760 rfl ?_
  refine g_callVi (pc := 761) (As := []) (rest := []) hC (c_X12_thrown l E σ2 _ rfl) mi_X12_thrown mv_X12_thrown ob_55 rfl rfl lk_L_144 rfl rfl (Nat.le_of_ble_eq_true rfl) ⟨by decide, by decide⟩ hab dL_law_761 ?_
  refine g_top h3.symm ?_
  refine g_iload (pc := 764) hC dL_law_764 rfl ?_
  refine g_icmp_eq (tgt := 771) (pc := 766) hC dL_law_766 (by decide) (fun _ => ?_) (fun q => absurd rfl q)
  refine g_iload (pc := 771) hC dL_law_771 rfl ?_
  refine g_if_ne (tgt := 788) (pc := 773) hC dL_law_773 (by decide) (fun q => absurd rfl q) (fun _ => ?_)
  refine g_aload_n (pc := 776) hC dL_law_776 rfl ?_
  refine g_iconst (pc := 777) hC ki_0 dL_law_777 ?_
  refine g_lald (pc := 778) hC dL_law_778 ?_
  refine g_iload (pc := 779) hC dL_law_779 rfl ?_
  refine g_i2l (pc := 781) hC dL_law_781 ?_
  refine g_lcmp (pc := 782) hC dL_law_782 ?_
  refine g_if_eq (tgt := 788) (pc := 783) hC dL_law_783 (by decide) (fun _ => ?_) (fun q => absurd (lg_cmp_self _) q)
  refine g_goto (tgt := 2650) (pc := 788) hC dL_law_788 (by decide) ?_
  refine g_mask [true, true, true, true, true, false, false] rfl ?_
  exact kk
set_option maxRecDepth 20000 in
theorem law_10_x1 {l : Launch} {E : uE} {K : uK} {a b : Nat} {o : Int64} {σ : uS} {bb L : Nat} {xs : Nat → Int32} (hC : Cx E K RL cL_law (some .boolean) 11 414) (hN : 7 = K.2.2.2.2.2) (hL : Lx E K bb L xs) (w : Int32) (s1 : Int32) (e1 : s1 = xs (w + 1).toNatClampNeg) (n1 : vp_in (w + 1) L) (s2 : Int32) (e2 : s2 = xs (w + 2).toNatClampNeg) (n2 : vp_in (w + 2) L) (hl9 : l.stackTraces = false) (r : Int32) (σ1 σ2 : uS) (h1 : F_X11_rel s1 s2 σ = some (.inr 1, σ1)) (h2 : F_X12_rel s1 s2 σ1 = some (r, σ2)) (h3 : σ2 55 9 = 1) (hab : Rm K (a + 1) (b + 6)) (kk : Gd l E K (a + 1) (b + 6) o σ2 2650 [some (.ref bb), some (.ref (E.2.1 0)), some (.ref (E.2.1 55)), some (.ref (E.2.1 92)), some (.int w), none, none] []) : Gd l E K a b o σ 723 [some (.ref bb), some (.ref (E.2.1 0)), some (.ref (E.2.1 55)), some (.ref (E.2.1 92)), some (.int w), none, none] [] := by
  refine g_aload_n (pc := 723) hC dL_law_723 rfl ?_
  refine g_aload_n (pc := 724) hC dL_law_724 rfl ?_
  refine g_iload (pc := 725) hC dL_law_725 rfl ?_
  refine g_iconst (pc := 727) hC ki_1 dL_law_727 ?_
  refine g_iadd (pc := 728) hC dL_law_728 ?_
  refine g_sld (pc := 729) hC hL n1 e1 dL_law_729 ?_
  refine g_aload_n (pc := 730) hC dL_law_730 rfl ?_
  refine g_iload (pc := 731) hC dL_law_731 rfl ?_
  refine g_iconst (pc := 733) hC ki_2 dL_law_733 ?_
  refine g_iadd (pc := 734) hC dL_law_734 ?_
  refine g_sld (pc := 735) hC hL n2 e2 dL_law_735 ?_
  refine g_aload_n (pc := 736) hC dL_law_736 rfl ?_
  refine g_callH (pc := 737) (As := [.ref (E.2.1 0), .int s1, .int s2, .ref (E.2.1 92)]) (rest := []) hC (hx_rel_1 l hl9 E s1 s2 σ o σ1 h1) mh_rel lk_L_159 rfl rfl (Nat.le_of_ble_eq_true rfl) ⟨by decide, by decide⟩ hab dL_law_737 ?_
  refine g_istore (lv2 := [some (.ref bb), some (.ref (E.2.1 0)), some (.ref (E.2.1 55)), some (.ref (E.2.1 92)), some (.int w), some (.int 1), none]) (pc := 740) hC dL_law_740 rfl (Or.inr rfl) (by rw [← hN]; decide) ?_
  refine g_aload_n (pc := 742) hC dL_law_742 rfl ?_
  refine g_aload_n (pc := 743) hC dL_law_743 rfl ?_
  refine g_iload (pc := 744) hC dL_law_744 rfl ?_
  refine g_iconst (pc := 746) hC ki_1 dL_law_746 ?_
  refine g_iadd (pc := 747) hC dL_law_747 ?_
  refine g_sld (pc := 748) hC hL n1 e1 dL_law_748 ?_
  refine g_aload_n (pc := 749) hC dL_law_749 rfl ?_
  refine g_iload (pc := 750) hC dL_law_750 rfl ?_
  refine g_iconst (pc := 752) hC ki_2 dL_law_752 ?_
  refine g_iadd (pc := 753) hC dL_law_753 ?_
  refine g_sld (pc := 754) hC hL n2 e2 dL_law_754 ?_
  refine g_callVi (pc := 755) (As := [.int s1, .int s2]) (rest := []) hC (c_X12_rel l E s1 s2 σ1 r σ2 h2) mi_X12_rel mv_X12_rel ob_55 rfl rfl lk_L_161 rfl rfl (Nat.le_of_ble_eq_true rfl) ⟨by decide, by decide⟩ hab dL_law_755 ?_
  refine g_istore (lv2 := [some (.ref bb), some (.ref (E.2.1 0)), some (.ref (E.2.1 55)), some (.ref (E.2.1 92)), some (.int w), some (.int 1), some (.int r)]) (pc := 758) hC dL_law_758 rfl (Or.inr rfl) (by rw [← hN]; decide) ?_
  refine g_aload_n (pc := 760) hC dL_law_760 rfl ?_
  refine g_callVi (pc := 761) (As := []) (rest := []) hC (c_X12_thrown l E σ2 _ rfl) mi_X12_thrown mv_X12_thrown ob_55 rfl rfl lk_L_144 rfl rfl (Nat.le_of_ble_eq_true rfl) ⟨by decide, by decide⟩ hab dL_law_761 ?_
  refine g_top h3.symm ?_
  refine g_iload (pc := 764) hC dL_law_764 rfl ?_
  refine g_icmp_eq (tgt := 771) (pc := 766) hC dL_law_766 (by decide) (fun _ => ?_) (fun q => absurd rfl q)
  refine g_iload (pc := 771) hC dL_law_771 rfl ?_
  refine g_if_ne (tgt := 788) (pc := 773) hC dL_law_773 (by decide) (fun _ => ?_) (fun q => absurd q (by decide))
  refine g_goto (tgt := 2650) (pc := 788) hC dL_law_788 (by decide) ?_
  refine g_mask [true, true, true, true, true, false, false] rfl ?_
  exact kk
set_option maxRecDepth 20000 in
theorem law_11_r {l : Launch} {E : uE} {K : uK} {a b : Nat} {o : Int64} {σ : uS} {bb L : Nat} {xs : Nat → Int32} (hC : Cx E K RL cL_law (some .boolean) 11 414) (hN : 7 = K.2.2.2.2.2) (hL : Lx E K bb L xs) (w : Int32) (s1 : Int32) (e1 : s1 = xs (w + 1).toNatClampNeg) (n1 : vp_in (w + 1) L) (r : Int32) (σ1 σ2 : uS) (h1 : F_X11_loud s1 σ = some (.inl r, σ1)) (h2 : F_X12_loud s1 σ1 = some (r, σ2)) (h3 : σ2 55 9 = 0) (hab : Rm K a b) (kk : Gd l E K a b r.toInt64 σ2 2650 [some (.ref bb), some (.ref (E.2.1 0)), some (.ref (E.2.1 55)), some (.ref (E.2.1 92)), some (.int w), none, none] []) : Gd l E K a b o σ 791 [some (.ref bb), some (.ref (E.2.1 0)), some (.ref (E.2.1 55)), some (.ref (E.2.1 92)), some (.int w), none, none] [] := by
  refine g_aload_n (pc := 791) hC dL_law_791 rfl ?_
  refine g_aload_n (pc := 792) hC dL_law_792 rfl ?_
  refine g_iload (pc := 793) hC dL_law_793 rfl ?_
  refine g_iconst (pc := 795) hC ki_1 dL_law_795 ?_
  refine g_iadd (pc := 796) hC dL_law_796 ?_
  refine g_sld (pc := 797) hC hL n1 e1 dL_law_797 ?_
  refine g_aload_n (pc := 798) hC dL_law_798 rfl ?_
  refine g_callH (pc := 799) (As := [.ref (E.2.1 0), .int s1, .ref (E.2.1 92)]) (rest := []) hC (hr_loud l E s1 σ o r σ1 h1) mh_loud lk_L_162 rfl rfl (Nat.le_of_ble_eq_true rfl) ⟨by decide, by decide⟩ hab dL_law_799 ?_
  refine g_istore (lv2 := [some (.ref bb), some (.ref (E.2.1 0)), some (.ref (E.2.1 55)), some (.ref (E.2.1 92)), some (.int w), some (.int 0), none]) (pc := 802) hC dL_law_802 rfl (Or.inr rfl) (by rw [← hN]; decide) ?_
  refine g_aload_n (pc := 804) hC dL_law_804 rfl ?_
  refine g_aload_n (pc := 805) hC dL_law_805 rfl ?_
  refine g_iload (pc := 806) hC dL_law_806 rfl ?_
  refine g_iconst (pc := 808) hC ki_1 dL_law_808 ?_
  refine g_iadd (pc := 809) hC dL_law_809 ?_
  refine g_sld (pc := 810) hC hL n1 e1 dL_law_810 ?_
  refine g_callVi (pc := 811) (As := [.int s1]) (rest := []) hC (c_X12_loud l E s1 σ1 r σ2 h2) mi_X12_loud mv_X12_loud ob_55 rfl rfl lk_L_164 rfl rfl (Nat.le_of_ble_eq_true rfl) ⟨by decide, by decide⟩ hab dL_law_811 ?_
  refine g_istore (lv2 := [some (.ref bb), some (.ref (E.2.1 0)), some (.ref (E.2.1 55)), some (.ref (E.2.1 92)), some (.int w), some (.int 0), some (.int r)]) (pc := 814) hC dL_law_814 rfl (Or.inr rfl) (by rw [← hN]; decide) ?_
  refine g_aload_n (pc := 816) hC dL_law_816 rfl ?_
  refine g_callVi (pc := 817) (As := []) (rest := []) hC (c_X12_thrown l E σ2 _ rfl) mi_X12_thrown mv_X12_thrown ob_55 rfl rfl lk_L_144 rfl rfl (Nat.le_of_ble_eq_true rfl) ⟨by decide, by decide⟩ hab dL_law_817 ?_
  refine g_top h3.symm ?_
  refine g_iload (pc := 820) hC dL_law_820 rfl ?_
  refine g_icmp_eq (tgt := 827) (pc := 822) hC dL_law_822 (by decide) (fun _ => ?_) (fun q => absurd rfl q)
  refine g_iload (pc := 827) hC dL_law_827 rfl ?_
  refine g_if_ne (tgt := 844) (pc := 829) hC dL_law_829 (by decide) (fun q => absurd rfl q) (fun _ => ?_)
  refine g_aload_n (pc := 832) hC dL_law_832 rfl ?_
  refine g_iconst (pc := 833) hC ki_0 dL_law_833 ?_
  refine g_lald (pc := 834) hC dL_law_834 ?_
  refine g_iload (pc := 835) hC dL_law_835 rfl ?_
  refine g_i2l (pc := 837) hC dL_law_837 ?_
  refine g_lcmp (pc := 838) hC dL_law_838 ?_
  refine g_if_eq (tgt := 844) (pc := 839) hC dL_law_839 (by decide) (fun _ => ?_) (fun q => absurd (lg_cmp_self _) q)
  refine g_goto (tgt := 2650) (pc := 844) hC dL_law_844 (by decide) ?_
  refine g_mask [true, true, true, true, true, false, false] rfl ?_
  exact kk
set_option maxRecDepth 20000 in
theorem law_11_x1 {l : Launch} {E : uE} {K : uK} {a b : Nat} {o : Int64} {σ : uS} {bb L : Nat} {xs : Nat → Int32} (hC : Cx E K RL cL_law (some .boolean) 11 414) (hN : 7 = K.2.2.2.2.2) (hL : Lx E K bb L xs) (w : Int32) (s1 : Int32) (e1 : s1 = xs (w + 1).toNatClampNeg) (n1 : vp_in (w + 1) L) (hl9 : l.stackTraces = false) (r : Int32) (σ1 σ2 : uS) (h1 : F_X11_loud s1 σ = some (.inr 1, σ1)) (h2 : F_X12_loud s1 σ1 = some (r, σ2)) (h3 : σ2 55 9 = 1) (hab : Rm K (a + 1) (b + 6)) (kk : Gd l E K (a + 1) (b + 6) o σ2 2650 [some (.ref bb), some (.ref (E.2.1 0)), some (.ref (E.2.1 55)), some (.ref (E.2.1 92)), some (.int w), none, none] []) : Gd l E K a b o σ 791 [some (.ref bb), some (.ref (E.2.1 0)), some (.ref (E.2.1 55)), some (.ref (E.2.1 92)), some (.int w), none, none] [] := by
  refine g_aload_n (pc := 791) hC dL_law_791 rfl ?_
  refine g_aload_n (pc := 792) hC dL_law_792 rfl ?_
  refine g_iload (pc := 793) hC dL_law_793 rfl ?_
  refine g_iconst (pc := 795) hC ki_1 dL_law_795 ?_
  refine g_iadd (pc := 796) hC dL_law_796 ?_
  refine g_sld (pc := 797) hC hL n1 e1 dL_law_797 ?_
  refine g_aload_n (pc := 798) hC dL_law_798 rfl ?_
  refine g_callH (pc := 799) (As := [.ref (E.2.1 0), .int s1, .ref (E.2.1 92)]) (rest := []) hC (hx_loud_1 l hl9 E s1 σ o σ1 h1) mh_loud lk_L_162 rfl rfl (Nat.le_of_ble_eq_true rfl) ⟨by decide, by decide⟩ hab dL_law_799 ?_
  refine g_istore (lv2 := [some (.ref bb), some (.ref (E.2.1 0)), some (.ref (E.2.1 55)), some (.ref (E.2.1 92)), some (.int w), some (.int 1), none]) (pc := 802) hC dL_law_802 rfl (Or.inr rfl) (by rw [← hN]; decide) ?_
  refine g_aload_n (pc := 804) hC dL_law_804 rfl ?_
  refine g_aload_n (pc := 805) hC dL_law_805 rfl ?_
  refine g_iload (pc := 806) hC dL_law_806 rfl ?_
  refine g_iconst (pc := 808) hC ki_1 dL_law_808 ?_
  refine g_iadd (pc := 809) hC dL_law_809 ?_
  refine g_sld (pc := 810) hC hL n1 e1 dL_law_810 ?_
  refine g_callVi (pc := 811) (As := [.int s1]) (rest := []) hC (c_X12_loud l E s1 σ1 r σ2 h2) mi_X12_loud mv_X12_loud ob_55 rfl rfl lk_L_164 rfl rfl (Nat.le_of_ble_eq_true rfl) ⟨by decide, by decide⟩ hab dL_law_811 ?_
  refine g_istore (lv2 := [some (.ref bb), some (.ref (E.2.1 0)), some (.ref (E.2.1 55)), some (.ref (E.2.1 92)), some (.int w), some (.int 1), some (.int r)]) (pc := 814) hC dL_law_814 rfl (Or.inr rfl) (by rw [← hN]; decide) ?_
  refine g_aload_n (pc := 816) hC dL_law_816 rfl ?_
  refine g_callVi (pc := 817) (As := []) (rest := []) hC (c_X12_thrown l E σ2 _ rfl) mi_X12_thrown mv_X12_thrown ob_55 rfl rfl lk_L_144 rfl rfl (Nat.le_of_ble_eq_true rfl) ⟨by decide, by decide⟩ hab dL_law_817 ?_
  refine g_top h3.symm ?_
  refine g_iload (pc := 820) hC dL_law_820 rfl ?_
  refine g_icmp_eq (tgt := 827) (pc := 822) hC dL_law_822 (by decide) (fun _ => ?_) (fun q => absurd rfl q)
  refine g_iload (pc := 827) hC dL_law_827 rfl ?_
  refine g_if_ne (tgt := 844) (pc := 829) hC dL_law_829 (by decide) (fun _ => ?_) (fun q => absurd q (by decide))
  refine g_goto (tgt := 2650) (pc := 844) hC dL_law_844 (by decide) ?_
  refine g_mask [true, true, true, true, true, false, false] rfl ?_
  exact kk
set_option maxRecDepth 20000 in
theorem law_12_r {l : Launch} {E : uE} {K : uK} {a b : Nat} {o : Int64} {σ : uS} {bb L : Nat} {xs : Nat → Int32} (hC : Cx E K RL cL_law (some .boolean) 11 414) (hN : 7 = K.2.2.2.2.2) (hL : Lx E K bb L xs) (w : Int32) (s1 : Int32) (e1 : s1 = xs (w + 1).toNatClampNeg) (n1 : vp_in (w + 1) L) (r : Int32) (σ1 σ2 : uS) (h1 : F_X11_candidates s1 σ = some (.inl r, σ1)) (h2 : F_X12_candidates s1 σ1 = some (r, σ2)) (h3 : σ2 55 9 = 0) (hab : Rm K a b) (kk : Gd l E K a b r.toInt64 σ2 2650 [some (.ref bb), some (.ref (E.2.1 0)), some (.ref (E.2.1 55)), some (.ref (E.2.1 92)), some (.int w), none, none] []) : Gd l E K a b o σ 847 [some (.ref bb), some (.ref (E.2.1 0)), some (.ref (E.2.1 55)), some (.ref (E.2.1 92)), some (.int w), none, none] [] := by
  refine g_aload_n (pc := 847) hC dL_law_847 rfl ?_
  refine g_aload_n (pc := 848) hC dL_law_848 rfl ?_
  refine g_iload (pc := 849) hC dL_law_849 rfl ?_
  refine g_iconst (pc := 851) hC ki_1 dL_law_851 ?_
  refine g_iadd (pc := 852) hC dL_law_852 ?_
  refine g_sld (pc := 853) hC hL n1 e1 dL_law_853 ?_
  refine g_aload_n (pc := 854) hC dL_law_854 rfl ?_
  refine g_callH (pc := 855) (As := [.ref (E.2.1 0), .int s1, .ref (E.2.1 92)]) (rest := []) hC (hr_candidates l E s1 σ o r σ1 h1) mh_candidates lk_L_165 rfl rfl (Nat.le_of_ble_eq_true rfl) ⟨by decide, by decide⟩ hab dL_law_855 ?_
  refine g_istore (lv2 := [some (.ref bb), some (.ref (E.2.1 0)), some (.ref (E.2.1 55)), some (.ref (E.2.1 92)), some (.int w), some (.int 0), none]) (pc := 858) hC dL_law_858 rfl (Or.inr rfl) (by rw [← hN]; decide) ?_
  refine g_aload_n (pc := 860) hC dL_law_860 rfl ?_
  refine g_aload_n (pc := 861) hC dL_law_861 rfl ?_
  refine g_iload (pc := 862) hC dL_law_862 rfl ?_
  refine g_iconst (pc := 864) hC ki_1 dL_law_864 ?_
  refine g_iadd (pc := 865) hC dL_law_865 ?_
  refine g_sld (pc := 866) hC hL n1 e1 dL_law_866 ?_
  refine g_callVi (pc := 867) (As := [.int s1]) (rest := []) hC (c_X12_candidates l E s1 σ1 r σ2 h2) mi_X12_candidates mv_X12_candidates ob_55 rfl rfl lk_L_167 rfl rfl (Nat.le_of_ble_eq_true rfl) ⟨by decide, by decide⟩ hab dL_law_867 ?_
  refine g_istore (lv2 := [some (.ref bb), some (.ref (E.2.1 0)), some (.ref (E.2.1 55)), some (.ref (E.2.1 92)), some (.int w), some (.int 0), some (.int r)]) (pc := 870) hC dL_law_870 rfl (Or.inr rfl) (by rw [← hN]; decide) ?_
  refine g_aload_n (pc := 872) hC dL_law_872 rfl ?_
  refine g_callVi (pc := 873) (As := []) (rest := []) hC (c_X12_thrown l E σ2 _ rfl) mi_X12_thrown mv_X12_thrown ob_55 rfl rfl lk_L_144 rfl rfl (Nat.le_of_ble_eq_true rfl) ⟨by decide, by decide⟩ hab dL_law_873 ?_
  refine g_top h3.symm ?_
  refine g_iload (pc := 876) hC dL_law_876 rfl ?_
  refine g_icmp_eq (tgt := 883) (pc := 878) hC dL_law_878 (by decide) (fun _ => ?_) (fun q => absurd rfl q)
  refine g_iload (pc := 883) hC dL_law_883 rfl ?_
  refine g_if_ne (tgt := 900) (pc := 885) hC dL_law_885 (by decide) (fun q => absurd rfl q) (fun _ => ?_)
  refine g_aload_n (pc := 888) hC dL_law_888 rfl ?_
  refine g_iconst (pc := 889) hC ki_0 dL_law_889 ?_
  refine g_lald (pc := 890) hC dL_law_890 ?_
  refine g_iload (pc := 891) hC dL_law_891 rfl ?_
  refine g_i2l (pc := 893) hC dL_law_893 ?_
  refine g_lcmp (pc := 894) hC dL_law_894 ?_
  refine g_if_eq (tgt := 900) (pc := 895) hC dL_law_895 (by decide) (fun _ => ?_) (fun q => absurd (lg_cmp_self _) q)
  refine g_goto (tgt := 2650) (pc := 900) hC dL_law_900 (by decide) ?_
  refine g_mask [true, true, true, true, true, false, false] rfl ?_
  exact kk
set_option maxRecDepth 20000 in
theorem law_12_x1 {l : Launch} {E : uE} {K : uK} {a b : Nat} {o : Int64} {σ : uS} {bb L : Nat} {xs : Nat → Int32} (hC : Cx E K RL cL_law (some .boolean) 11 414) (hN : 7 = K.2.2.2.2.2) (hL : Lx E K bb L xs) (w : Int32) (s1 : Int32) (e1 : s1 = xs (w + 1).toNatClampNeg) (n1 : vp_in (w + 1) L) (hl9 : l.stackTraces = false) (r : Int32) (σ1 σ2 : uS) (h1 : F_X11_candidates s1 σ = some (.inr 1, σ1)) (h2 : F_X12_candidates s1 σ1 = some (r, σ2)) (h3 : σ2 55 9 = 1) (hab : Rm K (a + 1) (b + 6)) (kk : Gd l E K (a + 1) (b + 6) o σ2 2650 [some (.ref bb), some (.ref (E.2.1 0)), some (.ref (E.2.1 55)), some (.ref (E.2.1 92)), some (.int w), none, none] []) : Gd l E K a b o σ 847 [some (.ref bb), some (.ref (E.2.1 0)), some (.ref (E.2.1 55)), some (.ref (E.2.1 92)), some (.int w), none, none] [] := by
  refine g_aload_n (pc := 847) hC dL_law_847 rfl ?_
  refine g_aload_n (pc := 848) hC dL_law_848 rfl ?_
  refine g_iload (pc := 849) hC dL_law_849 rfl ?_
  refine g_iconst (pc := 851) hC ki_1 dL_law_851 ?_
  refine g_iadd (pc := 852) hC dL_law_852 ?_
  refine g_sld (pc := 853) hC hL n1 e1 dL_law_853 ?_
  refine g_aload_n (pc := 854) hC dL_law_854 rfl ?_
  refine g_callH (pc := 855) (As := [.ref (E.2.1 0), .int s1, .ref (E.2.1 92)]) (rest := []) hC (hx_candidates_1 l hl9 E s1 σ o σ1 h1) mh_candidates lk_L_165 rfl rfl (Nat.le_of_ble_eq_true rfl) ⟨by decide, by decide⟩ hab dL_law_855 ?_
  refine g_istore (lv2 := [some (.ref bb), some (.ref (E.2.1 0)), some (.ref (E.2.1 55)), some (.ref (E.2.1 92)), some (.int w), some (.int 1), none]) (pc := 858) hC dL_law_858 rfl (Or.inr rfl) (by rw [← hN]; decide) ?_
  refine g_aload_n (pc := 860) hC dL_law_860 rfl ?_
  refine g_aload_n (pc := 861) hC dL_law_861 rfl ?_
  refine g_iload (pc := 862) hC dL_law_862 rfl ?_
  refine g_iconst (pc := 864) hC ki_1 dL_law_864 ?_
  refine g_iadd (pc := 865) hC dL_law_865 ?_
  refine g_sld (pc := 866) hC hL n1 e1 dL_law_866 ?_
  refine g_callVi (pc := 867) (As := [.int s1]) (rest := []) hC (c_X12_candidates l E s1 σ1 r σ2 h2) mi_X12_candidates mv_X12_candidates ob_55 rfl rfl lk_L_167 rfl rfl (Nat.le_of_ble_eq_true rfl) ⟨by decide, by decide⟩ hab dL_law_867 ?_
  refine g_istore (lv2 := [some (.ref bb), some (.ref (E.2.1 0)), some (.ref (E.2.1 55)), some (.ref (E.2.1 92)), some (.int w), some (.int 1), some (.int r)]) (pc := 870) hC dL_law_870 rfl (Or.inr rfl) (by rw [← hN]; decide) ?_
  refine g_aload_n (pc := 872) hC dL_law_872 rfl ?_
  refine g_callVi (pc := 873) (As := []) (rest := []) hC (c_X12_thrown l E σ2 _ rfl) mi_X12_thrown mv_X12_thrown ob_55 rfl rfl lk_L_144 rfl rfl (Nat.le_of_ble_eq_true rfl) ⟨by decide, by decide⟩ hab dL_law_873 ?_
  refine g_top h3.symm ?_
  refine g_iload (pc := 876) hC dL_law_876 rfl ?_
  refine g_icmp_eq (tgt := 883) (pc := 878) hC dL_law_878 (by decide) (fun _ => ?_) (fun q => absurd rfl q)
  refine g_iload (pc := 883) hC dL_law_883 rfl ?_
  refine g_if_ne (tgt := 900) (pc := 885) hC dL_law_885 (by decide) (fun _ => ?_) (fun q => absurd q (by decide))
  refine g_goto (tgt := 2650) (pc := 900) hC dL_law_900 (by decide) ?_
  refine g_mask [true, true, true, true, true, false, false] rfl ?_
  exact kk
set_option maxRecDepth 20000 in
theorem law_13_r {l : Launch} {E : uE} {K : uK} {a b : Nat} {o : Int64} {σ : uS} {bb L : Nat} {xs : Nat → Int32} (hC : Cx E K RL cL_law (some .boolean) 11 414) (hN : 7 = K.2.2.2.2.2) (hL : Lx E K bb L xs) (w : Int32) (s1 : Int32) (e1 : s1 = xs (w + 1).toNatClampNeg) (n1 : vp_in (w + 1) L) (s2 : Int32) (e2 : s2 = xs (w + 2).toNatClampNeg) (n2 : vp_in (w + 2) L) (s3 : Int32) (e3 : s3 = xs (w + 3).toNatClampNeg) (n3 : vp_in (w + 3) L) (r : Int32) (σ1 σ2 : uS) (h1 : F_X11_candidate s1 s2 s3 σ = some (.inl r, σ1)) (h2 : F_X12_candidate s1 s2 s3 σ1 = some (r, σ2)) (h3 : σ2 55 9 = 0) (hab : Rm K a b) (kk : Gd l E K a b r.toInt64 σ2 2650 [some (.ref bb), some (.ref (E.2.1 0)), some (.ref (E.2.1 55)), some (.ref (E.2.1 92)), some (.int w), none, none] []) : Gd l E K a b o σ 903 [some (.ref bb), some (.ref (E.2.1 0)), some (.ref (E.2.1 55)), some (.ref (E.2.1 92)), some (.int w), none, none] [] := by
  refine g_aload_n (pc := 903) hC dL_law_903 rfl ?_
  refine g_aload_n (pc := 904) hC dL_law_904 rfl ?_
  refine g_iload (pc := 905) hC dL_law_905 rfl ?_
  refine g_iconst (pc := 907) hC ki_1 dL_law_907 ?_
  refine g_iadd (pc := 908) hC dL_law_908 ?_
  refine g_sld (pc := 909) hC hL n1 e1 dL_law_909 ?_
  refine g_aload_n (pc := 910) hC dL_law_910 rfl ?_
  refine g_iload (pc := 911) hC dL_law_911 rfl ?_
  refine g_iconst (pc := 913) hC ki_2 dL_law_913 ?_
  refine g_iadd (pc := 914) hC dL_law_914 ?_
  refine g_sld (pc := 915) hC hL n2 e2 dL_law_915 ?_
  refine g_aload_n (pc := 916) hC dL_law_916 rfl ?_
  refine g_iload (pc := 917) hC dL_law_917 rfl ?_
  refine g_iconst (pc := 919) hC ki_3 dL_law_919 ?_
  refine g_iadd (pc := 920) hC dL_law_920 ?_
  refine g_sld (pc := 921) hC hL n3 e3 dL_law_921 ?_
  refine g_aload_n (pc := 922) hC dL_law_922 rfl ?_
  refine g_callH (pc := 923) (As := [.ref (E.2.1 0), .int s1, .int s2, .int s3, .ref (E.2.1 92)]) (rest := []) hC (hr_candidate l E s1 s2 s3 σ o r σ1 h1) mh_candidate lk_L_168 rfl rfl (Nat.le_of_ble_eq_true rfl) ⟨by decide, by decide⟩ hab dL_law_923 ?_
  refine g_istore (lv2 := [some (.ref bb), some (.ref (E.2.1 0)), some (.ref (E.2.1 55)), some (.ref (E.2.1 92)), some (.int w), some (.int 0), none]) (pc := 926) hC dL_law_926 rfl (Or.inr rfl) (by rw [← hN]; decide) ?_
  refine g_aload_n (pc := 928) hC dL_law_928 rfl ?_
  refine g_aload_n (pc := 929) hC dL_law_929 rfl ?_
  refine g_iload (pc := 930) hC dL_law_930 rfl ?_
  refine g_iconst (pc := 932) hC ki_1 dL_law_932 ?_
  refine g_iadd (pc := 933) hC dL_law_933 ?_
  refine g_sld (pc := 934) hC hL n1 e1 dL_law_934 ?_
  refine g_aload_n (pc := 935) hC dL_law_935 rfl ?_
  refine g_iload (pc := 936) hC dL_law_936 rfl ?_
  refine g_iconst (pc := 938) hC ki_2 dL_law_938 ?_
  refine g_iadd (pc := 939) hC dL_law_939 ?_
  refine g_sld (pc := 940) hC hL n2 e2 dL_law_940 ?_
  refine g_aload_n (pc := 941) hC dL_law_941 rfl ?_
  refine g_iload (pc := 942) hC dL_law_942 rfl ?_
  refine g_iconst (pc := 944) hC ki_3 dL_law_944 ?_
  refine g_iadd (pc := 945) hC dL_law_945 ?_
  refine g_sld (pc := 946) hC hL n3 e3 dL_law_946 ?_
  refine g_callVi (pc := 947) (As := [.int s1, .int s2, .int s3]) (rest := []) hC (c_X12_candidate l E s1 s2 s3 σ1 r σ2 h2) mi_X12_candidate mv_X12_candidate ob_55 rfl rfl lk_L_171 rfl rfl (Nat.le_of_ble_eq_true rfl) ⟨by decide, by decide⟩ hab dL_law_947 ?_
  refine g_istore (lv2 := [some (.ref bb), some (.ref (E.2.1 0)), some (.ref (E.2.1 55)), some (.ref (E.2.1 92)), some (.int w), some (.int 0), some (.int r)]) (pc := 950) hC dL_law_950 rfl (Or.inr rfl) (by rw [← hN]; decide) ?_
  refine g_aload_n (pc := 952) hC dL_law_952 rfl ?_
  refine g_callVi (pc := 953) (As := []) (rest := []) hC (c_X12_thrown l E σ2 _ rfl) mi_X12_thrown mv_X12_thrown ob_55 rfl rfl lk_L_144 rfl rfl (Nat.le_of_ble_eq_true rfl) ⟨by decide, by decide⟩ hab dL_law_953 ?_
  refine g_top h3.symm ?_
  refine g_iload (pc := 956) hC dL_law_956 rfl ?_
  refine g_icmp_eq (tgt := 963) (pc := 958) hC dL_law_958 (by decide) (fun _ => ?_) (fun q => absurd rfl q)
  refine g_iload (pc := 963) hC dL_law_963 rfl ?_
  refine g_if_ne (tgt := 980) (pc := 965) hC dL_law_965 (by decide) (fun q => absurd rfl q) (fun _ => ?_)
  refine g_aload_n (pc := 968) hC dL_law_968 rfl ?_
  refine g_iconst (pc := 969) hC ki_0 dL_law_969 ?_
  refine g_lald (pc := 970) hC dL_law_970 ?_
  refine g_iload (pc := 971) hC dL_law_971 rfl ?_
  refine g_i2l (pc := 973) hC dL_law_973 ?_
  refine g_lcmp (pc := 974) hC dL_law_974 ?_
  refine g_if_eq (tgt := 980) (pc := 975) hC dL_law_975 (by decide) (fun _ => ?_) (fun q => absurd (lg_cmp_self _) q)
  refine g_goto (tgt := 2650) (pc := 980) hC dL_law_980 (by decide) ?_
  refine g_mask [true, true, true, true, true, false, false] rfl ?_
  exact kk
set_option maxRecDepth 20000 in
theorem law_13_x1 {l : Launch} {E : uE} {K : uK} {a b : Nat} {o : Int64} {σ : uS} {bb L : Nat} {xs : Nat → Int32} (hC : Cx E K RL cL_law (some .boolean) 11 414) (hN : 7 = K.2.2.2.2.2) (hL : Lx E K bb L xs) (w : Int32) (s1 : Int32) (e1 : s1 = xs (w + 1).toNatClampNeg) (n1 : vp_in (w + 1) L) (s2 : Int32) (e2 : s2 = xs (w + 2).toNatClampNeg) (n2 : vp_in (w + 2) L) (s3 : Int32) (e3 : s3 = xs (w + 3).toNatClampNeg) (n3 : vp_in (w + 3) L) (hl9 : l.stackTraces = false) (r : Int32) (σ1 σ2 : uS) (h1 : F_X11_candidate s1 s2 s3 σ = some (.inr 1, σ1)) (h2 : F_X12_candidate s1 s2 s3 σ1 = some (r, σ2)) (h3 : σ2 55 9 = 1) (hab : Rm K (a + 1) (b + 6)) (kk : Gd l E K (a + 1) (b + 6) o σ2 2650 [some (.ref bb), some (.ref (E.2.1 0)), some (.ref (E.2.1 55)), some (.ref (E.2.1 92)), some (.int w), none, none] []) : Gd l E K a b o σ 903 [some (.ref bb), some (.ref (E.2.1 0)), some (.ref (E.2.1 55)), some (.ref (E.2.1 92)), some (.int w), none, none] [] := by
  refine g_aload_n (pc := 903) hC dL_law_903 rfl ?_
  refine g_aload_n (pc := 904) hC dL_law_904 rfl ?_
  refine g_iload (pc := 905) hC dL_law_905 rfl ?_
  refine g_iconst (pc := 907) hC ki_1 dL_law_907 ?_
  refine g_iadd (pc := 908) hC dL_law_908 ?_
  refine g_sld (pc := 909) hC hL n1 e1 dL_law_909 ?_
  refine g_aload_n (pc := 910) hC dL_law_910 rfl ?_
  refine g_iload (pc := 911) hC dL_law_911 rfl ?_
  refine g_iconst (pc := 913) hC ki_2 dL_law_913 ?_
  refine g_iadd (pc := 914) hC dL_law_914 ?_
  refine g_sld (pc := 915) hC hL n2 e2 dL_law_915 ?_
  refine g_aload_n (pc := 916) hC dL_law_916 rfl ?_
  refine g_iload (pc := 917) hC dL_law_917 rfl ?_
  refine g_iconst (pc := 919) hC ki_3 dL_law_919 ?_
  refine g_iadd (pc := 920) hC dL_law_920 ?_
  refine g_sld (pc := 921) hC hL n3 e3 dL_law_921 ?_
  refine g_aload_n (pc := 922) hC dL_law_922 rfl ?_
  refine g_callH (pc := 923) (As := [.ref (E.2.1 0), .int s1, .int s2, .int s3, .ref (E.2.1 92)]) (rest := []) hC (hx_candidate_1 l hl9 E s1 s2 s3 σ o σ1 h1) mh_candidate lk_L_168 rfl rfl (Nat.le_of_ble_eq_true rfl) ⟨by decide, by decide⟩ hab dL_law_923 ?_
  refine g_istore (lv2 := [some (.ref bb), some (.ref (E.2.1 0)), some (.ref (E.2.1 55)), some (.ref (E.2.1 92)), some (.int w), some (.int 1), none]) (pc := 926) hC dL_law_926 rfl (Or.inr rfl) (by rw [← hN]; decide) ?_
  refine g_aload_n (pc := 928) hC dL_law_928 rfl ?_
  refine g_aload_n (pc := 929) hC dL_law_929 rfl ?_
  refine g_iload (pc := 930) hC dL_law_930 rfl ?_
  refine g_iconst (pc := 932) hC ki_1 dL_law_932 ?_
  refine g_iadd (pc := 933) hC dL_law_933 ?_
  refine g_sld (pc := 934) hC hL n1 e1 dL_law_934 ?_
  refine g_aload_n (pc := 935) hC dL_law_935 rfl ?_
  refine g_iload (pc := 936) hC dL_law_936 rfl ?_
  refine g_iconst (pc := 938) hC ki_2 dL_law_938 ?_
  refine g_iadd (pc := 939) hC dL_law_939 ?_
  refine g_sld (pc := 940) hC hL n2 e2 dL_law_940 ?_
  refine g_aload_n (pc := 941) hC dL_law_941 rfl ?_
  refine g_iload (pc := 942) hC dL_law_942 rfl ?_
  refine g_iconst (pc := 944) hC ki_3 dL_law_944 ?_
  refine g_iadd (pc := 945) hC dL_law_945 ?_
  refine g_sld (pc := 946) hC hL n3 e3 dL_law_946 ?_
  refine g_callVi (pc := 947) (As := [.int s1, .int s2, .int s3]) (rest := []) hC (c_X12_candidate l E s1 s2 s3 σ1 r σ2 h2) mi_X12_candidate mv_X12_candidate ob_55 rfl rfl lk_L_171 rfl rfl (Nat.le_of_ble_eq_true rfl) ⟨by decide, by decide⟩ hab dL_law_947 ?_
  refine g_istore (lv2 := [some (.ref bb), some (.ref (E.2.1 0)), some (.ref (E.2.1 55)), some (.ref (E.2.1 92)), some (.int w), some (.int 1), some (.int r)]) (pc := 950) hC dL_law_950 rfl (Or.inr rfl) (by rw [← hN]; decide) ?_
  refine g_aload_n (pc := 952) hC dL_law_952 rfl ?_
  refine g_callVi (pc := 953) (As := []) (rest := []) hC (c_X12_thrown l E σ2 _ rfl) mi_X12_thrown mv_X12_thrown ob_55 rfl rfl lk_L_144 rfl rfl (Nat.le_of_ble_eq_true rfl) ⟨by decide, by decide⟩ hab dL_law_953 ?_
  refine g_top h3.symm ?_
  refine g_iload (pc := 956) hC dL_law_956 rfl ?_
  refine g_icmp_eq (tgt := 963) (pc := 958) hC dL_law_958 (by decide) (fun _ => ?_) (fun q => absurd rfl q)
  refine g_iload (pc := 963) hC dL_law_963 rfl ?_
  refine g_if_ne (tgt := 980) (pc := 965) hC dL_law_965 (by decide) (fun _ => ?_) (fun q => absurd q (by decide))
  refine g_goto (tgt := 2650) (pc := 980) hC dL_law_980 (by decide) ?_
  refine g_mask [true, true, true, true, true, false, false] rfl ?_
  exact kk
set_option maxRecDepth 20000 in
theorem law_14_r {l : Launch} {E : uE} {K : uK} {a b : Nat} {o : Int64} {σ : uS} {bb L : Nat} {xs : Nat → Int32} (hC : Cx E K RL cL_law (some .boolean) 11 414) (hN : 7 = K.2.2.2.2.2) (hL : Lx E K bb L xs) (w : Int32) (s1 : Int32) (e1 : s1 = xs (w + 1).toNatClampNeg) (n1 : vp_in (w + 1) L) (s2 : Int32) (e2 : s2 = xs (w + 2).toNatClampNeg) (n2 : vp_in (w + 2) L) (s3 : Int32) (e3 : s3 = xs (w + 3).toNatClampNeg) (n3 : vp_in (w + 3) L) (z3 : Int32) (f3 : z3 = if s3 = 0 then 0 else 1) (r : Int32) (σ1 σ2 : uS) (h1 : F_X11_fine s1 s2 z3 σ = some (.inl r, σ1)) (h2 : F_X12_fine s1 s2 z3 σ1 = some (r, σ2)) (h3 : σ2 55 9 = 0) (hab : Rm K a b) (kk : Gd l E K a b r.toInt64 σ2 2650 [some (.ref bb), some (.ref (E.2.1 0)), some (.ref (E.2.1 55)), some (.ref (E.2.1 92)), some (.int w), none, none] []) : Gd l E K a b o σ 983 [some (.ref bb), some (.ref (E.2.1 0)), some (.ref (E.2.1 55)), some (.ref (E.2.1 92)), some (.int w), none, none] [] := by
  refine g_aload_n (pc := 983) hC dL_law_983 rfl ?_
  refine g_aload_n (pc := 984) hC dL_law_984 rfl ?_
  refine g_iload (pc := 985) hC dL_law_985 rfl ?_
  refine g_iconst (pc := 987) hC ki_1 dL_law_987 ?_
  refine g_iadd (pc := 988) hC dL_law_988 ?_
  refine g_sld (pc := 989) hC hL n1 e1 dL_law_989 ?_
  refine g_aload_n (pc := 990) hC dL_law_990 rfl ?_
  refine g_iload (pc := 991) hC dL_law_991 rfl ?_
  refine g_iconst (pc := 993) hC ki_2 dL_law_993 ?_
  refine g_iadd (pc := 994) hC dL_law_994 ?_
  refine g_sld (pc := 995) hC hL n2 e2 dL_law_995 ?_
  refine g_aload_n (pc := 996) hC dL_law_996 rfl ?_
  refine g_iload (pc := 997) hC dL_law_997 rfl ?_
  refine g_iconst (pc := 999) hC ki_3 dL_law_999 ?_
  refine g_iadd (pc := 1000) hC dL_law_1000 ?_
  refine g_sld (pc := 1001) hC hL n3 e3 dL_law_1001 ?_
  have hJ1010 : Gd l E K a b o σ 1010 [some (.ref bb), some (.ref (E.2.1 0)), some (.ref (E.2.1 55)), some (.ref (E.2.1 92)), some (.int w), none, none] [.int z3, .int s2, .int s1, .ref (E.2.1 0)] := ?J1010
  · refine g_if_eq (tgt := 1009) (pc := 1002) hC dL_law_1002 (by decide) (fun q => ?_) (fun q => ?_)
    · refine g_iconst (pc := 1009) hC ki_0 dL_law_1009 ?_
      exact g_top (f3.trans (if_pos q)) hJ1010
    · refine g_iconst (pc := 1005) hC ki_1 dL_law_1005 ?_
      refine g_goto (tgt := 1010) (pc := 1006) hC dL_law_1006 (by decide) ?_
      exact g_top (f3.trans (if_neg q)) hJ1010
  refine g_aload_n (pc := 1010) hC dL_law_1010 rfl ?_
  refine g_callH (pc := 1011) (As := [.ref (E.2.1 0), .int s1, .int s2, .int z3, .ref (E.2.1 92)]) (rest := []) hC (hr_fine l E s1 s2 z3 σ o r σ1 h1) mh_fine lk_L_172 rfl rfl (Nat.le_of_ble_eq_true rfl) ⟨by decide, by decide⟩ hab dL_law_1011 ?_
  refine g_istore (lv2 := [some (.ref bb), some (.ref (E.2.1 0)), some (.ref (E.2.1 55)), some (.ref (E.2.1 92)), some (.int w), some (.int 0), none]) (pc := 1014) hC dL_law_1014 rfl (Or.inr rfl) (by rw [← hN]; decide) ?_
  refine g_aload_n (pc := 1016) hC dL_law_1016 rfl ?_
  refine g_aload_n (pc := 1017) hC dL_law_1017 rfl ?_
  refine g_iload (pc := 1018) hC dL_law_1018 rfl ?_
  refine g_iconst (pc := 1020) hC ki_1 dL_law_1020 ?_
  refine g_iadd (pc := 1021) hC dL_law_1021 ?_
  refine g_sld (pc := 1022) hC hL n1 e1 dL_law_1022 ?_
  refine g_aload_n (pc := 1023) hC dL_law_1023 rfl ?_
  refine g_iload (pc := 1024) hC dL_law_1024 rfl ?_
  refine g_iconst (pc := 1026) hC ki_2 dL_law_1026 ?_
  refine g_iadd (pc := 1027) hC dL_law_1027 ?_
  refine g_sld (pc := 1028) hC hL n2 e2 dL_law_1028 ?_
  refine g_aload_n (pc := 1029) hC dL_law_1029 rfl ?_
  refine g_iload (pc := 1030) hC dL_law_1030 rfl ?_
  refine g_iconst (pc := 1032) hC ki_3 dL_law_1032 ?_
  refine g_iadd (pc := 1033) hC dL_law_1033 ?_
  refine g_sld (pc := 1034) hC hL n3 e3 dL_law_1034 ?_
  have hJ1043 : Gd l E K a b r.toInt64 σ1 1043 [some (.ref bb), some (.ref (E.2.1 0)), some (.ref (E.2.1 55)), some (.ref (E.2.1 92)), some (.int w), some (.int 0), none] [.int z3, .int s2, .int s1, .ref (E.2.1 55)] := ?J1043
  · refine g_if_eq (tgt := 1042) (pc := 1035) hC dL_law_1035 (by decide) (fun q => ?_) (fun q => ?_)
    · refine g_iconst (pc := 1042) hC ki_0 dL_law_1042 ?_
      exact g_top (f3.trans (if_pos q)) hJ1043
    · refine g_iconst (pc := 1038) hC ki_1 dL_law_1038 ?_
      refine g_goto (tgt := 1043) (pc := 1039) hC dL_law_1039 (by decide) ?_
      exact g_top (f3.trans (if_neg q)) hJ1043
  refine g_callVi (pc := 1043) (As := [.int s1, .int s2, .int z3]) (rest := []) hC (c_X12_fine l E s1 s2 z3 σ1 r σ2 h2) mi_X12_fine mv_X12_fine ob_55 rfl rfl lk_L_175 rfl rfl (Nat.le_of_ble_eq_true rfl) ⟨by decide, by decide⟩ hab dL_law_1043 ?_
  refine g_istore (lv2 := [some (.ref bb), some (.ref (E.2.1 0)), some (.ref (E.2.1 55)), some (.ref (E.2.1 92)), some (.int w), some (.int 0), some (.int r)]) (pc := 1046) hC dL_law_1046 rfl (Or.inr rfl) (by rw [← hN]; decide) ?_
  refine g_aload_n (pc := 1048) hC dL_law_1048 rfl ?_
  refine g_callVi (pc := 1049) (As := []) (rest := []) hC (c_X12_thrown l E σ2 _ rfl) mi_X12_thrown mv_X12_thrown ob_55 rfl rfl lk_L_144 rfl rfl (Nat.le_of_ble_eq_true rfl) ⟨by decide, by decide⟩ hab dL_law_1049 ?_
  refine g_top h3.symm ?_
  refine g_iload (pc := 1052) hC dL_law_1052 rfl ?_
  refine g_icmp_eq (tgt := 1059) (pc := 1054) hC dL_law_1054 (by decide) (fun _ => ?_) (fun q => absurd rfl q)
  refine g_iload (pc := 1059) hC dL_law_1059 rfl ?_
  refine g_if_ne (tgt := 1076) (pc := 1061) hC dL_law_1061 (by decide) (fun q => absurd rfl q) (fun _ => ?_)
  refine g_aload_n (pc := 1064) hC dL_law_1064 rfl ?_
  refine g_iconst (pc := 1065) hC ki_0 dL_law_1065 ?_
  refine g_lald (pc := 1066) hC dL_law_1066 ?_
  refine g_iload (pc := 1067) hC dL_law_1067 rfl ?_
  refine g_i2l (pc := 1069) hC dL_law_1069 ?_
  refine g_lcmp (pc := 1070) hC dL_law_1070 ?_
  refine g_if_eq (tgt := 1076) (pc := 1071) hC dL_law_1071 (by decide) (fun _ => ?_) (fun q => absurd (lg_cmp_self _) q)
  refine g_goto (tgt := 2650) (pc := 1076) hC dL_law_1076 (by decide) ?_
  refine g_mask [true, true, true, true, true, false, false] rfl ?_
  exact kk
set_option maxRecDepth 20000 in
theorem law_14_x1 {l : Launch} {E : uE} {K : uK} {a b : Nat} {o : Int64} {σ : uS} {bb L : Nat} {xs : Nat → Int32} (hC : Cx E K RL cL_law (some .boolean) 11 414) (hN : 7 = K.2.2.2.2.2) (hL : Lx E K bb L xs) (w : Int32) (s1 : Int32) (e1 : s1 = xs (w + 1).toNatClampNeg) (n1 : vp_in (w + 1) L) (s2 : Int32) (e2 : s2 = xs (w + 2).toNatClampNeg) (n2 : vp_in (w + 2) L) (s3 : Int32) (e3 : s3 = xs (w + 3).toNatClampNeg) (n3 : vp_in (w + 3) L) (z3 : Int32) (f3 : z3 = if s3 = 0 then 0 else 1) (hl9 : l.stackTraces = false) (r : Int32) (σ1 σ2 : uS) (h1 : F_X11_fine s1 s2 z3 σ = some (.inr 1, σ1)) (h2 : F_X12_fine s1 s2 z3 σ1 = some (r, σ2)) (h3 : σ2 55 9 = 1) (hab : Rm K (a + 1) (b + 6)) (kk : Gd l E K (a + 1) (b + 6) o σ2 2650 [some (.ref bb), some (.ref (E.2.1 0)), some (.ref (E.2.1 55)), some (.ref (E.2.1 92)), some (.int w), none, none] []) : Gd l E K a b o σ 983 [some (.ref bb), some (.ref (E.2.1 0)), some (.ref (E.2.1 55)), some (.ref (E.2.1 92)), some (.int w), none, none] [] := by
  refine g_aload_n (pc := 983) hC dL_law_983 rfl ?_
  refine g_aload_n (pc := 984) hC dL_law_984 rfl ?_
  refine g_iload (pc := 985) hC dL_law_985 rfl ?_
  refine g_iconst (pc := 987) hC ki_1 dL_law_987 ?_
  refine g_iadd (pc := 988) hC dL_law_988 ?_
  refine g_sld (pc := 989) hC hL n1 e1 dL_law_989 ?_
  refine g_aload_n (pc := 990) hC dL_law_990 rfl ?_
  refine g_iload (pc := 991) hC dL_law_991 rfl ?_
  refine g_iconst (pc := 993) hC ki_2 dL_law_993 ?_
  refine g_iadd (pc := 994) hC dL_law_994 ?_
  refine g_sld (pc := 995) hC hL n2 e2 dL_law_995 ?_
  refine g_aload_n (pc := 996) hC dL_law_996 rfl ?_
  refine g_iload (pc := 997) hC dL_law_997 rfl ?_
  refine g_iconst (pc := 999) hC ki_3 dL_law_999 ?_
  refine g_iadd (pc := 1000) hC dL_law_1000 ?_
  refine g_sld (pc := 1001) hC hL n3 e3 dL_law_1001 ?_
  have hJ1010 : Gd l E K a b o σ 1010 [some (.ref bb), some (.ref (E.2.1 0)), some (.ref (E.2.1 55)), some (.ref (E.2.1 92)), some (.int w), none, none] [.int z3, .int s2, .int s1, .ref (E.2.1 0)] := ?J1010
  · refine g_if_eq (tgt := 1009) (pc := 1002) hC dL_law_1002 (by decide) (fun q => ?_) (fun q => ?_)
    · refine g_iconst (pc := 1009) hC ki_0 dL_law_1009 ?_
      exact g_top (f3.trans (if_pos q)) hJ1010
    · refine g_iconst (pc := 1005) hC ki_1 dL_law_1005 ?_
      refine g_goto (tgt := 1010) (pc := 1006) hC dL_law_1006 (by decide) ?_
      exact g_top (f3.trans (if_neg q)) hJ1010
  refine g_aload_n (pc := 1010) hC dL_law_1010 rfl ?_
  refine g_callH (pc := 1011) (As := [.ref (E.2.1 0), .int s1, .int s2, .int z3, .ref (E.2.1 92)]) (rest := []) hC (hx_fine_1 l hl9 E s1 s2 z3 σ o σ1 h1) mh_fine lk_L_172 rfl rfl (Nat.le_of_ble_eq_true rfl) ⟨by decide, by decide⟩ hab dL_law_1011 ?_
  refine g_istore (lv2 := [some (.ref bb), some (.ref (E.2.1 0)), some (.ref (E.2.1 55)), some (.ref (E.2.1 92)), some (.int w), some (.int 1), none]) (pc := 1014) hC dL_law_1014 rfl (Or.inr rfl) (by rw [← hN]; decide) ?_
  refine g_aload_n (pc := 1016) hC dL_law_1016 rfl ?_
  refine g_aload_n (pc := 1017) hC dL_law_1017 rfl ?_
  refine g_iload (pc := 1018) hC dL_law_1018 rfl ?_
  refine g_iconst (pc := 1020) hC ki_1 dL_law_1020 ?_
  refine g_iadd (pc := 1021) hC dL_law_1021 ?_
  refine g_sld (pc := 1022) hC hL n1 e1 dL_law_1022 ?_
  refine g_aload_n (pc := 1023) hC dL_law_1023 rfl ?_
  refine g_iload (pc := 1024) hC dL_law_1024 rfl ?_
  refine g_iconst (pc := 1026) hC ki_2 dL_law_1026 ?_
  refine g_iadd (pc := 1027) hC dL_law_1027 ?_
  refine g_sld (pc := 1028) hC hL n2 e2 dL_law_1028 ?_
  refine g_aload_n (pc := 1029) hC dL_law_1029 rfl ?_
  refine g_iload (pc := 1030) hC dL_law_1030 rfl ?_
  refine g_iconst (pc := 1032) hC ki_3 dL_law_1032 ?_
  refine g_iadd (pc := 1033) hC dL_law_1033 ?_
  refine g_sld (pc := 1034) hC hL n3 e3 dL_law_1034 ?_
  have hJ1043 : Gd l E K (a + 1) (b + 6) o σ1 1043 [some (.ref bb), some (.ref (E.2.1 0)), some (.ref (E.2.1 55)), some (.ref (E.2.1 92)), some (.int w), some (.int 1), none] [.int z3, .int s2, .int s1, .ref (E.2.1 55)] := ?J1043
  · refine g_if_eq (tgt := 1042) (pc := 1035) hC dL_law_1035 (by decide) (fun q => ?_) (fun q => ?_)
    · refine g_iconst (pc := 1042) hC ki_0 dL_law_1042 ?_
      exact g_top (f3.trans (if_pos q)) hJ1043
    · refine g_iconst (pc := 1038) hC ki_1 dL_law_1038 ?_
      refine g_goto (tgt := 1043) (pc := 1039) hC dL_law_1039 (by decide) ?_
      exact g_top (f3.trans (if_neg q)) hJ1043
  refine g_callVi (pc := 1043) (As := [.int s1, .int s2, .int z3]) (rest := []) hC (c_X12_fine l E s1 s2 z3 σ1 r σ2 h2) mi_X12_fine mv_X12_fine ob_55 rfl rfl lk_L_175 rfl rfl (Nat.le_of_ble_eq_true rfl) ⟨by decide, by decide⟩ hab dL_law_1043 ?_
  refine g_istore (lv2 := [some (.ref bb), some (.ref (E.2.1 0)), some (.ref (E.2.1 55)), some (.ref (E.2.1 92)), some (.int w), some (.int 1), some (.int r)]) (pc := 1046) hC dL_law_1046 rfl (Or.inr rfl) (by rw [← hN]; decide) ?_
  refine g_aload_n (pc := 1048) hC dL_law_1048 rfl ?_
  refine g_callVi (pc := 1049) (As := []) (rest := []) hC (c_X12_thrown l E σ2 _ rfl) mi_X12_thrown mv_X12_thrown ob_55 rfl rfl lk_L_144 rfl rfl (Nat.le_of_ble_eq_true rfl) ⟨by decide, by decide⟩ hab dL_law_1049 ?_
  refine g_top h3.symm ?_
  refine g_iload (pc := 1052) hC dL_law_1052 rfl ?_
  refine g_icmp_eq (tgt := 1059) (pc := 1054) hC dL_law_1054 (by decide) (fun _ => ?_) (fun q => absurd rfl q)
  refine g_iload (pc := 1059) hC dL_law_1059 rfl ?_
  refine g_if_ne (tgt := 1076) (pc := 1061) hC dL_law_1061 (by decide) (fun _ => ?_) (fun q => absurd q (by decide))
  refine g_goto (tgt := 2650) (pc := 1076) hC dL_law_1076 (by decide) ?_
  refine g_mask [true, true, true, true, true, false, false] rfl ?_
  exact kk
set_option maxRecDepth 20000 in
theorem law_15_r {l : Launch} {E : uE} {K : uK} {a b : Nat} {o : Int64} {σ : uS} {bb L : Nat} {xs : Nat → Int32} (hC : Cx E K RL cL_law (some .boolean) 11 414) (hN : 7 = K.2.2.2.2.2) (hL : Lx E K bb L xs) (w : Int32) (s1 : Int32) (e1 : s1 = xs (w + 1).toNatClampNeg) (n1 : vp_in (w + 1) L) (r : Int32) (σ1 σ2 : uS) (h1 : F_X11_cost s1 σ = some (.inl r, σ1)) (h2 : F_X12_cost s1 σ1 = some (r, σ2)) (h3 : σ2 55 9 = 0) (hab : Rm K a b) (kk : Gd l E K a b r.toInt64 σ2 2650 [some (.ref bb), some (.ref (E.2.1 0)), some (.ref (E.2.1 55)), some (.ref (E.2.1 92)), some (.int w), none, none] []) : Gd l E K a b o σ 1079 [some (.ref bb), some (.ref (E.2.1 0)), some (.ref (E.2.1 55)), some (.ref (E.2.1 92)), some (.int w), none, none] [] := by
  refine g_aload_n (pc := 1079) hC dL_law_1079 rfl ?_
  refine g_aload_n (pc := 1080) hC dL_law_1080 rfl ?_
  refine g_iload (pc := 1081) hC dL_law_1081 rfl ?_
  refine g_iconst (pc := 1083) hC ki_1 dL_law_1083 ?_
  refine g_iadd (pc := 1084) hC dL_law_1084 ?_
  refine g_sld (pc := 1085) hC hL n1 e1 dL_law_1085 ?_
  refine g_aload_n (pc := 1086) hC dL_law_1086 rfl ?_
  refine g_callH (pc := 1087) (As := [.ref (E.2.1 0), .int s1, .ref (E.2.1 92)]) (rest := []) hC (hr_cost l E s1 σ o r σ1 h1) mh_cost lk_L_176 rfl rfl (Nat.le_of_ble_eq_true rfl) ⟨by decide, by decide⟩ hab dL_law_1087 ?_
  refine g_istore (lv2 := [some (.ref bb), some (.ref (E.2.1 0)), some (.ref (E.2.1 55)), some (.ref (E.2.1 92)), some (.int w), some (.int 0), none]) (pc := 1090) hC dL_law_1090 rfl (Or.inr rfl) (by rw [← hN]; decide) ?_
  refine g_aload_n (pc := 1092) hC dL_law_1092 rfl ?_
  refine g_aload_n (pc := 1093) hC dL_law_1093 rfl ?_
  refine g_iload (pc := 1094) hC dL_law_1094 rfl ?_
  refine g_iconst (pc := 1096) hC ki_1 dL_law_1096 ?_
  refine g_iadd (pc := 1097) hC dL_law_1097 ?_
  refine g_sld (pc := 1098) hC hL n1 e1 dL_law_1098 ?_
  refine g_callVi (pc := 1099) (As := [.int s1]) (rest := []) hC (c_X12_cost l E s1 σ1 r σ2 h2) mi_X12_cost mv_X12_cost ob_55 rfl rfl lk_L_178 rfl rfl (Nat.le_of_ble_eq_true rfl) ⟨by decide, by decide⟩ hab dL_law_1099 ?_
  refine g_istore (lv2 := [some (.ref bb), some (.ref (E.2.1 0)), some (.ref (E.2.1 55)), some (.ref (E.2.1 92)), some (.int w), some (.int 0), some (.int r)]) (pc := 1102) hC dL_law_1102 rfl (Or.inr rfl) (by rw [← hN]; decide) ?_
  refine g_aload_n (pc := 1104) hC dL_law_1104 rfl ?_
  refine g_callVi (pc := 1105) (As := []) (rest := []) hC (c_X12_thrown l E σ2 _ rfl) mi_X12_thrown mv_X12_thrown ob_55 rfl rfl lk_L_144 rfl rfl (Nat.le_of_ble_eq_true rfl) ⟨by decide, by decide⟩ hab dL_law_1105 ?_
  refine g_top h3.symm ?_
  refine g_iload (pc := 1108) hC dL_law_1108 rfl ?_
  refine g_icmp_eq (tgt := 1115) (pc := 1110) hC dL_law_1110 (by decide) (fun _ => ?_) (fun q => absurd rfl q)
  refine g_iload (pc := 1115) hC dL_law_1115 rfl ?_
  refine g_if_ne (tgt := 1132) (pc := 1117) hC dL_law_1117 (by decide) (fun q => absurd rfl q) (fun _ => ?_)
  refine g_aload_n (pc := 1120) hC dL_law_1120 rfl ?_
  refine g_iconst (pc := 1121) hC ki_0 dL_law_1121 ?_
  refine g_lald (pc := 1122) hC dL_law_1122 ?_
  refine g_iload (pc := 1123) hC dL_law_1123 rfl ?_
  refine g_i2l (pc := 1125) hC dL_law_1125 ?_
  refine g_lcmp (pc := 1126) hC dL_law_1126 ?_
  refine g_if_eq (tgt := 1132) (pc := 1127) hC dL_law_1127 (by decide) (fun _ => ?_) (fun q => absurd (lg_cmp_self _) q)
  refine g_goto (tgt := 2650) (pc := 1132) hC dL_law_1132 (by decide) ?_
  refine g_mask [true, true, true, true, true, false, false] rfl ?_
  exact kk
set_option maxRecDepth 20000 in
theorem law_15_x1 {l : Launch} {E : uE} {K : uK} {a b : Nat} {o : Int64} {σ : uS} {bb L : Nat} {xs : Nat → Int32} (hC : Cx E K RL cL_law (some .boolean) 11 414) (hN : 7 = K.2.2.2.2.2) (hL : Lx E K bb L xs) (w : Int32) (s1 : Int32) (e1 : s1 = xs (w + 1).toNatClampNeg) (n1 : vp_in (w + 1) L) (hl9 : l.stackTraces = false) (r : Int32) (σ1 σ2 : uS) (h1 : F_X11_cost s1 σ = some (.inr 1, σ1)) (h2 : F_X12_cost s1 σ1 = some (r, σ2)) (h3 : σ2 55 9 = 1) (hab : Rm K (a + 1) (b + 6)) (kk : Gd l E K (a + 1) (b + 6) o σ2 2650 [some (.ref bb), some (.ref (E.2.1 0)), some (.ref (E.2.1 55)), some (.ref (E.2.1 92)), some (.int w), none, none] []) : Gd l E K a b o σ 1079 [some (.ref bb), some (.ref (E.2.1 0)), some (.ref (E.2.1 55)), some (.ref (E.2.1 92)), some (.int w), none, none] [] := by
  refine g_aload_n (pc := 1079) hC dL_law_1079 rfl ?_
  refine g_aload_n (pc := 1080) hC dL_law_1080 rfl ?_
  refine g_iload (pc := 1081) hC dL_law_1081 rfl ?_
  refine g_iconst (pc := 1083) hC ki_1 dL_law_1083 ?_
  refine g_iadd (pc := 1084) hC dL_law_1084 ?_
  refine g_sld (pc := 1085) hC hL n1 e1 dL_law_1085 ?_
  refine g_aload_n (pc := 1086) hC dL_law_1086 rfl ?_
  refine g_callH (pc := 1087) (As := [.ref (E.2.1 0), .int s1, .ref (E.2.1 92)]) (rest := []) hC (hx_cost_1 l hl9 E s1 σ o σ1 h1) mh_cost lk_L_176 rfl rfl (Nat.le_of_ble_eq_true rfl) ⟨by decide, by decide⟩ hab dL_law_1087 ?_
  refine g_istore (lv2 := [some (.ref bb), some (.ref (E.2.1 0)), some (.ref (E.2.1 55)), some (.ref (E.2.1 92)), some (.int w), some (.int 1), none]) (pc := 1090) hC dL_law_1090 rfl (Or.inr rfl) (by rw [← hN]; decide) ?_
  refine g_aload_n (pc := 1092) hC dL_law_1092 rfl ?_
  refine g_aload_n (pc := 1093) hC dL_law_1093 rfl ?_
  refine g_iload (pc := 1094) hC dL_law_1094 rfl ?_
  refine g_iconst (pc := 1096) hC ki_1 dL_law_1096 ?_
  refine g_iadd (pc := 1097) hC dL_law_1097 ?_
  refine g_sld (pc := 1098) hC hL n1 e1 dL_law_1098 ?_
  refine g_callVi (pc := 1099) (As := [.int s1]) (rest := []) hC (c_X12_cost l E s1 σ1 r σ2 h2) mi_X12_cost mv_X12_cost ob_55 rfl rfl lk_L_178 rfl rfl (Nat.le_of_ble_eq_true rfl) ⟨by decide, by decide⟩ hab dL_law_1099 ?_
  refine g_istore (lv2 := [some (.ref bb), some (.ref (E.2.1 0)), some (.ref (E.2.1 55)), some (.ref (E.2.1 92)), some (.int w), some (.int 1), some (.int r)]) (pc := 1102) hC dL_law_1102 rfl (Or.inr rfl) (by rw [← hN]; decide) ?_
  refine g_aload_n (pc := 1104) hC dL_law_1104 rfl ?_
  refine g_callVi (pc := 1105) (As := []) (rest := []) hC (c_X12_thrown l E σ2 _ rfl) mi_X12_thrown mv_X12_thrown ob_55 rfl rfl lk_L_144 rfl rfl (Nat.le_of_ble_eq_true rfl) ⟨by decide, by decide⟩ hab dL_law_1105 ?_
  refine g_top h3.symm ?_
  refine g_iload (pc := 1108) hC dL_law_1108 rfl ?_
  refine g_icmp_eq (tgt := 1115) (pc := 1110) hC dL_law_1110 (by decide) (fun _ => ?_) (fun q => absurd rfl q)
  refine g_iload (pc := 1115) hC dL_law_1115 rfl ?_
  refine g_if_ne (tgt := 1132) (pc := 1117) hC dL_law_1117 (by decide) (fun _ => ?_) (fun q => absurd q (by decide))
  refine g_goto (tgt := 2650) (pc := 1132) hC dL_law_1132 (by decide) ?_
  refine g_mask [true, true, true, true, true, false, false] rfl ?_
  exact kk
set_option maxRecDepth 20000 in
theorem law_16_r {l : Launch} {E : uE} {K : uK} {a b : Nat} {o : Int64} {σ : uS} {bb L : Nat} {xs : Nat → Int32} (hC : Cx E K RL cL_law (some .boolean) 11 414) (hN : 7 = K.2.2.2.2.2) (hL : Lx E K bb L xs) (w : Int32) (s1 : Int32) (e1 : s1 = xs (w + 1).toNatClampNeg) (n1 : vp_in (w + 1) L) (r : Int32) (σ1 σ2 : uS) (h1 : F_X11_path s1 σ = some (.inl r, σ1)) (h2 : F_X12_path s1 σ1 = some (r, σ2)) (h3 : σ2 55 9 = 0) (hab : Rm K a b) (kk : Gd l E K a b r.toInt64 σ2 2650 [some (.ref bb), some (.ref (E.2.1 0)), some (.ref (E.2.1 55)), some (.ref (E.2.1 92)), some (.int w), none, none] []) : Gd l E K a b o σ 1135 [some (.ref bb), some (.ref (E.2.1 0)), some (.ref (E.2.1 55)), some (.ref (E.2.1 92)), some (.int w), none, none] [] := by
  refine g_aload_n (pc := 1135) hC dL_law_1135 rfl ?_
  refine g_aload_n (pc := 1136) hC dL_law_1136 rfl ?_
  refine g_iload (pc := 1137) hC dL_law_1137 rfl ?_
  refine g_iconst (pc := 1139) hC ki_1 dL_law_1139 ?_
  refine g_iadd (pc := 1140) hC dL_law_1140 ?_
  refine g_sld (pc := 1141) hC hL n1 e1 dL_law_1141 ?_
  refine g_aload_n (pc := 1142) hC dL_law_1142 rfl ?_
  refine g_callH (pc := 1143) (As := [.ref (E.2.1 0), .int s1, .ref (E.2.1 92)]) (rest := []) hC (hr_path l E s1 σ o r σ1 h1) mh_path lk_L_179 rfl rfl (Nat.le_of_ble_eq_true rfl) ⟨by decide, by decide⟩ hab dL_law_1143 ?_
  refine g_istore (lv2 := [some (.ref bb), some (.ref (E.2.1 0)), some (.ref (E.2.1 55)), some (.ref (E.2.1 92)), some (.int w), some (.int 0), none]) (pc := 1146) hC dL_law_1146 rfl (Or.inr rfl) (by rw [← hN]; decide) ?_
  refine g_aload_n (pc := 1148) hC dL_law_1148 rfl ?_
  refine g_aload_n (pc := 1149) hC dL_law_1149 rfl ?_
  refine g_iload (pc := 1150) hC dL_law_1150 rfl ?_
  refine g_iconst (pc := 1152) hC ki_1 dL_law_1152 ?_
  refine g_iadd (pc := 1153) hC dL_law_1153 ?_
  refine g_sld (pc := 1154) hC hL n1 e1 dL_law_1154 ?_
  refine g_callVi (pc := 1155) (As := [.int s1]) (rest := []) hC (c_X12_path l E s1 σ1 r σ2 h2) mi_X12_path mv_X12_path ob_55 rfl rfl lk_L_181 rfl rfl (Nat.le_of_ble_eq_true rfl) ⟨by decide, by decide⟩ hab dL_law_1155 ?_
  refine g_istore (lv2 := [some (.ref bb), some (.ref (E.2.1 0)), some (.ref (E.2.1 55)), some (.ref (E.2.1 92)), some (.int w), some (.int 0), some (.int r)]) (pc := 1158) hC dL_law_1158 rfl (Or.inr rfl) (by rw [← hN]; decide) ?_
  refine g_aload_n (pc := 1160) hC dL_law_1160 rfl ?_
  refine g_callVi (pc := 1161) (As := []) (rest := []) hC (c_X12_thrown l E σ2 _ rfl) mi_X12_thrown mv_X12_thrown ob_55 rfl rfl lk_L_144 rfl rfl (Nat.le_of_ble_eq_true rfl) ⟨by decide, by decide⟩ hab dL_law_1161 ?_
  refine g_top h3.symm ?_
  refine g_iload (pc := 1164) hC dL_law_1164 rfl ?_
  refine g_icmp_eq (tgt := 1171) (pc := 1166) hC dL_law_1166 (by decide) (fun _ => ?_) (fun q => absurd rfl q)
  refine g_iload (pc := 1171) hC dL_law_1171 rfl ?_
  refine g_if_ne (tgt := 1188) (pc := 1173) hC dL_law_1173 (by decide) (fun q => absurd rfl q) (fun _ => ?_)
  refine g_aload_n (pc := 1176) hC dL_law_1176 rfl ?_
  refine g_iconst (pc := 1177) hC ki_0 dL_law_1177 ?_
  refine g_lald (pc := 1178) hC dL_law_1178 ?_
  refine g_iload (pc := 1179) hC dL_law_1179 rfl ?_
  refine g_i2l (pc := 1181) hC dL_law_1181 ?_
  refine g_lcmp (pc := 1182) hC dL_law_1182 ?_
  refine g_if_eq (tgt := 1188) (pc := 1183) hC dL_law_1183 (by decide) (fun _ => ?_) (fun q => absurd (lg_cmp_self _) q)
  refine g_goto (tgt := 2650) (pc := 1188) hC dL_law_1188 (by decide) ?_
  refine g_mask [true, true, true, true, true, false, false] rfl ?_
  exact kk
set_option maxRecDepth 20000 in
theorem law_16_x1 {l : Launch} {E : uE} {K : uK} {a b : Nat} {o : Int64} {σ : uS} {bb L : Nat} {xs : Nat → Int32} (hC : Cx E K RL cL_law (some .boolean) 11 414) (hN : 7 = K.2.2.2.2.2) (hL : Lx E K bb L xs) (w : Int32) (s1 : Int32) (e1 : s1 = xs (w + 1).toNatClampNeg) (n1 : vp_in (w + 1) L) (hl9 : l.stackTraces = false) (r : Int32) (σ1 σ2 : uS) (h1 : F_X11_path s1 σ = some (.inr 1, σ1)) (h2 : F_X12_path s1 σ1 = some (r, σ2)) (h3 : σ2 55 9 = 1) (hab : Rm K (a + 1) (b + 6)) (kk : Gd l E K (a + 1) (b + 6) o σ2 2650 [some (.ref bb), some (.ref (E.2.1 0)), some (.ref (E.2.1 55)), some (.ref (E.2.1 92)), some (.int w), none, none] []) : Gd l E K a b o σ 1135 [some (.ref bb), some (.ref (E.2.1 0)), some (.ref (E.2.1 55)), some (.ref (E.2.1 92)), some (.int w), none, none] [] := by
  refine g_aload_n (pc := 1135) hC dL_law_1135 rfl ?_
  refine g_aload_n (pc := 1136) hC dL_law_1136 rfl ?_
  refine g_iload (pc := 1137) hC dL_law_1137 rfl ?_
  refine g_iconst (pc := 1139) hC ki_1 dL_law_1139 ?_
  refine g_iadd (pc := 1140) hC dL_law_1140 ?_
  refine g_sld (pc := 1141) hC hL n1 e1 dL_law_1141 ?_
  refine g_aload_n (pc := 1142) hC dL_law_1142 rfl ?_
  refine g_callH (pc := 1143) (As := [.ref (E.2.1 0), .int s1, .ref (E.2.1 92)]) (rest := []) hC (hx_path_1 l hl9 E s1 σ o σ1 h1) mh_path lk_L_179 rfl rfl (Nat.le_of_ble_eq_true rfl) ⟨by decide, by decide⟩ hab dL_law_1143 ?_
  refine g_istore (lv2 := [some (.ref bb), some (.ref (E.2.1 0)), some (.ref (E.2.1 55)), some (.ref (E.2.1 92)), some (.int w), some (.int 1), none]) (pc := 1146) hC dL_law_1146 rfl (Or.inr rfl) (by rw [← hN]; decide) ?_
  refine g_aload_n (pc := 1148) hC dL_law_1148 rfl ?_
  refine g_aload_n (pc := 1149) hC dL_law_1149 rfl ?_
  refine g_iload (pc := 1150) hC dL_law_1150 rfl ?_
  refine g_iconst (pc := 1152) hC ki_1 dL_law_1152 ?_
  refine g_iadd (pc := 1153) hC dL_law_1153 ?_
  refine g_sld (pc := 1154) hC hL n1 e1 dL_law_1154 ?_
  refine g_callVi (pc := 1155) (As := [.int s1]) (rest := []) hC (c_X12_path l E s1 σ1 r σ2 h2) mi_X12_path mv_X12_path ob_55 rfl rfl lk_L_181 rfl rfl (Nat.le_of_ble_eq_true rfl) ⟨by decide, by decide⟩ hab dL_law_1155 ?_
  refine g_istore (lv2 := [some (.ref bb), some (.ref (E.2.1 0)), some (.ref (E.2.1 55)), some (.ref (E.2.1 92)), some (.int w), some (.int 1), some (.int r)]) (pc := 1158) hC dL_law_1158 rfl (Or.inr rfl) (by rw [← hN]; decide) ?_
  refine g_aload_n (pc := 1160) hC dL_law_1160 rfl ?_
  refine g_callVi (pc := 1161) (As := []) (rest := []) hC (c_X12_thrown l E σ2 _ rfl) mi_X12_thrown mv_X12_thrown ob_55 rfl rfl lk_L_144 rfl rfl (Nat.le_of_ble_eq_true rfl) ⟨by decide, by decide⟩ hab dL_law_1161 ?_
  refine g_top h3.symm ?_
  refine g_iload (pc := 1164) hC dL_law_1164 rfl ?_
  refine g_icmp_eq (tgt := 1171) (pc := 1166) hC dL_law_1166 (by decide) (fun _ => ?_) (fun q => absurd rfl q)
  refine g_iload (pc := 1171) hC dL_law_1171 rfl ?_
  refine g_if_ne (tgt := 1188) (pc := 1173) hC dL_law_1173 (by decide) (fun _ => ?_) (fun q => absurd q (by decide))
  refine g_goto (tgt := 2650) (pc := 1188) hC dL_law_1188 (by decide) ?_
  refine g_mask [true, true, true, true, true, false, false] rfl ?_
  exact kk
set_option maxRecDepth 20000 in
theorem law_17_r {l : Launch} {E : uE} {K : uK} {a b : Nat} {o : Int64} {σ : uS} {bb L : Nat} {xs : Nat → Int32} (hC : Cx E K RL cL_law (some .boolean) 11 414) (hN : 7 = K.2.2.2.2.2) (hL : Lx E K bb L xs) (w : Int32) (s1 : Int32) (e1 : s1 = xs (w + 1).toNatClampNeg) (n1 : vp_in (w + 1) L) (r : Int32) (σ1 σ2 : uS) (h1 : F_X11_lag s1 σ = some (.inl r, σ1)) (h2 : F_X12_lag s1 σ1 = some (r, σ2)) (h3 : σ2 55 9 = 0) (hab : Rm K a b) (kk : Gd l E K a b r.toInt64 σ2 2650 [some (.ref bb), some (.ref (E.2.1 0)), some (.ref (E.2.1 55)), some (.ref (E.2.1 92)), some (.int w), none, none] []) : Gd l E K a b o σ 1191 [some (.ref bb), some (.ref (E.2.1 0)), some (.ref (E.2.1 55)), some (.ref (E.2.1 92)), some (.int w), none, none] [] := by
  refine g_aload_n (pc := 1191) hC dL_law_1191 rfl ?_
  refine g_aload_n (pc := 1192) hC dL_law_1192 rfl ?_
  refine g_iload (pc := 1193) hC dL_law_1193 rfl ?_
  refine g_iconst (pc := 1195) hC ki_1 dL_law_1195 ?_
  refine g_iadd (pc := 1196) hC dL_law_1196 ?_
  refine g_sld (pc := 1197) hC hL n1 e1 dL_law_1197 ?_
  refine g_aload_n (pc := 1198) hC dL_law_1198 rfl ?_
  refine g_callH (pc := 1199) (As := [.ref (E.2.1 0), .int s1, .ref (E.2.1 92)]) (rest := []) hC (hr_lag l E s1 σ o r σ1 h1) mh_lag lk_L_182 rfl rfl (Nat.le_of_ble_eq_true rfl) ⟨by decide, by decide⟩ hab dL_law_1199 ?_
  refine g_istore (lv2 := [some (.ref bb), some (.ref (E.2.1 0)), some (.ref (E.2.1 55)), some (.ref (E.2.1 92)), some (.int w), some (.int 0), none]) (pc := 1202) hC dL_law_1202 rfl (Or.inr rfl) (by rw [← hN]; decide) ?_
  refine g_aload_n (pc := 1204) hC dL_law_1204 rfl ?_
  refine g_aload_n (pc := 1205) hC dL_law_1205 rfl ?_
  refine g_iload (pc := 1206) hC dL_law_1206 rfl ?_
  refine g_iconst (pc := 1208) hC ki_1 dL_law_1208 ?_
  refine g_iadd (pc := 1209) hC dL_law_1209 ?_
  refine g_sld (pc := 1210) hC hL n1 e1 dL_law_1210 ?_
  refine g_callVi (pc := 1211) (As := [.int s1]) (rest := []) hC (c_X12_lag l E s1 σ1 r σ2 h2) mi_X12_lag mv_X12_lag ob_55 rfl rfl lk_L_184 rfl rfl (Nat.le_of_ble_eq_true rfl) ⟨by decide, by decide⟩ hab dL_law_1211 ?_
  refine g_istore (lv2 := [some (.ref bb), some (.ref (E.2.1 0)), some (.ref (E.2.1 55)), some (.ref (E.2.1 92)), some (.int w), some (.int 0), some (.int r)]) (pc := 1214) hC dL_law_1214 rfl (Or.inr rfl) (by rw [← hN]; decide) ?_
  refine g_aload_n (pc := 1216) hC dL_law_1216 rfl ?_
  refine g_callVi (pc := 1217) (As := []) (rest := []) hC (c_X12_thrown l E σ2 _ rfl) mi_X12_thrown mv_X12_thrown ob_55 rfl rfl lk_L_144 rfl rfl (Nat.le_of_ble_eq_true rfl) ⟨by decide, by decide⟩ hab dL_law_1217 ?_
  refine g_top h3.symm ?_
  refine g_iload (pc := 1220) hC dL_law_1220 rfl ?_
  refine g_icmp_eq (tgt := 1227) (pc := 1222) hC dL_law_1222 (by decide) (fun _ => ?_) (fun q => absurd rfl q)
  refine g_iload (pc := 1227) hC dL_law_1227 rfl ?_
  refine g_if_ne (tgt := 1244) (pc := 1229) hC dL_law_1229 (by decide) (fun q => absurd rfl q) (fun _ => ?_)
  refine g_aload_n (pc := 1232) hC dL_law_1232 rfl ?_
  refine g_iconst (pc := 1233) hC ki_0 dL_law_1233 ?_
  refine g_lald (pc := 1234) hC dL_law_1234 ?_
  refine g_iload (pc := 1235) hC dL_law_1235 rfl ?_
  refine g_i2l (pc := 1237) hC dL_law_1237 ?_
  refine g_lcmp (pc := 1238) hC dL_law_1238 ?_
  refine g_if_eq (tgt := 1244) (pc := 1239) hC dL_law_1239 (by decide) (fun _ => ?_) (fun q => absurd (lg_cmp_self _) q)
  refine g_goto (tgt := 2650) (pc := 1244) hC dL_law_1244 (by decide) ?_
  refine g_mask [true, true, true, true, true, false, false] rfl ?_
  exact kk
set_option maxRecDepth 20000 in
theorem law_17_x1 {l : Launch} {E : uE} {K : uK} {a b : Nat} {o : Int64} {σ : uS} {bb L : Nat} {xs : Nat → Int32} (hC : Cx E K RL cL_law (some .boolean) 11 414) (hN : 7 = K.2.2.2.2.2) (hL : Lx E K bb L xs) (w : Int32) (s1 : Int32) (e1 : s1 = xs (w + 1).toNatClampNeg) (n1 : vp_in (w + 1) L) (hl9 : l.stackTraces = false) (r : Int32) (σ1 σ2 : uS) (h1 : F_X11_lag s1 σ = some (.inr 1, σ1)) (h2 : F_X12_lag s1 σ1 = some (r, σ2)) (h3 : σ2 55 9 = 1) (hab : Rm K (a + 1) (b + 6)) (kk : Gd l E K (a + 1) (b + 6) o σ2 2650 [some (.ref bb), some (.ref (E.2.1 0)), some (.ref (E.2.1 55)), some (.ref (E.2.1 92)), some (.int w), none, none] []) : Gd l E K a b o σ 1191 [some (.ref bb), some (.ref (E.2.1 0)), some (.ref (E.2.1 55)), some (.ref (E.2.1 92)), some (.int w), none, none] [] := by
  refine g_aload_n (pc := 1191) hC dL_law_1191 rfl ?_
  refine g_aload_n (pc := 1192) hC dL_law_1192 rfl ?_
  refine g_iload (pc := 1193) hC dL_law_1193 rfl ?_
  refine g_iconst (pc := 1195) hC ki_1 dL_law_1195 ?_
  refine g_iadd (pc := 1196) hC dL_law_1196 ?_
  refine g_sld (pc := 1197) hC hL n1 e1 dL_law_1197 ?_
  refine g_aload_n (pc := 1198) hC dL_law_1198 rfl ?_
  refine g_callH (pc := 1199) (As := [.ref (E.2.1 0), .int s1, .ref (E.2.1 92)]) (rest := []) hC (hx_lag_1 l hl9 E s1 σ o σ1 h1) mh_lag lk_L_182 rfl rfl (Nat.le_of_ble_eq_true rfl) ⟨by decide, by decide⟩ hab dL_law_1199 ?_
  refine g_istore (lv2 := [some (.ref bb), some (.ref (E.2.1 0)), some (.ref (E.2.1 55)), some (.ref (E.2.1 92)), some (.int w), some (.int 1), none]) (pc := 1202) hC dL_law_1202 rfl (Or.inr rfl) (by rw [← hN]; decide) ?_
  refine g_aload_n (pc := 1204) hC dL_law_1204 rfl ?_
  refine g_aload_n (pc := 1205) hC dL_law_1205 rfl ?_
  refine g_iload (pc := 1206) hC dL_law_1206 rfl ?_
  refine g_iconst (pc := 1208) hC ki_1 dL_law_1208 ?_
  refine g_iadd (pc := 1209) hC dL_law_1209 ?_
  refine g_sld (pc := 1210) hC hL n1 e1 dL_law_1210 ?_
  refine g_callVi (pc := 1211) (As := [.int s1]) (rest := []) hC (c_X12_lag l E s1 σ1 r σ2 h2) mi_X12_lag mv_X12_lag ob_55 rfl rfl lk_L_184 rfl rfl (Nat.le_of_ble_eq_true rfl) ⟨by decide, by decide⟩ hab dL_law_1211 ?_
  refine g_istore (lv2 := [some (.ref bb), some (.ref (E.2.1 0)), some (.ref (E.2.1 55)), some (.ref (E.2.1 92)), some (.int w), some (.int 1), some (.int r)]) (pc := 1214) hC dL_law_1214 rfl (Or.inr rfl) (by rw [← hN]; decide) ?_
  refine g_aload_n (pc := 1216) hC dL_law_1216 rfl ?_
  refine g_callVi (pc := 1217) (As := []) (rest := []) hC (c_X12_thrown l E σ2 _ rfl) mi_X12_thrown mv_X12_thrown ob_55 rfl rfl lk_L_144 rfl rfl (Nat.le_of_ble_eq_true rfl) ⟨by decide, by decide⟩ hab dL_law_1217 ?_
  refine g_top h3.symm ?_
  refine g_iload (pc := 1220) hC dL_law_1220 rfl ?_
  refine g_icmp_eq (tgt := 1227) (pc := 1222) hC dL_law_1222 (by decide) (fun _ => ?_) (fun q => absurd rfl q)
  refine g_iload (pc := 1227) hC dL_law_1227 rfl ?_
  refine g_if_ne (tgt := 1244) (pc := 1229) hC dL_law_1229 (by decide) (fun _ => ?_) (fun q => absurd q (by decide))
  refine g_goto (tgt := 2650) (pc := 1244) hC dL_law_1244 (by decide) ?_
  refine g_mask [true, true, true, true, true, false, false] rfl ?_
  exact kk
set_option maxRecDepth 20000 in
theorem law_18_r {l : Launch} {E : uE} {K : uK} {a b : Nat} {o : Int64} {σ : uS} {bb L : Nat} {xs : Nat → Int32} (hC : Cx E K RL cL_law (some .boolean) 11 414) (hN : 7 = K.2.2.2.2.2) (hL : Lx E K bb L xs) (w : Int32) (s1 : Int32) (e1 : s1 = xs (w + 1).toNatClampNeg) (n1 : vp_in (w + 1) L) (s2 : Int32) (e2 : s2 = xs (w + 2).toNatClampNeg) (n2 : vp_in (w + 2) L) (r : Int32) (σ1 σ2 : uS) (h1 : F_X11_through s1 s2 σ = some (.inl r, σ1)) (h2 : F_X12_through s1 s2 σ1 = some (r, σ2)) (h3 : σ2 55 9 = 0) (hab : Rm K a b) (kk : Gd l E K a b r.toInt64 σ2 2650 [some (.ref bb), some (.ref (E.2.1 0)), some (.ref (E.2.1 55)), some (.ref (E.2.1 92)), some (.int w), none, none] []) : Gd l E K a b o σ 1247 [some (.ref bb), some (.ref (E.2.1 0)), some (.ref (E.2.1 55)), some (.ref (E.2.1 92)), some (.int w), none, none] [] := by
  refine g_aload_n (pc := 1247) hC dL_law_1247 rfl ?_
  refine g_aload_n (pc := 1248) hC dL_law_1248 rfl ?_
  refine g_iload (pc := 1249) hC dL_law_1249 rfl ?_
  refine g_iconst (pc := 1251) hC ki_1 dL_law_1251 ?_
  refine g_iadd (pc := 1252) hC dL_law_1252 ?_
  refine g_sld (pc := 1253) hC hL n1 e1 dL_law_1253 ?_
  refine g_aload_n (pc := 1254) hC dL_law_1254 rfl ?_
  refine g_iload (pc := 1255) hC dL_law_1255 rfl ?_
  refine g_iconst (pc := 1257) hC ki_2 dL_law_1257 ?_
  refine g_iadd (pc := 1258) hC dL_law_1258 ?_
  refine g_sld (pc := 1259) hC hL n2 e2 dL_law_1259 ?_
  refine g_aload_n (pc := 1260) hC dL_law_1260 rfl ?_
  refine g_callH (pc := 1261) (As := [.ref (E.2.1 0), .int s1, .int s2, .ref (E.2.1 92)]) (rest := []) hC (hr_through l E s1 s2 σ o r σ1 h1) mh_through lk_L_185 rfl rfl (Nat.le_of_ble_eq_true rfl) ⟨by decide, by decide⟩ hab dL_law_1261 ?_
  refine g_istore (lv2 := [some (.ref bb), some (.ref (E.2.1 0)), some (.ref (E.2.1 55)), some (.ref (E.2.1 92)), some (.int w), some (.int 0), none]) (pc := 1264) hC dL_law_1264 rfl (Or.inr rfl) (by rw [← hN]; decide) ?_
  refine g_aload_n (pc := 1266) hC dL_law_1266 rfl ?_
  refine g_aload_n (pc := 1267) hC dL_law_1267 rfl ?_
  refine g_iload (pc := 1268) hC dL_law_1268 rfl ?_
  refine g_iconst (pc := 1270) hC ki_1 dL_law_1270 ?_
  refine g_iadd (pc := 1271) hC dL_law_1271 ?_
  refine g_sld (pc := 1272) hC hL n1 e1 dL_law_1272 ?_
  refine g_aload_n (pc := 1273) hC dL_law_1273 rfl ?_
  refine g_iload (pc := 1274) hC dL_law_1274 rfl ?_
  refine g_iconst (pc := 1276) hC ki_2 dL_law_1276 ?_
  refine g_iadd (pc := 1277) hC dL_law_1277 ?_
  refine g_sld (pc := 1278) hC hL n2 e2 dL_law_1278 ?_
  refine g_callVi (pc := 1279) (As := [.int s1, .int s2]) (rest := []) hC (c_X12_through l E s1 s2 σ1 r σ2 h2) mi_X12_through mv_X12_through ob_55 rfl rfl lk_L_187 rfl rfl (Nat.le_of_ble_eq_true rfl) ⟨by decide, by decide⟩ hab dL_law_1279 ?_
  refine g_istore (lv2 := [some (.ref bb), some (.ref (E.2.1 0)), some (.ref (E.2.1 55)), some (.ref (E.2.1 92)), some (.int w), some (.int 0), some (.int r)]) (pc := 1282) hC dL_law_1282 rfl (Or.inr rfl) (by rw [← hN]; decide) ?_
  refine g_aload_n (pc := 1284) hC dL_law_1284 rfl ?_
  refine g_callVi (pc := 1285) (As := []) (rest := []) hC (c_X12_thrown l E σ2 _ rfl) mi_X12_thrown mv_X12_thrown ob_55 rfl rfl lk_L_144 rfl rfl (Nat.le_of_ble_eq_true rfl) ⟨by decide, by decide⟩ hab dL_law_1285 ?_
  refine g_top h3.symm ?_
  refine g_iload (pc := 1288) hC dL_law_1288 rfl ?_
  refine g_icmp_eq (tgt := 1295) (pc := 1290) hC dL_law_1290 (by decide) (fun _ => ?_) (fun q => absurd rfl q)
  refine g_iload (pc := 1295) hC dL_law_1295 rfl ?_
  refine g_if_ne (tgt := 1312) (pc := 1297) hC dL_law_1297 (by decide) (fun q => absurd rfl q) (fun _ => ?_)
  refine g_aload_n (pc := 1300) hC dL_law_1300 rfl ?_
  refine g_iconst (pc := 1301) hC ki_0 dL_law_1301 ?_
  refine g_lald (pc := 1302) hC dL_law_1302 ?_
  refine g_iload (pc := 1303) hC dL_law_1303 rfl ?_
  refine g_i2l (pc := 1305) hC dL_law_1305 ?_
  refine g_lcmp (pc := 1306) hC dL_law_1306 ?_
  refine g_if_eq (tgt := 1312) (pc := 1307) hC dL_law_1307 (by decide) (fun _ => ?_) (fun q => absurd (lg_cmp_self _) q)
  refine g_goto (tgt := 2650) (pc := 1312) hC dL_law_1312 (by decide) ?_
  refine g_mask [true, true, true, true, true, false, false] rfl ?_
  exact kk
set_option maxRecDepth 20000 in
theorem law_18_x1 {l : Launch} {E : uE} {K : uK} {a b : Nat} {o : Int64} {σ : uS} {bb L : Nat} {xs : Nat → Int32} (hC : Cx E K RL cL_law (some .boolean) 11 414) (hN : 7 = K.2.2.2.2.2) (hL : Lx E K bb L xs) (w : Int32) (s1 : Int32) (e1 : s1 = xs (w + 1).toNatClampNeg) (n1 : vp_in (w + 1) L) (s2 : Int32) (e2 : s2 = xs (w + 2).toNatClampNeg) (n2 : vp_in (w + 2) L) (hl9 : l.stackTraces = false) (r : Int32) (σ1 σ2 : uS) (h1 : F_X11_through s1 s2 σ = some (.inr 1, σ1)) (h2 : F_X12_through s1 s2 σ1 = some (r, σ2)) (h3 : σ2 55 9 = 1) (hab : Rm K (a + 1) (b + 6)) (kk : Gd l E K (a + 1) (b + 6) o σ2 2650 [some (.ref bb), some (.ref (E.2.1 0)), some (.ref (E.2.1 55)), some (.ref (E.2.1 92)), some (.int w), none, none] []) : Gd l E K a b o σ 1247 [some (.ref bb), some (.ref (E.2.1 0)), some (.ref (E.2.1 55)), some (.ref (E.2.1 92)), some (.int w), none, none] [] := by
  refine g_aload_n (pc := 1247) hC dL_law_1247 rfl ?_
  refine g_aload_n (pc := 1248) hC dL_law_1248 rfl ?_
  refine g_iload (pc := 1249) hC dL_law_1249 rfl ?_
  refine g_iconst (pc := 1251) hC ki_1 dL_law_1251 ?_
  refine g_iadd (pc := 1252) hC dL_law_1252 ?_
  refine g_sld (pc := 1253) hC hL n1 e1 dL_law_1253 ?_
  refine g_aload_n (pc := 1254) hC dL_law_1254 rfl ?_
  refine g_iload (pc := 1255) hC dL_law_1255 rfl ?_
  refine g_iconst (pc := 1257) hC ki_2 dL_law_1257 ?_
  refine g_iadd (pc := 1258) hC dL_law_1258 ?_
  refine g_sld (pc := 1259) hC hL n2 e2 dL_law_1259 ?_
  refine g_aload_n (pc := 1260) hC dL_law_1260 rfl ?_
  refine g_callH (pc := 1261) (As := [.ref (E.2.1 0), .int s1, .int s2, .ref (E.2.1 92)]) (rest := []) hC (hx_through_1 l hl9 E s1 s2 σ o σ1 h1) mh_through lk_L_185 rfl rfl (Nat.le_of_ble_eq_true rfl) ⟨by decide, by decide⟩ hab dL_law_1261 ?_
  refine g_istore (lv2 := [some (.ref bb), some (.ref (E.2.1 0)), some (.ref (E.2.1 55)), some (.ref (E.2.1 92)), some (.int w), some (.int 1), none]) (pc := 1264) hC dL_law_1264 rfl (Or.inr rfl) (by rw [← hN]; decide) ?_
  refine g_aload_n (pc := 1266) hC dL_law_1266 rfl ?_
  refine g_aload_n (pc := 1267) hC dL_law_1267 rfl ?_
  refine g_iload (pc := 1268) hC dL_law_1268 rfl ?_
  refine g_iconst (pc := 1270) hC ki_1 dL_law_1270 ?_
  refine g_iadd (pc := 1271) hC dL_law_1271 ?_
  refine g_sld (pc := 1272) hC hL n1 e1 dL_law_1272 ?_
  refine g_aload_n (pc := 1273) hC dL_law_1273 rfl ?_
  refine g_iload (pc := 1274) hC dL_law_1274 rfl ?_
  refine g_iconst (pc := 1276) hC ki_2 dL_law_1276 ?_
  refine g_iadd (pc := 1277) hC dL_law_1277 ?_
  refine g_sld (pc := 1278) hC hL n2 e2 dL_law_1278 ?_
  refine g_callVi (pc := 1279) (As := [.int s1, .int s2]) (rest := []) hC (c_X12_through l E s1 s2 σ1 r σ2 h2) mi_X12_through mv_X12_through ob_55 rfl rfl lk_L_187 rfl rfl (Nat.le_of_ble_eq_true rfl) ⟨by decide, by decide⟩ hab dL_law_1279 ?_
  refine g_istore (lv2 := [some (.ref bb), some (.ref (E.2.1 0)), some (.ref (E.2.1 55)), some (.ref (E.2.1 92)), some (.int w), some (.int 1), some (.int r)]) (pc := 1282) hC dL_law_1282 rfl (Or.inr rfl) (by rw [← hN]; decide) ?_
  refine g_aload_n (pc := 1284) hC dL_law_1284 rfl ?_
  refine g_callVi (pc := 1285) (As := []) (rest := []) hC (c_X12_thrown l E σ2 _ rfl) mi_X12_thrown mv_X12_thrown ob_55 rfl rfl lk_L_144 rfl rfl (Nat.le_of_ble_eq_true rfl) ⟨by decide, by decide⟩ hab dL_law_1285 ?_
  refine g_top h3.symm ?_
  refine g_iload (pc := 1288) hC dL_law_1288 rfl ?_
  refine g_icmp_eq (tgt := 1295) (pc := 1290) hC dL_law_1290 (by decide) (fun _ => ?_) (fun q => absurd rfl q)
  refine g_iload (pc := 1295) hC dL_law_1295 rfl ?_
  refine g_if_ne (tgt := 1312) (pc := 1297) hC dL_law_1297 (by decide) (fun _ => ?_) (fun q => absurd q (by decide))
  refine g_goto (tgt := 2650) (pc := 1312) hC dL_law_1312 (by decide) ?_
  refine g_mask [true, true, true, true, true, false, false] rfl ?_
  exact kk
set_option maxRecDepth 20000 in
theorem law_19_r {l : Launch} {E : uE} {K : uK} {a b : Nat} {o : Int64} {σ : uS} {bb L : Nat} {xs : Nat → Int32} (hC : Cx E K RL cL_law (some .boolean) 11 414) (hN : 7 = K.2.2.2.2.2) (hL : Lx E K bb L xs) (w : Int32) (s1 : Int32) (e1 : s1 = xs (w + 1).toNatClampNeg) (n1 : vp_in (w + 1) L) (s2 : Int32) (e2 : s2 = xs (w + 2).toNatClampNeg) (n2 : vp_in (w + 2) L) (s3 : Int32) (e3 : s3 = xs (w + 3).toNatClampNeg) (n3 : vp_in (w + 3) L) (s4 : Int32) (e4 : s4 = xs (w + 4).toNatClampNeg) (n4 : vp_in (w + 4) L) (r : Int32) (σ1 σ2 : uS) (h1 : F_X11_both s1 s2 s3 s4 σ = some (.inl r, σ1)) (h2 : F_X12_both s1 s2 s3 s4 σ1 = some (r, σ2)) (h3 : σ2 55 9 = 0) (hab : Rm K a b) (kk : Gd l E K a b r.toInt64 σ2 2650 [some (.ref bb), some (.ref (E.2.1 0)), some (.ref (E.2.1 55)), some (.ref (E.2.1 92)), some (.int w), none, none] []) : Gd l E K a b o σ 1315 [some (.ref bb), some (.ref (E.2.1 0)), some (.ref (E.2.1 55)), some (.ref (E.2.1 92)), some (.int w), none, none] [] := by
  refine g_aload_n (pc := 1315) hC dL_law_1315 rfl ?_
  refine g_aload_n (pc := 1316) hC dL_law_1316 rfl ?_
  refine g_iload (pc := 1317) hC dL_law_1317 rfl ?_
  refine g_iconst (pc := 1319) hC ki_1 dL_law_1319 ?_
  refine g_iadd (pc := 1320) hC dL_law_1320 ?_
  refine g_sld (pc := 1321) hC hL n1 e1 dL_law_1321 ?_
  refine g_aload_n (pc := 1322) hC dL_law_1322 rfl ?_
  refine g_iload (pc := 1323) hC dL_law_1323 rfl ?_
  refine g_iconst (pc := 1325) hC ki_2 dL_law_1325 ?_
  refine g_iadd (pc := 1326) hC dL_law_1326 ?_
  refine g_sld (pc := 1327) hC hL n2 e2 dL_law_1327 ?_
  refine g_aload_n (pc := 1328) hC dL_law_1328 rfl ?_
  refine g_iload (pc := 1329) hC dL_law_1329 rfl ?_
  refine g_iconst (pc := 1331) hC ki_3 dL_law_1331 ?_
  refine g_iadd (pc := 1332) hC dL_law_1332 ?_
  refine g_sld (pc := 1333) hC hL n3 e3 dL_law_1333 ?_
  refine g_aload_n (pc := 1334) hC dL_law_1334 rfl ?_
  refine g_iload (pc := 1335) hC dL_law_1335 rfl ?_
  refine g_iconst (pc := 1337) hC ki_4 dL_law_1337 ?_
  refine g_iadd (pc := 1338) hC dL_law_1338 ?_
  refine g_sld (pc := 1339) hC hL n4 e4 dL_law_1339 ?_
  refine g_aload_n (pc := 1340) hC dL_law_1340 rfl ?_
  refine g_callH (pc := 1341) (As := [.ref (E.2.1 0), .int s1, .int s2, .int s3, .int s4, .ref (E.2.1 92)]) (rest := []) hC (hr_both l E s1 s2 s3 s4 σ o r σ1 h1) mh_both lk_L_188 rfl rfl (Nat.le_of_ble_eq_true rfl) ⟨by decide, by decide⟩ hab dL_law_1341 ?_
  refine g_istore (lv2 := [some (.ref bb), some (.ref (E.2.1 0)), some (.ref (E.2.1 55)), some (.ref (E.2.1 92)), some (.int w), some (.int 0), none]) (pc := 1344) hC dL_law_1344 rfl (Or.inr rfl) (by rw [← hN]; decide) ?_
  refine g_aload_n (pc := 1346) hC dL_law_1346 rfl ?_
  refine g_aload_n (pc := 1347) hC dL_law_1347 rfl ?_
  refine g_iload (pc := 1348) hC dL_law_1348 rfl ?_
  refine g_iconst (pc := 1350) hC ki_1 dL_law_1350 ?_
  refine g_iadd (pc := 1351) hC dL_law_1351 ?_
  refine g_sld (pc := 1352) hC hL n1 e1 dL_law_1352 ?_
  refine g_aload_n (pc := 1353) hC dL_law_1353 rfl ?_
  refine g_iload (pc := 1354) hC dL_law_1354 rfl ?_
  refine g_iconst (pc := 1356) hC ki_2 dL_law_1356 ?_
  refine g_iadd (pc := 1357) hC dL_law_1357 ?_
  refine g_sld (pc := 1358) hC hL n2 e2 dL_law_1358 ?_
  refine g_aload_n (pc := 1359) hC dL_law_1359 rfl ?_
  refine g_iload (pc := 1360) hC dL_law_1360 rfl ?_
  refine g_iconst (pc := 1362) hC ki_3 dL_law_1362 ?_
  refine g_iadd (pc := 1363) hC dL_law_1363 ?_
  refine g_sld (pc := 1364) hC hL n3 e3 dL_law_1364 ?_
  refine g_aload_n (pc := 1365) hC dL_law_1365 rfl ?_
  refine g_iload (pc := 1366) hC dL_law_1366 rfl ?_
  refine g_iconst (pc := 1368) hC ki_4 dL_law_1368 ?_
  refine g_iadd (pc := 1369) hC dL_law_1369 ?_
  refine g_sld (pc := 1370) hC hL n4 e4 dL_law_1370 ?_
  refine g_callVi (pc := 1371) (As := [.int s1, .int s2, .int s3, .int s4]) (rest := []) hC (c_X12_both l E s1 s2 s3 s4 σ1 r σ2 h2) mi_X12_both mv_X12_both ob_55 rfl rfl lk_L_191 rfl rfl (Nat.le_of_ble_eq_true rfl) ⟨by decide, by decide⟩ hab dL_law_1371 ?_
  refine g_istore (lv2 := [some (.ref bb), some (.ref (E.2.1 0)), some (.ref (E.2.1 55)), some (.ref (E.2.1 92)), some (.int w), some (.int 0), some (.int r)]) (pc := 1374) hC dL_law_1374 rfl (Or.inr rfl) (by rw [← hN]; decide) ?_
  refine g_aload_n (pc := 1376) hC dL_law_1376 rfl ?_
  refine g_callVi (pc := 1377) (As := []) (rest := []) hC (c_X12_thrown l E σ2 _ rfl) mi_X12_thrown mv_X12_thrown ob_55 rfl rfl lk_L_144 rfl rfl (Nat.le_of_ble_eq_true rfl) ⟨by decide, by decide⟩ hab dL_law_1377 ?_
  refine g_top h3.symm ?_
  refine g_iload (pc := 1380) hC dL_law_1380 rfl ?_
  refine g_icmp_eq (tgt := 1387) (pc := 1382) hC dL_law_1382 (by decide) (fun _ => ?_) (fun q => absurd rfl q)
  refine g_iload (pc := 1387) hC dL_law_1387 rfl ?_
  refine g_if_ne (tgt := 1404) (pc := 1389) hC dL_law_1389 (by decide) (fun q => absurd rfl q) (fun _ => ?_)
  refine g_aload_n (pc := 1392) hC dL_law_1392 rfl ?_
  refine g_iconst (pc := 1393) hC ki_0 dL_law_1393 ?_
  refine g_lald (pc := 1394) hC dL_law_1394 ?_
  refine g_iload (pc := 1395) hC dL_law_1395 rfl ?_
  refine g_i2l (pc := 1397) hC dL_law_1397 ?_
  refine g_lcmp (pc := 1398) hC dL_law_1398 ?_
  refine g_if_eq (tgt := 1404) (pc := 1399) hC dL_law_1399 (by decide) (fun _ => ?_) (fun q => absurd (lg_cmp_self _) q)
  refine g_goto (tgt := 2650) (pc := 1404) hC dL_law_1404 (by decide) ?_
  refine g_mask [true, true, true, true, true, false, false] rfl ?_
  exact kk
set_option maxRecDepth 20000 in
theorem law_19_x1 {l : Launch} {E : uE} {K : uK} {a b : Nat} {o : Int64} {σ : uS} {bb L : Nat} {xs : Nat → Int32} (hC : Cx E K RL cL_law (some .boolean) 11 414) (hN : 7 = K.2.2.2.2.2) (hL : Lx E K bb L xs) (w : Int32) (s1 : Int32) (e1 : s1 = xs (w + 1).toNatClampNeg) (n1 : vp_in (w + 1) L) (s2 : Int32) (e2 : s2 = xs (w + 2).toNatClampNeg) (n2 : vp_in (w + 2) L) (s3 : Int32) (e3 : s3 = xs (w + 3).toNatClampNeg) (n3 : vp_in (w + 3) L) (s4 : Int32) (e4 : s4 = xs (w + 4).toNatClampNeg) (n4 : vp_in (w + 4) L) (hl9 : l.stackTraces = false) (r : Int32) (σ1 σ2 : uS) (h1 : F_X11_both s1 s2 s3 s4 σ = some (.inr 1, σ1)) (h2 : F_X12_both s1 s2 s3 s4 σ1 = some (r, σ2)) (h3 : σ2 55 9 = 1) (hab : Rm K (a + 1) (b + 6)) (kk : Gd l E K (a + 1) (b + 6) o σ2 2650 [some (.ref bb), some (.ref (E.2.1 0)), some (.ref (E.2.1 55)), some (.ref (E.2.1 92)), some (.int w), none, none] []) : Gd l E K a b o σ 1315 [some (.ref bb), some (.ref (E.2.1 0)), some (.ref (E.2.1 55)), some (.ref (E.2.1 92)), some (.int w), none, none] [] := by
  refine g_aload_n (pc := 1315) hC dL_law_1315 rfl ?_
  refine g_aload_n (pc := 1316) hC dL_law_1316 rfl ?_
  refine g_iload (pc := 1317) hC dL_law_1317 rfl ?_
  refine g_iconst (pc := 1319) hC ki_1 dL_law_1319 ?_
  refine g_iadd (pc := 1320) hC dL_law_1320 ?_
  refine g_sld (pc := 1321) hC hL n1 e1 dL_law_1321 ?_
  refine g_aload_n (pc := 1322) hC dL_law_1322 rfl ?_
  refine g_iload (pc := 1323) hC dL_law_1323 rfl ?_
  refine g_iconst (pc := 1325) hC ki_2 dL_law_1325 ?_
  refine g_iadd (pc := 1326) hC dL_law_1326 ?_
  refine g_sld (pc := 1327) hC hL n2 e2 dL_law_1327 ?_
  refine g_aload_n (pc := 1328) hC dL_law_1328 rfl ?_
  refine g_iload (pc := 1329) hC dL_law_1329 rfl ?_
  refine g_iconst (pc := 1331) hC ki_3 dL_law_1331 ?_
  refine g_iadd (pc := 1332) hC dL_law_1332 ?_
  refine g_sld (pc := 1333) hC hL n3 e3 dL_law_1333 ?_
  refine g_aload_n (pc := 1334) hC dL_law_1334 rfl ?_
  refine g_iload (pc := 1335) hC dL_law_1335 rfl ?_
  refine g_iconst (pc := 1337) hC ki_4 dL_law_1337 ?_
  refine g_iadd (pc := 1338) hC dL_law_1338 ?_
  refine g_sld (pc := 1339) hC hL n4 e4 dL_law_1339 ?_
  refine g_aload_n (pc := 1340) hC dL_law_1340 rfl ?_
  refine g_callH (pc := 1341) (As := [.ref (E.2.1 0), .int s1, .int s2, .int s3, .int s4, .ref (E.2.1 92)]) (rest := []) hC (hx_both_1 l hl9 E s1 s2 s3 s4 σ o σ1 h1) mh_both lk_L_188 rfl rfl (Nat.le_of_ble_eq_true rfl) ⟨by decide, by decide⟩ hab dL_law_1341 ?_
  refine g_istore (lv2 := [some (.ref bb), some (.ref (E.2.1 0)), some (.ref (E.2.1 55)), some (.ref (E.2.1 92)), some (.int w), some (.int 1), none]) (pc := 1344) hC dL_law_1344 rfl (Or.inr rfl) (by rw [← hN]; decide) ?_
  refine g_aload_n (pc := 1346) hC dL_law_1346 rfl ?_
  refine g_aload_n (pc := 1347) hC dL_law_1347 rfl ?_
  refine g_iload (pc := 1348) hC dL_law_1348 rfl ?_
  refine g_iconst (pc := 1350) hC ki_1 dL_law_1350 ?_
  refine g_iadd (pc := 1351) hC dL_law_1351 ?_
  refine g_sld (pc := 1352) hC hL n1 e1 dL_law_1352 ?_
  refine g_aload_n (pc := 1353) hC dL_law_1353 rfl ?_
  refine g_iload (pc := 1354) hC dL_law_1354 rfl ?_
  refine g_iconst (pc := 1356) hC ki_2 dL_law_1356 ?_
  refine g_iadd (pc := 1357) hC dL_law_1357 ?_
  refine g_sld (pc := 1358) hC hL n2 e2 dL_law_1358 ?_
  refine g_aload_n (pc := 1359) hC dL_law_1359 rfl ?_
  refine g_iload (pc := 1360) hC dL_law_1360 rfl ?_
  refine g_iconst (pc := 1362) hC ki_3 dL_law_1362 ?_
  refine g_iadd (pc := 1363) hC dL_law_1363 ?_
  refine g_sld (pc := 1364) hC hL n3 e3 dL_law_1364 ?_
  refine g_aload_n (pc := 1365) hC dL_law_1365 rfl ?_
  refine g_iload (pc := 1366) hC dL_law_1366 rfl ?_
  refine g_iconst (pc := 1368) hC ki_4 dL_law_1368 ?_
  refine g_iadd (pc := 1369) hC dL_law_1369 ?_
  refine g_sld (pc := 1370) hC hL n4 e4 dL_law_1370 ?_
  refine g_callVi (pc := 1371) (As := [.int s1, .int s2, .int s3, .int s4]) (rest := []) hC (c_X12_both l E s1 s2 s3 s4 σ1 r σ2 h2) mi_X12_both mv_X12_both ob_55 rfl rfl lk_L_191 rfl rfl (Nat.le_of_ble_eq_true rfl) ⟨by decide, by decide⟩ hab dL_law_1371 ?_
  refine g_istore (lv2 := [some (.ref bb), some (.ref (E.2.1 0)), some (.ref (E.2.1 55)), some (.ref (E.2.1 92)), some (.int w), some (.int 1), some (.int r)]) (pc := 1374) hC dL_law_1374 rfl (Or.inr rfl) (by rw [← hN]; decide) ?_
  refine g_aload_n (pc := 1376) hC dL_law_1376 rfl ?_
  refine g_callVi (pc := 1377) (As := []) (rest := []) hC (c_X12_thrown l E σ2 _ rfl) mi_X12_thrown mv_X12_thrown ob_55 rfl rfl lk_L_144 rfl rfl (Nat.le_of_ble_eq_true rfl) ⟨by decide, by decide⟩ hab dL_law_1377 ?_
  refine g_top h3.symm ?_
  refine g_iload (pc := 1380) hC dL_law_1380 rfl ?_
  refine g_icmp_eq (tgt := 1387) (pc := 1382) hC dL_law_1382 (by decide) (fun _ => ?_) (fun q => absurd rfl q)
  refine g_iload (pc := 1387) hC dL_law_1387 rfl ?_
  refine g_if_ne (tgt := 1404) (pc := 1389) hC dL_law_1389 (by decide) (fun _ => ?_) (fun q => absurd q (by decide))
  refine g_goto (tgt := 2650) (pc := 1404) hC dL_law_1404 (by decide) ?_
  refine g_mask [true, true, true, true, true, false, false] rfl ?_
  exact kk
set_option maxRecDepth 20000 in
theorem law_19_x2 {l : Launch} {E : uE} {K : uK} {a b : Nat} {o : Int64} {σ : uS} {bb L : Nat} {xs : Nat → Int32} (hC : Cx E K RL cL_law (some .boolean) 11 414) (hN : 7 = K.2.2.2.2.2) (hL : Lx E K bb L xs) (w : Int32) (s1 : Int32) (e1 : s1 = xs (w + 1).toNatClampNeg) (n1 : vp_in (w + 1) L) (s2 : Int32) (e2 : s2 = xs (w + 2).toNatClampNeg) (n2 : vp_in (w + 2) L) (s3 : Int32) (e3 : s3 = xs (w + 3).toNatClampNeg) (n3 : vp_in (w + 3) L) (s4 : Int32) (e4 : s4 = xs (w + 4).toNatClampNeg) (n4 : vp_in (w + 4) L) (hl9 : l.stackTraces = false) (r : Int32) (σ1 σ2 : uS) (h1 : F_X11_both s1 s2 s3 s4 σ = some (.inr 2, σ1)) (h2 : F_X12_both s1 s2 s3 s4 σ1 = some (r, σ2)) (h3 : σ2 55 9 = 2) (hab : Rm K (a + 1) (b + 6)) (kk : Gd l E K (a + 1) (b + 6) o σ2 2650 [some (.ref bb), some (.ref (E.2.1 0)), some (.ref (E.2.1 55)), some (.ref (E.2.1 92)), some (.int w), none, none] []) : Gd l E K a b o σ 1315 [some (.ref bb), some (.ref (E.2.1 0)), some (.ref (E.2.1 55)), some (.ref (E.2.1 92)), some (.int w), none, none] [] := by
  refine g_aload_n (pc := 1315) hC dL_law_1315 rfl ?_
  refine g_aload_n (pc := 1316) hC dL_law_1316 rfl ?_
  refine g_iload (pc := 1317) hC dL_law_1317 rfl ?_
  refine g_iconst (pc := 1319) hC ki_1 dL_law_1319 ?_
  refine g_iadd (pc := 1320) hC dL_law_1320 ?_
  refine g_sld (pc := 1321) hC hL n1 e1 dL_law_1321 ?_
  refine g_aload_n (pc := 1322) hC dL_law_1322 rfl ?_
  refine g_iload (pc := 1323) hC dL_law_1323 rfl ?_
  refine g_iconst (pc := 1325) hC ki_2 dL_law_1325 ?_
  refine g_iadd (pc := 1326) hC dL_law_1326 ?_
  refine g_sld (pc := 1327) hC hL n2 e2 dL_law_1327 ?_
  refine g_aload_n (pc := 1328) hC dL_law_1328 rfl ?_
  refine g_iload (pc := 1329) hC dL_law_1329 rfl ?_
  refine g_iconst (pc := 1331) hC ki_3 dL_law_1331 ?_
  refine g_iadd (pc := 1332) hC dL_law_1332 ?_
  refine g_sld (pc := 1333) hC hL n3 e3 dL_law_1333 ?_
  refine g_aload_n (pc := 1334) hC dL_law_1334 rfl ?_
  refine g_iload (pc := 1335) hC dL_law_1335 rfl ?_
  refine g_iconst (pc := 1337) hC ki_4 dL_law_1337 ?_
  refine g_iadd (pc := 1338) hC dL_law_1338 ?_
  refine g_sld (pc := 1339) hC hL n4 e4 dL_law_1339 ?_
  refine g_aload_n (pc := 1340) hC dL_law_1340 rfl ?_
  refine g_callH (pc := 1341) (As := [.ref (E.2.1 0), .int s1, .int s2, .int s3, .int s4, .ref (E.2.1 92)]) (rest := []) hC (hx_both_2 l hl9 E s1 s2 s3 s4 σ o σ1 h1) mh_both lk_L_188 rfl rfl (Nat.le_of_ble_eq_true rfl) ⟨by decide, by decide⟩ hab dL_law_1341 ?_
  refine g_istore (lv2 := [some (.ref bb), some (.ref (E.2.1 0)), some (.ref (E.2.1 55)), some (.ref (E.2.1 92)), some (.int w), some (.int 2), none]) (pc := 1344) hC dL_law_1344 rfl (Or.inr rfl) (by rw [← hN]; decide) ?_
  refine g_aload_n (pc := 1346) hC dL_law_1346 rfl ?_
  refine g_aload_n (pc := 1347) hC dL_law_1347 rfl ?_
  refine g_iload (pc := 1348) hC dL_law_1348 rfl ?_
  refine g_iconst (pc := 1350) hC ki_1 dL_law_1350 ?_
  refine g_iadd (pc := 1351) hC dL_law_1351 ?_
  refine g_sld (pc := 1352) hC hL n1 e1 dL_law_1352 ?_
  refine g_aload_n (pc := 1353) hC dL_law_1353 rfl ?_
  refine g_iload (pc := 1354) hC dL_law_1354 rfl ?_
  refine g_iconst (pc := 1356) hC ki_2 dL_law_1356 ?_
  refine g_iadd (pc := 1357) hC dL_law_1357 ?_
  refine g_sld (pc := 1358) hC hL n2 e2 dL_law_1358 ?_
  refine g_aload_n (pc := 1359) hC dL_law_1359 rfl ?_
  refine g_iload (pc := 1360) hC dL_law_1360 rfl ?_
  refine g_iconst (pc := 1362) hC ki_3 dL_law_1362 ?_
  refine g_iadd (pc := 1363) hC dL_law_1363 ?_
  refine g_sld (pc := 1364) hC hL n3 e3 dL_law_1364 ?_
  refine g_aload_n (pc := 1365) hC dL_law_1365 rfl ?_
  refine g_iload (pc := 1366) hC dL_law_1366 rfl ?_
  refine g_iconst (pc := 1368) hC ki_4 dL_law_1368 ?_
  refine g_iadd (pc := 1369) hC dL_law_1369 ?_
  refine g_sld (pc := 1370) hC hL n4 e4 dL_law_1370 ?_
  refine g_callVi (pc := 1371) (As := [.int s1, .int s2, .int s3, .int s4]) (rest := []) hC (c_X12_both l E s1 s2 s3 s4 σ1 r σ2 h2) mi_X12_both mv_X12_both ob_55 rfl rfl lk_L_191 rfl rfl (Nat.le_of_ble_eq_true rfl) ⟨by decide, by decide⟩ hab dL_law_1371 ?_
  refine g_istore (lv2 := [some (.ref bb), some (.ref (E.2.1 0)), some (.ref (E.2.1 55)), some (.ref (E.2.1 92)), some (.int w), some (.int 2), some (.int r)]) (pc := 1374) hC dL_law_1374 rfl (Or.inr rfl) (by rw [← hN]; decide) ?_
  refine g_aload_n (pc := 1376) hC dL_law_1376 rfl ?_
  refine g_callVi (pc := 1377) (As := []) (rest := []) hC (c_X12_thrown l E σ2 _ rfl) mi_X12_thrown mv_X12_thrown ob_55 rfl rfl lk_L_144 rfl rfl (Nat.le_of_ble_eq_true rfl) ⟨by decide, by decide⟩ hab dL_law_1377 ?_
  refine g_top h3.symm ?_
  refine g_iload (pc := 1380) hC dL_law_1380 rfl ?_
  refine g_icmp_eq (tgt := 1387) (pc := 1382) hC dL_law_1382 (by decide) (fun _ => ?_) (fun q => absurd rfl q)
  refine g_iload (pc := 1387) hC dL_law_1387 rfl ?_
  refine g_if_ne (tgt := 1404) (pc := 1389) hC dL_law_1389 (by decide) (fun _ => ?_) (fun q => absurd q (by decide))
  refine g_goto (tgt := 2650) (pc := 1404) hC dL_law_1404 (by decide) ?_
  refine g_mask [true, true, true, true, true, false, false] rfl ?_
  exact kk
set_option maxRecDepth 20000 in
theorem law_20 {l : Launch} {E : uE} {K : uK} {a b : Nat} {o : Int64} {σ : uS} {bb L : Nat} {xs : Nat → Int32} (hC : Cx E K RL cL_law (some .boolean) 11 414) (hN : 7 = K.2.2.2.2.2) (hL : Lx E K bb L xs) (w : Int32) (r : Int32) (σ1 σ2 : uS) (h1 : F_X11_single σ = some (r, σ1)) (h2 : F_X12_single σ1 = some (r, σ2)) (hab : Rm K a b) (kk : Gd l E K a b o σ2 2650 [some (.ref bb), some (.ref (E.2.1 0)), some (.ref (E.2.1 55)), some (.ref (E.2.1 92)), some (.int w), none, none] []) : Gd l E K a b o σ 1407 [some (.ref bb), some (.ref (E.2.1 0)), some (.ref (E.2.1 55)), some (.ref (E.2.1 92)), some (.int w), none, none] [] := by
  refine g_aload_n (pc := 1407) hC dL_law_1407 rfl ?_
  refine g_callVi (pc := 1408) (As := []) (rest := []) hC (c_X11_single l E σ r σ1 h1) mi_X11_single mv_X11_single ob_0 rfl rfl lk_L_192 rfl rfl (Nat.le_of_ble_eq_true rfl) ⟨by decide, by decide⟩ hab dL_law_1408 ?_
  refine g_aload_n (pc := 1411) hC dL_law_1411 rfl ?_
  refine g_callVi (pc := 1412) (As := []) (rest := [.int r]) hC (c_X12_single l E σ1 r σ2 h2) mi_X12_single mv_X12_single ob_55 rfl rfl lk_L_195 rfl rfl (Nat.le_of_ble_eq_true rfl) ⟨by decide, by decide⟩ hab dL_law_1412 ?_
  refine g_icmp_eq (tgt := 2650) (pc := 1415) hC dL_law_1415 (by decide) (fun _ => ?_) (fun q => absurd rfl q)
  exact kk
set_option maxRecDepth 20000 in
theorem law_21_r {l : Launch} {E : uE} {K : uK} {a b : Nat} {o : Int64} {σ : uS} {bb L : Nat} {xs : Nat → Int32} (hC : Cx E K RL cL_law (some .boolean) 11 414) (hN : 7 = K.2.2.2.2.2) (hL : Lx E K bb L xs) (w : Int32) (s1 : Int32) (e1 : s1 = xs (w + 1).toNatClampNeg) (n1 : vp_in (w + 1) L) (s2 : Int32) (e2 : s2 = xs (w + 2).toNatClampNeg) (n2 : vp_in (w + 2) L) (r : Int32) (σ1 σ2 : uS) (h1 : F_X11_live s1 s2 σ = some (.inl r, σ1)) (h2 : F_X12_live s1 s2 σ1 = some (r, σ2)) (h3 : σ2 55 9 = 0) (hab : Rm K a b) (kk : Gd l E K a b r.toInt64 σ2 2650 [some (.ref bb), some (.ref (E.2.1 0)), some (.ref (E.2.1 55)), some (.ref (E.2.1 92)), some (.int w), none, none] []) : Gd l E K a b o σ 1420 [some (.ref bb), some (.ref (E.2.1 0)), some (.ref (E.2.1 55)), some (.ref (E.2.1 92)), some (.int w), none, none] [] := by
  refine g_aload_n (pc := 1420) hC dL_law_1420 rfl ?_
  refine g_aload_n (pc := 1421) hC dL_law_1421 rfl ?_
  refine g_iload (pc := 1422) hC dL_law_1422 rfl ?_
  refine g_iconst (pc := 1424) hC ki_1 dL_law_1424 ?_
  refine g_iadd (pc := 1425) hC dL_law_1425 ?_
  refine g_sld (pc := 1426) hC hL n1 e1 dL_law_1426 ?_
  refine g_aload_n (pc := 1427) hC dL_law_1427 rfl ?_
  refine g_iload (pc := 1428) hC dL_law_1428 rfl ?_
  refine g_iconst (pc := 1430) hC ki_2 dL_law_1430 ?_
  refine g_iadd (pc := 1431) hC dL_law_1431 ?_
  refine g_sld (pc := 1432) hC hL n2 e2 dL_law_1432 ?_
  refine g_aload_n (pc := 1433) hC dL_law_1433 rfl ?_
  refine g_callH (pc := 1434) (As := [.ref (E.2.1 0), .int s1, .int s2, .ref (E.2.1 92)]) (rest := []) hC (hr_live l E s1 s2 σ o r σ1 h1) mh_live lk_L_196 rfl rfl (Nat.le_of_ble_eq_true rfl) ⟨by decide, by decide⟩ hab dL_law_1434 ?_
  refine g_istore (lv2 := [some (.ref bb), some (.ref (E.2.1 0)), some (.ref (E.2.1 55)), some (.ref (E.2.1 92)), some (.int w), some (.int 0), none]) (pc := 1437) hC dL_law_1437 rfl (Or.inr rfl) (by rw [← hN]; decide) ?_
  refine g_aload_n (pc := 1439) hC dL_law_1439 rfl ?_
  refine g_aload_n (pc := 1440) hC dL_law_1440 rfl ?_
  refine g_iload (pc := 1441) hC dL_law_1441 rfl ?_
  refine g_iconst (pc := 1443) hC ki_1 dL_law_1443 ?_
  refine g_iadd (pc := 1444) hC dL_law_1444 ?_
  refine g_sld (pc := 1445) hC hL n1 e1 dL_law_1445 ?_
  refine g_aload_n (pc := 1446) hC dL_law_1446 rfl ?_
  refine g_iload (pc := 1447) hC dL_law_1447 rfl ?_
  refine g_iconst (pc := 1449) hC ki_2 dL_law_1449 ?_
  refine g_iadd (pc := 1450) hC dL_law_1450 ?_
  refine g_sld (pc := 1451) hC hL n2 e2 dL_law_1451 ?_
  refine g_callVi (pc := 1452) (As := [.int s1, .int s2]) (rest := []) hC (c_X12_live l E s1 s2 σ1 r σ2 h2) mi_X12_live mv_X12_live ob_55 rfl rfl lk_L_198 rfl rfl (Nat.le_of_ble_eq_true rfl) ⟨by decide, by decide⟩ hab dL_law_1452 ?_
  refine g_istore (lv2 := [some (.ref bb), some (.ref (E.2.1 0)), some (.ref (E.2.1 55)), some (.ref (E.2.1 92)), some (.int w), some (.int 0), some (.int r)]) (pc := 1455) hC dL_law_1455 rfl (Or.inr rfl) (by rw [← hN]; decide) ?_
  refine g_aload_n (pc := 1457) hC dL_law_1457 rfl ?_
  refine g_callVi (pc := 1458) (As := []) (rest := []) hC (c_X12_thrown l E σ2 _ rfl) mi_X12_thrown mv_X12_thrown ob_55 rfl rfl lk_L_144 rfl rfl (Nat.le_of_ble_eq_true rfl) ⟨by decide, by decide⟩ hab dL_law_1458 ?_
  refine g_top h3.symm ?_
  refine g_iload (pc := 1461) hC dL_law_1461 rfl ?_
  refine g_icmp_eq (tgt := 1468) (pc := 1463) hC dL_law_1463 (by decide) (fun _ => ?_) (fun q => absurd rfl q)
  refine g_iload (pc := 1468) hC dL_law_1468 rfl ?_
  refine g_if_ne (tgt := 1485) (pc := 1470) hC dL_law_1470 (by decide) (fun q => absurd rfl q) (fun _ => ?_)
  refine g_aload_n (pc := 1473) hC dL_law_1473 rfl ?_
  refine g_iconst (pc := 1474) hC ki_0 dL_law_1474 ?_
  refine g_lald (pc := 1475) hC dL_law_1475 ?_
  refine g_iload (pc := 1476) hC dL_law_1476 rfl ?_
  refine g_i2l (pc := 1478) hC dL_law_1478 ?_
  refine g_lcmp (pc := 1479) hC dL_law_1479 ?_
  refine g_if_eq (tgt := 1485) (pc := 1480) hC dL_law_1480 (by decide) (fun _ => ?_) (fun q => absurd (lg_cmp_self _) q)
  refine g_goto (tgt := 2650) (pc := 1485) hC dL_law_1485 (by decide) ?_
  refine g_mask [true, true, true, true, true, false, false] rfl ?_
  exact kk
set_option maxRecDepth 20000 in
theorem law_21_x1 {l : Launch} {E : uE} {K : uK} {a b : Nat} {o : Int64} {σ : uS} {bb L : Nat} {xs : Nat → Int32} (hC : Cx E K RL cL_law (some .boolean) 11 414) (hN : 7 = K.2.2.2.2.2) (hL : Lx E K bb L xs) (w : Int32) (s1 : Int32) (e1 : s1 = xs (w + 1).toNatClampNeg) (n1 : vp_in (w + 1) L) (s2 : Int32) (e2 : s2 = xs (w + 2).toNatClampNeg) (n2 : vp_in (w + 2) L) (hl9 : l.stackTraces = false) (r : Int32) (σ1 σ2 : uS) (h1 : F_X11_live s1 s2 σ = some (.inr 1, σ1)) (h2 : F_X12_live s1 s2 σ1 = some (r, σ2)) (h3 : σ2 55 9 = 1) (hab : Rm K (a + 1) (b + 6)) (kk : Gd l E K (a + 1) (b + 6) o σ2 2650 [some (.ref bb), some (.ref (E.2.1 0)), some (.ref (E.2.1 55)), some (.ref (E.2.1 92)), some (.int w), none, none] []) : Gd l E K a b o σ 1420 [some (.ref bb), some (.ref (E.2.1 0)), some (.ref (E.2.1 55)), some (.ref (E.2.1 92)), some (.int w), none, none] [] := by
  refine g_aload_n (pc := 1420) hC dL_law_1420 rfl ?_
  refine g_aload_n (pc := 1421) hC dL_law_1421 rfl ?_
  refine g_iload (pc := 1422) hC dL_law_1422 rfl ?_
  refine g_iconst (pc := 1424) hC ki_1 dL_law_1424 ?_
  refine g_iadd (pc := 1425) hC dL_law_1425 ?_
  refine g_sld (pc := 1426) hC hL n1 e1 dL_law_1426 ?_
  refine g_aload_n (pc := 1427) hC dL_law_1427 rfl ?_
  refine g_iload (pc := 1428) hC dL_law_1428 rfl ?_
  refine g_iconst (pc := 1430) hC ki_2 dL_law_1430 ?_
  refine g_iadd (pc := 1431) hC dL_law_1431 ?_
  refine g_sld (pc := 1432) hC hL n2 e2 dL_law_1432 ?_
  refine g_aload_n (pc := 1433) hC dL_law_1433 rfl ?_
  refine g_callH (pc := 1434) (As := [.ref (E.2.1 0), .int s1, .int s2, .ref (E.2.1 92)]) (rest := []) hC (hx_live_1 l hl9 E s1 s2 σ o σ1 h1) mh_live lk_L_196 rfl rfl (Nat.le_of_ble_eq_true rfl) ⟨by decide, by decide⟩ hab dL_law_1434 ?_
  refine g_istore (lv2 := [some (.ref bb), some (.ref (E.2.1 0)), some (.ref (E.2.1 55)), some (.ref (E.2.1 92)), some (.int w), some (.int 1), none]) (pc := 1437) hC dL_law_1437 rfl (Or.inr rfl) (by rw [← hN]; decide) ?_
  refine g_aload_n (pc := 1439) hC dL_law_1439 rfl ?_
  refine g_aload_n (pc := 1440) hC dL_law_1440 rfl ?_
  refine g_iload (pc := 1441) hC dL_law_1441 rfl ?_
  refine g_iconst (pc := 1443) hC ki_1 dL_law_1443 ?_
  refine g_iadd (pc := 1444) hC dL_law_1444 ?_
  refine g_sld (pc := 1445) hC hL n1 e1 dL_law_1445 ?_
  refine g_aload_n (pc := 1446) hC dL_law_1446 rfl ?_
  refine g_iload (pc := 1447) hC dL_law_1447 rfl ?_
  refine g_iconst (pc := 1449) hC ki_2 dL_law_1449 ?_
  refine g_iadd (pc := 1450) hC dL_law_1450 ?_
  refine g_sld (pc := 1451) hC hL n2 e2 dL_law_1451 ?_
  refine g_callVi (pc := 1452) (As := [.int s1, .int s2]) (rest := []) hC (c_X12_live l E s1 s2 σ1 r σ2 h2) mi_X12_live mv_X12_live ob_55 rfl rfl lk_L_198 rfl rfl (Nat.le_of_ble_eq_true rfl) ⟨by decide, by decide⟩ hab dL_law_1452 ?_
  refine g_istore (lv2 := [some (.ref bb), some (.ref (E.2.1 0)), some (.ref (E.2.1 55)), some (.ref (E.2.1 92)), some (.int w), some (.int 1), some (.int r)]) (pc := 1455) hC dL_law_1455 rfl (Or.inr rfl) (by rw [← hN]; decide) ?_
  refine g_aload_n (pc := 1457) hC dL_law_1457 rfl ?_
  refine g_callVi (pc := 1458) (As := []) (rest := []) hC (c_X12_thrown l E σ2 _ rfl) mi_X12_thrown mv_X12_thrown ob_55 rfl rfl lk_L_144 rfl rfl (Nat.le_of_ble_eq_true rfl) ⟨by decide, by decide⟩ hab dL_law_1458 ?_
  refine g_top h3.symm ?_
  refine g_iload (pc := 1461) hC dL_law_1461 rfl ?_
  refine g_icmp_eq (tgt := 1468) (pc := 1463) hC dL_law_1463 (by decide) (fun _ => ?_) (fun q => absurd rfl q)
  refine g_iload (pc := 1468) hC dL_law_1468 rfl ?_
  refine g_if_ne (tgt := 1485) (pc := 1470) hC dL_law_1470 (by decide) (fun _ => ?_) (fun q => absurd q (by decide))
  refine g_goto (tgt := 2650) (pc := 1485) hC dL_law_1485 (by decide) ?_
  refine g_mask [true, true, true, true, true, false, false] rfl ?_
  exact kk
set_option maxRecDepth 20000 in
theorem law_21_x2 {l : Launch} {E : uE} {K : uK} {a b : Nat} {o : Int64} {σ : uS} {bb L : Nat} {xs : Nat → Int32} (hC : Cx E K RL cL_law (some .boolean) 11 414) (hN : 7 = K.2.2.2.2.2) (hL : Lx E K bb L xs) (w : Int32) (s1 : Int32) (e1 : s1 = xs (w + 1).toNatClampNeg) (n1 : vp_in (w + 1) L) (s2 : Int32) (e2 : s2 = xs (w + 2).toNatClampNeg) (n2 : vp_in (w + 2) L) (hl9 : l.stackTraces = false) (r : Int32) (σ1 σ2 : uS) (h1 : F_X11_live s1 s2 σ = some (.inr 2, σ1)) (h2 : F_X12_live s1 s2 σ1 = some (r, σ2)) (h3 : σ2 55 9 = 2) (hab : Rm K (a + 1) (b + 6)) (kk : Gd l E K (a + 1) (b + 6) o σ2 2650 [some (.ref bb), some (.ref (E.2.1 0)), some (.ref (E.2.1 55)), some (.ref (E.2.1 92)), some (.int w), none, none] []) : Gd l E K a b o σ 1420 [some (.ref bb), some (.ref (E.2.1 0)), some (.ref (E.2.1 55)), some (.ref (E.2.1 92)), some (.int w), none, none] [] := by
  refine g_aload_n (pc := 1420) hC dL_law_1420 rfl ?_
  refine g_aload_n (pc := 1421) hC dL_law_1421 rfl ?_
  refine g_iload (pc := 1422) hC dL_law_1422 rfl ?_
  refine g_iconst (pc := 1424) hC ki_1 dL_law_1424 ?_
  refine g_iadd (pc := 1425) hC dL_law_1425 ?_
  refine g_sld (pc := 1426) hC hL n1 e1 dL_law_1426 ?_
  refine g_aload_n (pc := 1427) hC dL_law_1427 rfl ?_
  refine g_iload (pc := 1428) hC dL_law_1428 rfl ?_
  refine g_iconst (pc := 1430) hC ki_2 dL_law_1430 ?_
  refine g_iadd (pc := 1431) hC dL_law_1431 ?_
  refine g_sld (pc := 1432) hC hL n2 e2 dL_law_1432 ?_
  refine g_aload_n (pc := 1433) hC dL_law_1433 rfl ?_
  refine g_callH (pc := 1434) (As := [.ref (E.2.1 0), .int s1, .int s2, .ref (E.2.1 92)]) (rest := []) hC (hx_live_2 l hl9 E s1 s2 σ o σ1 h1) mh_live lk_L_196 rfl rfl (Nat.le_of_ble_eq_true rfl) ⟨by decide, by decide⟩ hab dL_law_1434 ?_
  refine g_istore (lv2 := [some (.ref bb), some (.ref (E.2.1 0)), some (.ref (E.2.1 55)), some (.ref (E.2.1 92)), some (.int w), some (.int 2), none]) (pc := 1437) hC dL_law_1437 rfl (Or.inr rfl) (by rw [← hN]; decide) ?_
  refine g_aload_n (pc := 1439) hC dL_law_1439 rfl ?_
  refine g_aload_n (pc := 1440) hC dL_law_1440 rfl ?_
  refine g_iload (pc := 1441) hC dL_law_1441 rfl ?_
  refine g_iconst (pc := 1443) hC ki_1 dL_law_1443 ?_
  refine g_iadd (pc := 1444) hC dL_law_1444 ?_
  refine g_sld (pc := 1445) hC hL n1 e1 dL_law_1445 ?_
  refine g_aload_n (pc := 1446) hC dL_law_1446 rfl ?_
  refine g_iload (pc := 1447) hC dL_law_1447 rfl ?_
  refine g_iconst (pc := 1449) hC ki_2 dL_law_1449 ?_
  refine g_iadd (pc := 1450) hC dL_law_1450 ?_
  refine g_sld (pc := 1451) hC hL n2 e2 dL_law_1451 ?_
  refine g_callVi (pc := 1452) (As := [.int s1, .int s2]) (rest := []) hC (c_X12_live l E s1 s2 σ1 r σ2 h2) mi_X12_live mv_X12_live ob_55 rfl rfl lk_L_198 rfl rfl (Nat.le_of_ble_eq_true rfl) ⟨by decide, by decide⟩ hab dL_law_1452 ?_
  refine g_istore (lv2 := [some (.ref bb), some (.ref (E.2.1 0)), some (.ref (E.2.1 55)), some (.ref (E.2.1 92)), some (.int w), some (.int 2), some (.int r)]) (pc := 1455) hC dL_law_1455 rfl (Or.inr rfl) (by rw [← hN]; decide) ?_
  refine g_aload_n (pc := 1457) hC dL_law_1457 rfl ?_
  refine g_callVi (pc := 1458) (As := []) (rest := []) hC (c_X12_thrown l E σ2 _ rfl) mi_X12_thrown mv_X12_thrown ob_55 rfl rfl lk_L_144 rfl rfl (Nat.le_of_ble_eq_true rfl) ⟨by decide, by decide⟩ hab dL_law_1458 ?_
  refine g_top h3.symm ?_
  refine g_iload (pc := 1461) hC dL_law_1461 rfl ?_
  refine g_icmp_eq (tgt := 1468) (pc := 1463) hC dL_law_1463 (by decide) (fun _ => ?_) (fun q => absurd rfl q)
  refine g_iload (pc := 1468) hC dL_law_1468 rfl ?_
  refine g_if_ne (tgt := 1485) (pc := 1470) hC dL_law_1470 (by decide) (fun _ => ?_) (fun q => absurd q (by decide))
  refine g_goto (tgt := 2650) (pc := 1485) hC dL_law_1485 (by decide) ?_
  refine g_mask [true, true, true, true, true, false, false] rfl ?_
  exact kk
set_option maxRecDepth 20000 in
theorem law_22_r {l : Launch} {E : uE} {K : uK} {a b : Nat} {o : Int64} {σ : uS} {bb L : Nat} {xs : Nat → Int32} (hC : Cx E K RL cL_law (some .boolean) 11 414) (hN : 7 = K.2.2.2.2.2) (hL : Lx E K bb L xs) (w : Int32) (s1 : Int32) (e1 : s1 = xs (w + 1).toNatClampNeg) (n1 : vp_in (w + 1) L) (r : Int32) (σ1 σ2 : uS) (h1 : F_X11_settles s1 σ = some (.inl r, σ1)) (h2 : F_X12_settles s1 σ1 = some (r, σ2)) (h3 : σ2 55 9 = 0) (hab : Rm K a b) (kk : Gd l E K a b r.toInt64 σ2 2650 [some (.ref bb), some (.ref (E.2.1 0)), some (.ref (E.2.1 55)), some (.ref (E.2.1 92)), some (.int w), none, none] []) : Gd l E K a b o σ 1488 [some (.ref bb), some (.ref (E.2.1 0)), some (.ref (E.2.1 55)), some (.ref (E.2.1 92)), some (.int w), none, none] [] := by
  refine g_aload_n (pc := 1488) hC dL_law_1488 rfl ?_
  refine g_aload_n (pc := 1489) hC dL_law_1489 rfl ?_
  refine g_iload (pc := 1490) hC dL_law_1490 rfl ?_
  refine g_iconst (pc := 1492) hC ki_1 dL_law_1492 ?_
  refine g_iadd (pc := 1493) hC dL_law_1493 ?_
  refine g_sld (pc := 1494) hC hL n1 e1 dL_law_1494 ?_
  refine g_aload_n (pc := 1495) hC dL_law_1495 rfl ?_
  refine g_callH (pc := 1496) (As := [.ref (E.2.1 0), .int s1, .ref (E.2.1 92)]) (rest := []) hC (hr_settles l E s1 σ o r σ1 h1) mh_settles lk_L_199 rfl rfl (Nat.le_of_ble_eq_true rfl) ⟨by decide, by decide⟩ hab dL_law_1496 ?_
  refine g_istore (lv2 := [some (.ref bb), some (.ref (E.2.1 0)), some (.ref (E.2.1 55)), some (.ref (E.2.1 92)), some (.int w), some (.int 0), none]) (pc := 1499) hC dL_law_1499 rfl (Or.inr rfl) (by rw [← hN]; decide) ?_
  refine g_aload_n (pc := 1501) hC dL_law_1501 rfl ?_
  refine g_aload_n (pc := 1502) hC dL_law_1502 rfl ?_
  refine g_iload (pc := 1503) hC dL_law_1503 rfl ?_
  refine g_iconst (pc := 1505) hC ki_1 dL_law_1505 ?_
  refine g_iadd (pc := 1506) hC dL_law_1506 ?_
  refine g_sld (pc := 1507) hC hL n1 e1 dL_law_1507 ?_
  refine g_callVi (pc := 1508) (As := [.int s1]) (rest := []) hC (c_X12_settles l E s1 σ1 r σ2 h2) mi_X12_settles mv_X12_settles ob_55 rfl rfl lk_L_201 rfl rfl (Nat.le_of_ble_eq_true rfl) ⟨by decide, by decide⟩ hab dL_law_1508 ?_
  refine g_istore (lv2 := [some (.ref bb), some (.ref (E.2.1 0)), some (.ref (E.2.1 55)), some (.ref (E.2.1 92)), some (.int w), some (.int 0), some (.int r)]) (pc := 1511) hC dL_law_1511 rfl (Or.inr rfl) (by rw [← hN]; decide) ?_
  refine g_aload_n (pc := 1513) hC dL_law_1513 rfl ?_
  refine g_callVi (pc := 1514) (As := []) (rest := []) hC (c_X12_thrown l E σ2 _ rfl) mi_X12_thrown mv_X12_thrown ob_55 rfl rfl lk_L_144 rfl rfl (Nat.le_of_ble_eq_true rfl) ⟨by decide, by decide⟩ hab dL_law_1514 ?_
  refine g_top h3.symm ?_
  refine g_iload (pc := 1517) hC dL_law_1517 rfl ?_
  refine g_icmp_eq (tgt := 1524) (pc := 1519) hC dL_law_1519 (by decide) (fun _ => ?_) (fun q => absurd rfl q)
  refine g_iload (pc := 1524) hC dL_law_1524 rfl ?_
  refine g_if_ne (tgt := 1541) (pc := 1526) hC dL_law_1526 (by decide) (fun q => absurd rfl q) (fun _ => ?_)
  refine g_aload_n (pc := 1529) hC dL_law_1529 rfl ?_
  refine g_iconst (pc := 1530) hC ki_0 dL_law_1530 ?_
  refine g_lald (pc := 1531) hC dL_law_1531 ?_
  refine g_iload (pc := 1532) hC dL_law_1532 rfl ?_
  refine g_i2l (pc := 1534) hC dL_law_1534 ?_
  refine g_lcmp (pc := 1535) hC dL_law_1535 ?_
  refine g_if_eq (tgt := 1541) (pc := 1536) hC dL_law_1536 (by decide) (fun _ => ?_) (fun q => absurd (lg_cmp_self _) q)
  refine g_goto (tgt := 2650) (pc := 1541) hC dL_law_1541 (by decide) ?_
  refine g_mask [true, true, true, true, true, false, false] rfl ?_
  exact kk
set_option maxRecDepth 20000 in
theorem law_22_x1 {l : Launch} {E : uE} {K : uK} {a b : Nat} {o : Int64} {σ : uS} {bb L : Nat} {xs : Nat → Int32} (hC : Cx E K RL cL_law (some .boolean) 11 414) (hN : 7 = K.2.2.2.2.2) (hL : Lx E K bb L xs) (w : Int32) (s1 : Int32) (e1 : s1 = xs (w + 1).toNatClampNeg) (n1 : vp_in (w + 1) L) (hl9 : l.stackTraces = false) (r : Int32) (σ1 σ2 : uS) (h1 : F_X11_settles s1 σ = some (.inr 1, σ1)) (h2 : F_X12_settles s1 σ1 = some (r, σ2)) (h3 : σ2 55 9 = 1) (hab : Rm K (a + 1) (b + 6)) (kk : Gd l E K (a + 1) (b + 6) o σ2 2650 [some (.ref bb), some (.ref (E.2.1 0)), some (.ref (E.2.1 55)), some (.ref (E.2.1 92)), some (.int w), none, none] []) : Gd l E K a b o σ 1488 [some (.ref bb), some (.ref (E.2.1 0)), some (.ref (E.2.1 55)), some (.ref (E.2.1 92)), some (.int w), none, none] [] := by
  refine g_aload_n (pc := 1488) hC dL_law_1488 rfl ?_
  refine g_aload_n (pc := 1489) hC dL_law_1489 rfl ?_
  refine g_iload (pc := 1490) hC dL_law_1490 rfl ?_
  refine g_iconst (pc := 1492) hC ki_1 dL_law_1492 ?_
  refine g_iadd (pc := 1493) hC dL_law_1493 ?_
  refine g_sld (pc := 1494) hC hL n1 e1 dL_law_1494 ?_
  refine g_aload_n (pc := 1495) hC dL_law_1495 rfl ?_
  refine g_callH (pc := 1496) (As := [.ref (E.2.1 0), .int s1, .ref (E.2.1 92)]) (rest := []) hC (hx_settles_1 l hl9 E s1 σ o σ1 h1) mh_settles lk_L_199 rfl rfl (Nat.le_of_ble_eq_true rfl) ⟨by decide, by decide⟩ hab dL_law_1496 ?_
  refine g_istore (lv2 := [some (.ref bb), some (.ref (E.2.1 0)), some (.ref (E.2.1 55)), some (.ref (E.2.1 92)), some (.int w), some (.int 1), none]) (pc := 1499) hC dL_law_1499 rfl (Or.inr rfl) (by rw [← hN]; decide) ?_
  refine g_aload_n (pc := 1501) hC dL_law_1501 rfl ?_
  refine g_aload_n (pc := 1502) hC dL_law_1502 rfl ?_
  refine g_iload (pc := 1503) hC dL_law_1503 rfl ?_
  refine g_iconst (pc := 1505) hC ki_1 dL_law_1505 ?_
  refine g_iadd (pc := 1506) hC dL_law_1506 ?_
  refine g_sld (pc := 1507) hC hL n1 e1 dL_law_1507 ?_
  refine g_callVi (pc := 1508) (As := [.int s1]) (rest := []) hC (c_X12_settles l E s1 σ1 r σ2 h2) mi_X12_settles mv_X12_settles ob_55 rfl rfl lk_L_201 rfl rfl (Nat.le_of_ble_eq_true rfl) ⟨by decide, by decide⟩ hab dL_law_1508 ?_
  refine g_istore (lv2 := [some (.ref bb), some (.ref (E.2.1 0)), some (.ref (E.2.1 55)), some (.ref (E.2.1 92)), some (.int w), some (.int 1), some (.int r)]) (pc := 1511) hC dL_law_1511 rfl (Or.inr rfl) (by rw [← hN]; decide) ?_
  refine g_aload_n (pc := 1513) hC dL_law_1513 rfl ?_
  refine g_callVi (pc := 1514) (As := []) (rest := []) hC (c_X12_thrown l E σ2 _ rfl) mi_X12_thrown mv_X12_thrown ob_55 rfl rfl lk_L_144 rfl rfl (Nat.le_of_ble_eq_true rfl) ⟨by decide, by decide⟩ hab dL_law_1514 ?_
  refine g_top h3.symm ?_
  refine g_iload (pc := 1517) hC dL_law_1517 rfl ?_
  refine g_icmp_eq (tgt := 1524) (pc := 1519) hC dL_law_1519 (by decide) (fun _ => ?_) (fun q => absurd rfl q)
  refine g_iload (pc := 1524) hC dL_law_1524 rfl ?_
  refine g_if_ne (tgt := 1541) (pc := 1526) hC dL_law_1526 (by decide) (fun _ => ?_) (fun q => absurd q (by decide))
  refine g_goto (tgt := 2650) (pc := 1541) hC dL_law_1541 (by decide) ?_
  refine g_mask [true, true, true, true, true, false, false] rfl ?_
  exact kk
set_option maxRecDepth 20000 in
theorem law_23_r {l : Launch} {E : uE} {K : uK} {a b : Nat} {o : Int64} {σ : uS} {bb L : Nat} {xs : Nat → Int32} (hC : Cx E K RL cL_law (some .boolean) 11 414) (hN : 7 = K.2.2.2.2.2) (hL : Lx E K bb L xs) (w : Int32) (s1 : Int32) (e1 : s1 = xs (w + 1).toNatClampNeg) (n1 : vp_in (w + 1) L) (r : Int32) (σ1 σ2 : uS) (h1 : F_X11_best s1 σ = some (.inl r, σ1)) (h2 : F_X12_best s1 σ1 = some (r, σ2)) (h3 : σ2 55 9 = 0) (hab : Rm K a b) (kk : Gd l E K a b r.toInt64 σ2 2650 [some (.ref bb), some (.ref (E.2.1 0)), some (.ref (E.2.1 55)), some (.ref (E.2.1 92)), some (.int w), none, none] []) : Gd l E K a b o σ 1544 [some (.ref bb), some (.ref (E.2.1 0)), some (.ref (E.2.1 55)), some (.ref (E.2.1 92)), some (.int w), none, none] [] := by
  refine g_aload_n (pc := 1544) hC dL_law_1544 rfl ?_
  refine g_aload_n (pc := 1545) hC dL_law_1545 rfl ?_
  refine g_iload (pc := 1546) hC dL_law_1546 rfl ?_
  refine g_iconst (pc := 1548) hC ki_1 dL_law_1548 ?_
  refine g_iadd (pc := 1549) hC dL_law_1549 ?_
  refine g_sld (pc := 1550) hC hL n1 e1 dL_law_1550 ?_
  refine g_aload_n (pc := 1551) hC dL_law_1551 rfl ?_
  refine g_callH (pc := 1552) (As := [.ref (E.2.1 0), .int s1, .ref (E.2.1 92)]) (rest := []) hC (hr_best l E s1 σ o r σ1 h1) mh_best lk_L_202 rfl rfl (Nat.le_of_ble_eq_true rfl) ⟨by decide, by decide⟩ hab dL_law_1552 ?_
  refine g_istore (lv2 := [some (.ref bb), some (.ref (E.2.1 0)), some (.ref (E.2.1 55)), some (.ref (E.2.1 92)), some (.int w), some (.int 0), none]) (pc := 1555) hC dL_law_1555 rfl (Or.inr rfl) (by rw [← hN]; decide) ?_
  refine g_aload_n (pc := 1557) hC dL_law_1557 rfl ?_
  refine g_aload_n (pc := 1558) hC dL_law_1558 rfl ?_
  refine g_iload (pc := 1559) hC dL_law_1559 rfl ?_
  refine g_iconst (pc := 1561) hC ki_1 dL_law_1561 ?_
  refine g_iadd (pc := 1562) hC dL_law_1562 ?_
  refine g_sld (pc := 1563) hC hL n1 e1 dL_law_1563 ?_
  refine g_callVi (pc := 1564) (As := [.int s1]) (rest := []) hC (c_X12_best l E s1 σ1 r σ2 h2) mi_X12_best mv_X12_best ob_55 rfl rfl lk_L_204 rfl rfl (Nat.le_of_ble_eq_true rfl) ⟨by decide, by decide⟩ hab dL_law_1564 ?_
  refine g_istore (lv2 := [some (.ref bb), some (.ref (E.2.1 0)), some (.ref (E.2.1 55)), some (.ref (E.2.1 92)), some (.int w), some (.int 0), some (.int r)]) (pc := 1567) hC dL_law_1567 rfl (Or.inr rfl) (by rw [← hN]; decide) ?_
  refine g_aload_n (pc := 1569) hC dL_law_1569 rfl ?_
  refine g_callVi (pc := 1570) (As := []) (rest := []) hC (c_X12_thrown l E σ2 _ rfl) mi_X12_thrown mv_X12_thrown ob_55 rfl rfl lk_L_144 rfl rfl (Nat.le_of_ble_eq_true rfl) ⟨by decide, by decide⟩ hab dL_law_1570 ?_
  refine g_top h3.symm ?_
  refine g_iload (pc := 1573) hC dL_law_1573 rfl ?_
  refine g_icmp_eq (tgt := 1580) (pc := 1575) hC dL_law_1575 (by decide) (fun _ => ?_) (fun q => absurd rfl q)
  refine g_iload (pc := 1580) hC dL_law_1580 rfl ?_
  refine g_if_ne (tgt := 1597) (pc := 1582) hC dL_law_1582 (by decide) (fun q => absurd rfl q) (fun _ => ?_)
  refine g_aload_n (pc := 1585) hC dL_law_1585 rfl ?_
  refine g_iconst (pc := 1586) hC ki_0 dL_law_1586 ?_
  refine g_lald (pc := 1587) hC dL_law_1587 ?_
  refine g_iload (pc := 1588) hC dL_law_1588 rfl ?_
  refine g_i2l (pc := 1590) hC dL_law_1590 ?_
  refine g_lcmp (pc := 1591) hC dL_law_1591 ?_
  refine g_if_eq (tgt := 1597) (pc := 1592) hC dL_law_1592 (by decide) (fun _ => ?_) (fun q => absurd (lg_cmp_self _) q)
  refine g_goto (tgt := 2650) (pc := 1597) hC dL_law_1597 (by decide) ?_
  refine g_mask [true, true, true, true, true, false, false] rfl ?_
  exact kk
set_option maxRecDepth 20000 in
theorem law_23_x2 {l : Launch} {E : uE} {K : uK} {a b : Nat} {o : Int64} {σ : uS} {bb L : Nat} {xs : Nat → Int32} (hC : Cx E K RL cL_law (some .boolean) 11 414) (hN : 7 = K.2.2.2.2.2) (hL : Lx E K bb L xs) (w : Int32) (s1 : Int32) (e1 : s1 = xs (w + 1).toNatClampNeg) (n1 : vp_in (w + 1) L) (hl9 : l.stackTraces = false) (r : Int32) (σ1 σ2 : uS) (h1 : F_X11_best s1 σ = some (.inr 2, σ1)) (h2 : F_X12_best s1 σ1 = some (r, σ2)) (h3 : σ2 55 9 = 1) (hab : Rm K (a + 1) (b + 6)) (kk : Gd l E K (a + 1) (b + 6) o σ2 2650 [some (.ref bb), some (.ref (E.2.1 0)), some (.ref (E.2.1 55)), some (.ref (E.2.1 92)), some (.int w), none, none] []) : Gd l E K a b o σ 1544 [some (.ref bb), some (.ref (E.2.1 0)), some (.ref (E.2.1 55)), some (.ref (E.2.1 92)), some (.int w), none, none] [] := by
  refine g_aload_n (pc := 1544) hC dL_law_1544 rfl ?_
  refine g_aload_n (pc := 1545) hC dL_law_1545 rfl ?_
  refine g_iload (pc := 1546) hC dL_law_1546 rfl ?_
  refine g_iconst (pc := 1548) hC ki_1 dL_law_1548 ?_
  refine g_iadd (pc := 1549) hC dL_law_1549 ?_
  refine g_sld (pc := 1550) hC hL n1 e1 dL_law_1550 ?_
  refine g_aload_n (pc := 1551) hC dL_law_1551 rfl ?_
  refine g_callH (pc := 1552) (As := [.ref (E.2.1 0), .int s1, .ref (E.2.1 92)]) (rest := []) hC (hx_best_2 l hl9 E s1 σ o σ1 h1) mh_best lk_L_202 rfl rfl (Nat.le_of_ble_eq_true rfl) ⟨by decide, by decide⟩ hab dL_law_1552 ?_
  refine g_istore (lv2 := [some (.ref bb), some (.ref (E.2.1 0)), some (.ref (E.2.1 55)), some (.ref (E.2.1 92)), some (.int w), some (.int 1), none]) (pc := 1555) hC dL_law_1555 rfl (Or.inr rfl) (by rw [← hN]; decide) ?_
  refine g_aload_n (pc := 1557) hC dL_law_1557 rfl ?_
  refine g_aload_n (pc := 1558) hC dL_law_1558 rfl ?_
  refine g_iload (pc := 1559) hC dL_law_1559 rfl ?_
  refine g_iconst (pc := 1561) hC ki_1 dL_law_1561 ?_
  refine g_iadd (pc := 1562) hC dL_law_1562 ?_
  refine g_sld (pc := 1563) hC hL n1 e1 dL_law_1563 ?_
  refine g_callVi (pc := 1564) (As := [.int s1]) (rest := []) hC (c_X12_best l E s1 σ1 r σ2 h2) mi_X12_best mv_X12_best ob_55 rfl rfl lk_L_204 rfl rfl (Nat.le_of_ble_eq_true rfl) ⟨by decide, by decide⟩ hab dL_law_1564 ?_
  refine g_istore (lv2 := [some (.ref bb), some (.ref (E.2.1 0)), some (.ref (E.2.1 55)), some (.ref (E.2.1 92)), some (.int w), some (.int 1), some (.int r)]) (pc := 1567) hC dL_law_1567 rfl (Or.inr rfl) (by rw [← hN]; decide) ?_
  refine g_aload_n (pc := 1569) hC dL_law_1569 rfl ?_
  refine g_callVi (pc := 1570) (As := []) (rest := []) hC (c_X12_thrown l E σ2 _ rfl) mi_X12_thrown mv_X12_thrown ob_55 rfl rfl lk_L_144 rfl rfl (Nat.le_of_ble_eq_true rfl) ⟨by decide, by decide⟩ hab dL_law_1570 ?_
  refine g_top h3.symm ?_
  refine g_iload (pc := 1573) hC dL_law_1573 rfl ?_
  refine g_icmp_eq (tgt := 1580) (pc := 1575) hC dL_law_1575 (by decide) (fun _ => ?_) (fun q => absurd rfl q)
  refine g_iload (pc := 1580) hC dL_law_1580 rfl ?_
  refine g_if_ne (tgt := 1597) (pc := 1582) hC dL_law_1582 (by decide) (fun _ => ?_) (fun q => absurd q (by decide))
  refine g_goto (tgt := 2650) (pc := 1597) hC dL_law_1597 (by decide) ?_
  refine g_mask [true, true, true, true, true, false, false] rfl ?_
  exact kk
set_option maxRecDepth 20000 in
theorem law_24_r {l : Launch} {E : uE} {K : uK} {a b : Nat} {o : Int64} {σ : uS} {bb L : Nat} {xs : Nat → Int32} (hC : Cx E K RL cL_law (some .boolean) 11 414) (hN : 7 = K.2.2.2.2.2) (hL : Lx E K bb L xs) (w : Int32) (s1 : Int32) (e1 : s1 = xs (w + 1).toNatClampNeg) (n1 : vp_in (w + 1) L) (s2 : Int32) (e2 : s2 = xs (w + 2).toNatClampNeg) (n2 : vp_in (w + 2) L) (r : Int32) (σ1 σ2 : uS) (h1 : F_X11_bestAt s1 s2 σ = some (.inl r, σ1)) (h2 : F_X12_bestAt s1 s2 σ1 = some (r, σ2)) (h3 : σ2 55 9 = 0) (hab : Rm K a b) (kk : Gd l E K a b r.toInt64 σ2 2650 [some (.ref bb), some (.ref (E.2.1 0)), some (.ref (E.2.1 55)), some (.ref (E.2.1 92)), some (.int w), none, none] []) : Gd l E K a b o σ 1600 [some (.ref bb), some (.ref (E.2.1 0)), some (.ref (E.2.1 55)), some (.ref (E.2.1 92)), some (.int w), none, none] [] := by
  refine g_aload_n (pc := 1600) hC dL_law_1600 rfl ?_
  refine g_aload_n (pc := 1601) hC dL_law_1601 rfl ?_
  refine g_iload (pc := 1602) hC dL_law_1602 rfl ?_
  refine g_iconst (pc := 1604) hC ki_1 dL_law_1604 ?_
  refine g_iadd (pc := 1605) hC dL_law_1605 ?_
  refine g_sld (pc := 1606) hC hL n1 e1 dL_law_1606 ?_
  refine g_aload_n (pc := 1607) hC dL_law_1607 rfl ?_
  refine g_iload (pc := 1608) hC dL_law_1608 rfl ?_
  refine g_iconst (pc := 1610) hC ki_2 dL_law_1610 ?_
  refine g_iadd (pc := 1611) hC dL_law_1611 ?_
  refine g_sld (pc := 1612) hC hL n2 e2 dL_law_1612 ?_
  refine g_aload_n (pc := 1613) hC dL_law_1613 rfl ?_
  refine g_callH (pc := 1614) (As := [.ref (E.2.1 0), .int s1, .int s2, .ref (E.2.1 92)]) (rest := []) hC (hr_bestAt l E s1 s2 σ o r σ1 h1) mh_bestAt lk_L_205 rfl rfl (Nat.le_of_ble_eq_true rfl) ⟨by decide, by decide⟩ hab dL_law_1614 ?_
  refine g_istore (lv2 := [some (.ref bb), some (.ref (E.2.1 0)), some (.ref (E.2.1 55)), some (.ref (E.2.1 92)), some (.int w), some (.int 0), none]) (pc := 1617) hC dL_law_1617 rfl (Or.inr rfl) (by rw [← hN]; decide) ?_
  refine g_aload_n (pc := 1619) hC dL_law_1619 rfl ?_
  refine g_aload_n (pc := 1620) hC dL_law_1620 rfl ?_
  refine g_iload (pc := 1621) hC dL_law_1621 rfl ?_
  refine g_iconst (pc := 1623) hC ki_1 dL_law_1623 ?_
  refine g_iadd (pc := 1624) hC dL_law_1624 ?_
  refine g_sld (pc := 1625) hC hL n1 e1 dL_law_1625 ?_
  refine g_aload_n (pc := 1626) hC dL_law_1626 rfl ?_
  refine g_iload (pc := 1627) hC dL_law_1627 rfl ?_
  refine g_iconst (pc := 1629) hC ki_2 dL_law_1629 ?_
  refine g_iadd (pc := 1630) hC dL_law_1630 ?_
  refine g_sld (pc := 1631) hC hL n2 e2 dL_law_1631 ?_
  refine g_callVi (pc := 1632) (As := [.int s1, .int s2]) (rest := []) hC (c_X12_bestAt l E s1 s2 σ1 r σ2 h2) mi_X12_bestAt mv_X12_bestAt ob_55 rfl rfl lk_L_207 rfl rfl (Nat.le_of_ble_eq_true rfl) ⟨by decide, by decide⟩ hab dL_law_1632 ?_
  refine g_istore (lv2 := [some (.ref bb), some (.ref (E.2.1 0)), some (.ref (E.2.1 55)), some (.ref (E.2.1 92)), some (.int w), some (.int 0), some (.int r)]) (pc := 1635) hC dL_law_1635 rfl (Or.inr rfl) (by rw [← hN]; decide) ?_
  refine g_aload_n (pc := 1637) hC dL_law_1637 rfl ?_
  refine g_callVi (pc := 1638) (As := []) (rest := []) hC (c_X12_thrown l E σ2 _ rfl) mi_X12_thrown mv_X12_thrown ob_55 rfl rfl lk_L_144 rfl rfl (Nat.le_of_ble_eq_true rfl) ⟨by decide, by decide⟩ hab dL_law_1638 ?_
  refine g_top h3.symm ?_
  refine g_iload (pc := 1641) hC dL_law_1641 rfl ?_
  refine g_icmp_eq (tgt := 1648) (pc := 1643) hC dL_law_1643 (by decide) (fun _ => ?_) (fun q => absurd rfl q)
  refine g_iload (pc := 1648) hC dL_law_1648 rfl ?_
  refine g_if_ne (tgt := 1665) (pc := 1650) hC dL_law_1650 (by decide) (fun q => absurd rfl q) (fun _ => ?_)
  refine g_aload_n (pc := 1653) hC dL_law_1653 rfl ?_
  refine g_iconst (pc := 1654) hC ki_0 dL_law_1654 ?_
  refine g_lald (pc := 1655) hC dL_law_1655 ?_
  refine g_iload (pc := 1656) hC dL_law_1656 rfl ?_
  refine g_i2l (pc := 1658) hC dL_law_1658 ?_
  refine g_lcmp (pc := 1659) hC dL_law_1659 ?_
  refine g_if_eq (tgt := 1665) (pc := 1660) hC dL_law_1660 (by decide) (fun _ => ?_) (fun q => absurd (lg_cmp_self _) q)
  refine g_goto (tgt := 2650) (pc := 1665) hC dL_law_1665 (by decide) ?_
  refine g_mask [true, true, true, true, true, false, false] rfl ?_
  exact kk
set_option maxRecDepth 20000 in
theorem law_24_x2 {l : Launch} {E : uE} {K : uK} {a b : Nat} {o : Int64} {σ : uS} {bb L : Nat} {xs : Nat → Int32} (hC : Cx E K RL cL_law (some .boolean) 11 414) (hN : 7 = K.2.2.2.2.2) (hL : Lx E K bb L xs) (w : Int32) (s1 : Int32) (e1 : s1 = xs (w + 1).toNatClampNeg) (n1 : vp_in (w + 1) L) (s2 : Int32) (e2 : s2 = xs (w + 2).toNatClampNeg) (n2 : vp_in (w + 2) L) (hl9 : l.stackTraces = false) (r : Int32) (σ1 σ2 : uS) (h1 : F_X11_bestAt s1 s2 σ = some (.inr 2, σ1)) (h2 : F_X12_bestAt s1 s2 σ1 = some (r, σ2)) (h3 : σ2 55 9 = 1) (hab : Rm K (a + 1) (b + 6)) (kk : Gd l E K (a + 1) (b + 6) o σ2 2650 [some (.ref bb), some (.ref (E.2.1 0)), some (.ref (E.2.1 55)), some (.ref (E.2.1 92)), some (.int w), none, none] []) : Gd l E K a b o σ 1600 [some (.ref bb), some (.ref (E.2.1 0)), some (.ref (E.2.1 55)), some (.ref (E.2.1 92)), some (.int w), none, none] [] := by
  refine g_aload_n (pc := 1600) hC dL_law_1600 rfl ?_
  refine g_aload_n (pc := 1601) hC dL_law_1601 rfl ?_
  refine g_iload (pc := 1602) hC dL_law_1602 rfl ?_
  refine g_iconst (pc := 1604) hC ki_1 dL_law_1604 ?_
  refine g_iadd (pc := 1605) hC dL_law_1605 ?_
  refine g_sld (pc := 1606) hC hL n1 e1 dL_law_1606 ?_
  refine g_aload_n (pc := 1607) hC dL_law_1607 rfl ?_
  refine g_iload (pc := 1608) hC dL_law_1608 rfl ?_
  refine g_iconst (pc := 1610) hC ki_2 dL_law_1610 ?_
  refine g_iadd (pc := 1611) hC dL_law_1611 ?_
  refine g_sld (pc := 1612) hC hL n2 e2 dL_law_1612 ?_
  refine g_aload_n (pc := 1613) hC dL_law_1613 rfl ?_
  refine g_callH (pc := 1614) (As := [.ref (E.2.1 0), .int s1, .int s2, .ref (E.2.1 92)]) (rest := []) hC (hx_bestAt_2 l hl9 E s1 s2 σ o σ1 h1) mh_bestAt lk_L_205 rfl rfl (Nat.le_of_ble_eq_true rfl) ⟨by decide, by decide⟩ hab dL_law_1614 ?_
  refine g_istore (lv2 := [some (.ref bb), some (.ref (E.2.1 0)), some (.ref (E.2.1 55)), some (.ref (E.2.1 92)), some (.int w), some (.int 1), none]) (pc := 1617) hC dL_law_1617 rfl (Or.inr rfl) (by rw [← hN]; decide) ?_
  refine g_aload_n (pc := 1619) hC dL_law_1619 rfl ?_
  refine g_aload_n (pc := 1620) hC dL_law_1620 rfl ?_
  refine g_iload (pc := 1621) hC dL_law_1621 rfl ?_
  refine g_iconst (pc := 1623) hC ki_1 dL_law_1623 ?_
  refine g_iadd (pc := 1624) hC dL_law_1624 ?_
  refine g_sld (pc := 1625) hC hL n1 e1 dL_law_1625 ?_
  refine g_aload_n (pc := 1626) hC dL_law_1626 rfl ?_
  refine g_iload (pc := 1627) hC dL_law_1627 rfl ?_
  refine g_iconst (pc := 1629) hC ki_2 dL_law_1629 ?_
  refine g_iadd (pc := 1630) hC dL_law_1630 ?_
  refine g_sld (pc := 1631) hC hL n2 e2 dL_law_1631 ?_
  refine g_callVi (pc := 1632) (As := [.int s1, .int s2]) (rest := []) hC (c_X12_bestAt l E s1 s2 σ1 r σ2 h2) mi_X12_bestAt mv_X12_bestAt ob_55 rfl rfl lk_L_207 rfl rfl (Nat.le_of_ble_eq_true rfl) ⟨by decide, by decide⟩ hab dL_law_1632 ?_
  refine g_istore (lv2 := [some (.ref bb), some (.ref (E.2.1 0)), some (.ref (E.2.1 55)), some (.ref (E.2.1 92)), some (.int w), some (.int 1), some (.int r)]) (pc := 1635) hC dL_law_1635 rfl (Or.inr rfl) (by rw [← hN]; decide) ?_
  refine g_aload_n (pc := 1637) hC dL_law_1637 rfl ?_
  refine g_callVi (pc := 1638) (As := []) (rest := []) hC (c_X12_thrown l E σ2 _ rfl) mi_X12_thrown mv_X12_thrown ob_55 rfl rfl lk_L_144 rfl rfl (Nat.le_of_ble_eq_true rfl) ⟨by decide, by decide⟩ hab dL_law_1638 ?_
  refine g_top h3.symm ?_
  refine g_iload (pc := 1641) hC dL_law_1641 rfl ?_
  refine g_icmp_eq (tgt := 1648) (pc := 1643) hC dL_law_1643 (by decide) (fun _ => ?_) (fun q => absurd rfl q)
  refine g_iload (pc := 1648) hC dL_law_1648 rfl ?_
  refine g_if_ne (tgt := 1665) (pc := 1650) hC dL_law_1650 (by decide) (fun _ => ?_) (fun q => absurd q (by decide))
  refine g_goto (tgt := 2650) (pc := 1665) hC dL_law_1665 (by decide) ?_
  refine g_mask [true, true, true, true, true, false, false] rfl ?_
  exact kk
set_option maxRecDepth 20000 in
theorem law_24_x1 {l : Launch} {E : uE} {K : uK} {a b : Nat} {o : Int64} {σ : uS} {bb L : Nat} {xs : Nat → Int32} (hC : Cx E K RL cL_law (some .boolean) 11 414) (hN : 7 = K.2.2.2.2.2) (hL : Lx E K bb L xs) (w : Int32) (s1 : Int32) (e1 : s1 = xs (w + 1).toNatClampNeg) (n1 : vp_in (w + 1) L) (s2 : Int32) (e2 : s2 = xs (w + 2).toNatClampNeg) (n2 : vp_in (w + 2) L) (hl9 : l.stackTraces = false) (r : Int32) (σ1 σ2 : uS) (h1 : F_X11_bestAt s1 s2 σ = some (.inr 1, σ1)) (h2 : F_X12_bestAt s1 s2 σ1 = some (r, σ2)) (h3 : σ2 55 9 = 2) (hab : Rm K (a + 1) (b + 6)) (kk : Gd l E K (a + 1) (b + 6) o σ2 2650 [some (.ref bb), some (.ref (E.2.1 0)), some (.ref (E.2.1 55)), some (.ref (E.2.1 92)), some (.int w), none, none] []) : Gd l E K a b o σ 1600 [some (.ref bb), some (.ref (E.2.1 0)), some (.ref (E.2.1 55)), some (.ref (E.2.1 92)), some (.int w), none, none] [] := by
  refine g_aload_n (pc := 1600) hC dL_law_1600 rfl ?_
  refine g_aload_n (pc := 1601) hC dL_law_1601 rfl ?_
  refine g_iload (pc := 1602) hC dL_law_1602 rfl ?_
  refine g_iconst (pc := 1604) hC ki_1 dL_law_1604 ?_
  refine g_iadd (pc := 1605) hC dL_law_1605 ?_
  refine g_sld (pc := 1606) hC hL n1 e1 dL_law_1606 ?_
  refine g_aload_n (pc := 1607) hC dL_law_1607 rfl ?_
  refine g_iload (pc := 1608) hC dL_law_1608 rfl ?_
  refine g_iconst (pc := 1610) hC ki_2 dL_law_1610 ?_
  refine g_iadd (pc := 1611) hC dL_law_1611 ?_
  refine g_sld (pc := 1612) hC hL n2 e2 dL_law_1612 ?_
  refine g_aload_n (pc := 1613) hC dL_law_1613 rfl ?_
  refine g_callH (pc := 1614) (As := [.ref (E.2.1 0), .int s1, .int s2, .ref (E.2.1 92)]) (rest := []) hC (hx_bestAt_1 l hl9 E s1 s2 σ o σ1 h1) mh_bestAt lk_L_205 rfl rfl (Nat.le_of_ble_eq_true rfl) ⟨by decide, by decide⟩ hab dL_law_1614 ?_
  refine g_istore (lv2 := [some (.ref bb), some (.ref (E.2.1 0)), some (.ref (E.2.1 55)), some (.ref (E.2.1 92)), some (.int w), some (.int 2), none]) (pc := 1617) hC dL_law_1617 rfl (Or.inr rfl) (by rw [← hN]; decide) ?_
  refine g_aload_n (pc := 1619) hC dL_law_1619 rfl ?_
  refine g_aload_n (pc := 1620) hC dL_law_1620 rfl ?_
  refine g_iload (pc := 1621) hC dL_law_1621 rfl ?_
  refine g_iconst (pc := 1623) hC ki_1 dL_law_1623 ?_
  refine g_iadd (pc := 1624) hC dL_law_1624 ?_
  refine g_sld (pc := 1625) hC hL n1 e1 dL_law_1625 ?_
  refine g_aload_n (pc := 1626) hC dL_law_1626 rfl ?_
  refine g_iload (pc := 1627) hC dL_law_1627 rfl ?_
  refine g_iconst (pc := 1629) hC ki_2 dL_law_1629 ?_
  refine g_iadd (pc := 1630) hC dL_law_1630 ?_
  refine g_sld (pc := 1631) hC hL n2 e2 dL_law_1631 ?_
  refine g_callVi (pc := 1632) (As := [.int s1, .int s2]) (rest := []) hC (c_X12_bestAt l E s1 s2 σ1 r σ2 h2) mi_X12_bestAt mv_X12_bestAt ob_55 rfl rfl lk_L_207 rfl rfl (Nat.le_of_ble_eq_true rfl) ⟨by decide, by decide⟩ hab dL_law_1632 ?_
  refine g_istore (lv2 := [some (.ref bb), some (.ref (E.2.1 0)), some (.ref (E.2.1 55)), some (.ref (E.2.1 92)), some (.int w), some (.int 2), some (.int r)]) (pc := 1635) hC dL_law_1635 rfl (Or.inr rfl) (by rw [← hN]; decide) ?_
  refine g_aload_n (pc := 1637) hC dL_law_1637 rfl ?_
  refine g_callVi (pc := 1638) (As := []) (rest := []) hC (c_X12_thrown l E σ2 _ rfl) mi_X12_thrown mv_X12_thrown ob_55 rfl rfl lk_L_144 rfl rfl (Nat.le_of_ble_eq_true rfl) ⟨by decide, by decide⟩ hab dL_law_1638 ?_
  refine g_top h3.symm ?_
  refine g_iload (pc := 1641) hC dL_law_1641 rfl ?_
  refine g_icmp_eq (tgt := 1648) (pc := 1643) hC dL_law_1643 (by decide) (fun _ => ?_) (fun q => absurd rfl q)
  refine g_iload (pc := 1648) hC dL_law_1648 rfl ?_
  refine g_if_ne (tgt := 1665) (pc := 1650) hC dL_law_1650 (by decide) (fun _ => ?_) (fun q => absurd q (by decide))
  refine g_goto (tgt := 2650) (pc := 1665) hC dL_law_1665 (by decide) ?_
  refine g_mask [true, true, true, true, true, false, false] rfl ?_
  exact kk
set_option maxRecDepth 20000 in
theorem law_25_r {l : Launch} {E : uE} {K : uK} {a b : Nat} {o : Int64} {σ : uS} {bb L : Nat} {xs : Nat → Int32} (hC : Cx E K RL cL_law (some .boolean) 11 414) (hN : 7 = K.2.2.2.2.2) (hL : Lx E K bb L xs) (w : Int32) (s1 : Int32) (e1 : s1 = xs (w + 1).toNatClampNeg) (n1 : vp_in (w + 1) L) (s2 : Int32) (e2 : s2 = xs (w + 2).toNatClampNeg) (n2 : vp_in (w + 2) L) (r : Int32) (σ1 σ2 : uS) (h1 : F_X11_would s1 s2 σ = some (.inl r, σ1)) (h2 : F_X12_would s1 s2 σ1 = some (r, σ2)) (h3 : σ2 55 9 = 0) (hab : Rm K a b) (kk : Gd l E K a b r.toInt64 σ2 2650 [some (.ref bb), some (.ref (E.2.1 0)), some (.ref (E.2.1 55)), some (.ref (E.2.1 92)), some (.int w), none, none] []) : Gd l E K a b o σ 1668 [some (.ref bb), some (.ref (E.2.1 0)), some (.ref (E.2.1 55)), some (.ref (E.2.1 92)), some (.int w), none, none] [] := by
  refine g_aload_n (pc := 1668) hC dL_law_1668 rfl ?_
  refine g_aload_n (pc := 1669) hC dL_law_1669 rfl ?_
  refine g_iload (pc := 1670) hC dL_law_1670 rfl ?_
  refine g_iconst (pc := 1672) hC ki_1 dL_law_1672 ?_
  refine g_iadd (pc := 1673) hC dL_law_1673 ?_
  refine g_sld (pc := 1674) hC hL n1 e1 dL_law_1674 ?_
  refine g_aload_n (pc := 1675) hC dL_law_1675 rfl ?_
  refine g_iload (pc := 1676) hC dL_law_1676 rfl ?_
  refine g_iconst (pc := 1678) hC ki_2 dL_law_1678 ?_
  refine g_iadd (pc := 1679) hC dL_law_1679 ?_
  refine g_sld (pc := 1680) hC hL n2 e2 dL_law_1680 ?_
  refine g_aload_n (pc := 1681) hC dL_law_1681 rfl ?_
  refine g_callH (pc := 1682) (As := [.ref (E.2.1 0), .int s1, .int s2, .ref (E.2.1 92)]) (rest := []) hC (hr_would l E s1 s2 σ o r σ1 h1) mh_would lk_L_208 rfl rfl (Nat.le_of_ble_eq_true rfl) ⟨by decide, by decide⟩ hab dL_law_1682 ?_
  refine g_istore (lv2 := [some (.ref bb), some (.ref (E.2.1 0)), some (.ref (E.2.1 55)), some (.ref (E.2.1 92)), some (.int w), some (.int 0), none]) (pc := 1685) hC dL_law_1685 rfl (Or.inr rfl) (by rw [← hN]; decide) ?_
  refine g_aload_n (pc := 1687) hC dL_law_1687 rfl ?_
  refine g_aload_n (pc := 1688) hC dL_law_1688 rfl ?_
  refine g_iload (pc := 1689) hC dL_law_1689 rfl ?_
  refine g_iconst (pc := 1691) hC ki_1 dL_law_1691 ?_
  refine g_iadd (pc := 1692) hC dL_law_1692 ?_
  refine g_sld (pc := 1693) hC hL n1 e1 dL_law_1693 ?_
  refine g_aload_n (pc := 1694) hC dL_law_1694 rfl ?_
  refine g_iload (pc := 1695) hC dL_law_1695 rfl ?_
  refine g_iconst (pc := 1697) hC ki_2 dL_law_1697 ?_
  refine g_iadd (pc := 1698) hC dL_law_1698 ?_
  refine g_sld (pc := 1699) hC hL n2 e2 dL_law_1699 ?_
  refine g_callVi (pc := 1700) (As := [.int s1, .int s2]) (rest := []) hC (c_X12_would l E s1 s2 σ1 r σ2 h2) mi_X12_would mv_X12_would ob_55 rfl rfl lk_L_210 rfl rfl (Nat.le_of_ble_eq_true rfl) ⟨by decide, by decide⟩ hab dL_law_1700 ?_
  refine g_istore (lv2 := [some (.ref bb), some (.ref (E.2.1 0)), some (.ref (E.2.1 55)), some (.ref (E.2.1 92)), some (.int w), some (.int 0), some (.int r)]) (pc := 1703) hC dL_law_1703 rfl (Or.inr rfl) (by rw [← hN]; decide) ?_
  refine g_aload_n (pc := 1705) hC dL_law_1705 rfl ?_
  refine g_callVi (pc := 1706) (As := []) (rest := []) hC (c_X12_thrown l E σ2 _ rfl) mi_X12_thrown mv_X12_thrown ob_55 rfl rfl lk_L_144 rfl rfl (Nat.le_of_ble_eq_true rfl) ⟨by decide, by decide⟩ hab dL_law_1706 ?_
  refine g_top h3.symm ?_
  refine g_iload (pc := 1709) hC dL_law_1709 rfl ?_
  refine g_icmp_eq (tgt := 1716) (pc := 1711) hC dL_law_1711 (by decide) (fun _ => ?_) (fun q => absurd rfl q)
  refine g_iload (pc := 1716) hC dL_law_1716 rfl ?_
  refine g_if_ne (tgt := 1733) (pc := 1718) hC dL_law_1718 (by decide) (fun q => absurd rfl q) (fun _ => ?_)
  refine g_aload_n (pc := 1721) hC dL_law_1721 rfl ?_
  refine g_iconst (pc := 1722) hC ki_0 dL_law_1722 ?_
  refine g_lald (pc := 1723) hC dL_law_1723 ?_
  refine g_iload (pc := 1724) hC dL_law_1724 rfl ?_
  refine g_i2l (pc := 1726) hC dL_law_1726 ?_
  refine g_lcmp (pc := 1727) hC dL_law_1727 ?_
  refine g_if_eq (tgt := 1733) (pc := 1728) hC dL_law_1728 (by decide) (fun _ => ?_) (fun q => absurd (lg_cmp_self _) q)
  refine g_goto (tgt := 2650) (pc := 1733) hC dL_law_1733 (by decide) ?_
  refine g_mask [true, true, true, true, true, false, false] rfl ?_
  exact kk
set_option maxRecDepth 20000 in
theorem law_25_x2 {l : Launch} {E : uE} {K : uK} {a b : Nat} {o : Int64} {σ : uS} {bb L : Nat} {xs : Nat → Int32} (hC : Cx E K RL cL_law (some .boolean) 11 414) (hN : 7 = K.2.2.2.2.2) (hL : Lx E K bb L xs) (w : Int32) (s1 : Int32) (e1 : s1 = xs (w + 1).toNatClampNeg) (n1 : vp_in (w + 1) L) (s2 : Int32) (e2 : s2 = xs (w + 2).toNatClampNeg) (n2 : vp_in (w + 2) L) (hl9 : l.stackTraces = false) (r : Int32) (σ1 σ2 : uS) (h1 : F_X11_would s1 s2 σ = some (.inr 2, σ1)) (h2 : F_X12_would s1 s2 σ1 = some (r, σ2)) (h3 : σ2 55 9 = 1) (hab : Rm K (a + 1) (b + 6)) (kk : Gd l E K (a + 1) (b + 6) o σ2 2650 [some (.ref bb), some (.ref (E.2.1 0)), some (.ref (E.2.1 55)), some (.ref (E.2.1 92)), some (.int w), none, none] []) : Gd l E K a b o σ 1668 [some (.ref bb), some (.ref (E.2.1 0)), some (.ref (E.2.1 55)), some (.ref (E.2.1 92)), some (.int w), none, none] [] := by
  refine g_aload_n (pc := 1668) hC dL_law_1668 rfl ?_
  refine g_aload_n (pc := 1669) hC dL_law_1669 rfl ?_
  refine g_iload (pc := 1670) hC dL_law_1670 rfl ?_
  refine g_iconst (pc := 1672) hC ki_1 dL_law_1672 ?_
  refine g_iadd (pc := 1673) hC dL_law_1673 ?_
  refine g_sld (pc := 1674) hC hL n1 e1 dL_law_1674 ?_
  refine g_aload_n (pc := 1675) hC dL_law_1675 rfl ?_
  refine g_iload (pc := 1676) hC dL_law_1676 rfl ?_
  refine g_iconst (pc := 1678) hC ki_2 dL_law_1678 ?_
  refine g_iadd (pc := 1679) hC dL_law_1679 ?_
  refine g_sld (pc := 1680) hC hL n2 e2 dL_law_1680 ?_
  refine g_aload_n (pc := 1681) hC dL_law_1681 rfl ?_
  refine g_callH (pc := 1682) (As := [.ref (E.2.1 0), .int s1, .int s2, .ref (E.2.1 92)]) (rest := []) hC (hx_would_2 l hl9 E s1 s2 σ o σ1 h1) mh_would lk_L_208 rfl rfl (Nat.le_of_ble_eq_true rfl) ⟨by decide, by decide⟩ hab dL_law_1682 ?_
  refine g_istore (lv2 := [some (.ref bb), some (.ref (E.2.1 0)), some (.ref (E.2.1 55)), some (.ref (E.2.1 92)), some (.int w), some (.int 1), none]) (pc := 1685) hC dL_law_1685 rfl (Or.inr rfl) (by rw [← hN]; decide) ?_
  refine g_aload_n (pc := 1687) hC dL_law_1687 rfl ?_
  refine g_aload_n (pc := 1688) hC dL_law_1688 rfl ?_
  refine g_iload (pc := 1689) hC dL_law_1689 rfl ?_
  refine g_iconst (pc := 1691) hC ki_1 dL_law_1691 ?_
  refine g_iadd (pc := 1692) hC dL_law_1692 ?_
  refine g_sld (pc := 1693) hC hL n1 e1 dL_law_1693 ?_
  refine g_aload_n (pc := 1694) hC dL_law_1694 rfl ?_
  refine g_iload (pc := 1695) hC dL_law_1695 rfl ?_
  refine g_iconst (pc := 1697) hC ki_2 dL_law_1697 ?_
  refine g_iadd (pc := 1698) hC dL_law_1698 ?_
  refine g_sld (pc := 1699) hC hL n2 e2 dL_law_1699 ?_
  refine g_callVi (pc := 1700) (As := [.int s1, .int s2]) (rest := []) hC (c_X12_would l E s1 s2 σ1 r σ2 h2) mi_X12_would mv_X12_would ob_55 rfl rfl lk_L_210 rfl rfl (Nat.le_of_ble_eq_true rfl) ⟨by decide, by decide⟩ hab dL_law_1700 ?_
  refine g_istore (lv2 := [some (.ref bb), some (.ref (E.2.1 0)), some (.ref (E.2.1 55)), some (.ref (E.2.1 92)), some (.int w), some (.int 1), some (.int r)]) (pc := 1703) hC dL_law_1703 rfl (Or.inr rfl) (by rw [← hN]; decide) ?_
  refine g_aload_n (pc := 1705) hC dL_law_1705 rfl ?_
  refine g_callVi (pc := 1706) (As := []) (rest := []) hC (c_X12_thrown l E σ2 _ rfl) mi_X12_thrown mv_X12_thrown ob_55 rfl rfl lk_L_144 rfl rfl (Nat.le_of_ble_eq_true rfl) ⟨by decide, by decide⟩ hab dL_law_1706 ?_
  refine g_top h3.symm ?_
  refine g_iload (pc := 1709) hC dL_law_1709 rfl ?_
  refine g_icmp_eq (tgt := 1716) (pc := 1711) hC dL_law_1711 (by decide) (fun _ => ?_) (fun q => absurd rfl q)
  refine g_iload (pc := 1716) hC dL_law_1716 rfl ?_
  refine g_if_ne (tgt := 1733) (pc := 1718) hC dL_law_1718 (by decide) (fun _ => ?_) (fun q => absurd q (by decide))
  refine g_goto (tgt := 2650) (pc := 1733) hC dL_law_1733 (by decide) ?_
  refine g_mask [true, true, true, true, true, false, false] rfl ?_
  exact kk
set_option maxRecDepth 20000 in
theorem law_26 {l : Launch} {E : uE} {K : uK} {a b : Nat} {o : Int64} {σ : uS} {bb L : Nat} {xs : Nat → Int32} (hC : Cx E K RL cL_law (some .boolean) 11 414) (hN : 7 = K.2.2.2.2.2) (hL : Lx E K bb L xs) (w : Int32) (r : Int32) (σ1 σ2 : uS) (h1 : F_X11_doubled σ = some (r, σ1)) (h2 : F_X12_doubled σ1 = some (r, σ2)) (hab : Rm K a b) (kk : Gd l E K a b o σ2 2650 [some (.ref bb), some (.ref (E.2.1 0)), some (.ref (E.2.1 55)), some (.ref (E.2.1 92)), some (.int w), none, none] []) : Gd l E K a b o σ 1736 [some (.ref bb), some (.ref (E.2.1 0)), some (.ref (E.2.1 55)), some (.ref (E.2.1 92)), some (.int w), none, none] [] := by
  refine g_aload_n (pc := 1736) hC dL_law_1736 rfl ?_
  refine g_callVi (pc := 1737) (As := []) (rest := []) hC (c_X11_doubled l E σ r σ1 h1) mi_X11_doubled mv_X11_doubled ob_0 rfl rfl lk_L_211 rfl rfl (Nat.le_of_ble_eq_true rfl) ⟨by decide, by decide⟩ hab dL_law_1737 ?_
  refine g_aload_n (pc := 1740) hC dL_law_1740 rfl ?_
  refine g_callVi (pc := 1741) (As := []) (rest := [.int r]) hC (c_X12_doubled l E σ1 r σ2 h2) mi_X12_doubled mv_X12_doubled ob_55 rfl rfl lk_L_214 rfl rfl (Nat.le_of_ble_eq_true rfl) ⟨by decide, by decide⟩ hab dL_law_1741 ?_
  refine g_icmp_eq (tgt := 2650) (pc := 1744) hC dL_law_1744 (by decide) (fun _ => ?_) (fun q => absurd rfl q)
  exact kk
set_option maxRecDepth 20000 in
theorem law_27 {l : Launch} {E : uE} {K : uK} {a b : Nat} {o : Int64} {σ : uS} {bb L : Nat} {xs : Nat → Int32} (hC : Cx E K RL cL_law (some .boolean) 11 414) (hN : 7 = K.2.2.2.2.2) (hL : Lx E K bb L xs) (w : Int32) (r : Int32) (σ1 σ2 : uS) (h1 : F_X11_spans σ = some (r, σ1)) (h2 : F_X12_spans σ1 = some (r, σ2)) (hab : Rm K a b) (kk : Gd l E K a b o σ2 2650 [some (.ref bb), some (.ref (E.2.1 0)), some (.ref (E.2.1 55)), some (.ref (E.2.1 92)), some (.int w), none, none] []) : Gd l E K a b o σ 1749 [some (.ref bb), some (.ref (E.2.1 0)), some (.ref (E.2.1 55)), some (.ref (E.2.1 92)), some (.int w), none, none] [] := by
  refine g_aload_n (pc := 1749) hC dL_law_1749 rfl ?_
  refine g_callVi (pc := 1750) (As := []) (rest := []) hC (c_X11_spans l E σ r σ1 h1) mi_X11_spans mv_X11_spans ob_0 rfl rfl lk_L_215 rfl rfl (Nat.le_of_ble_eq_true rfl) ⟨by decide, by decide⟩ hab dL_law_1750 ?_
  refine g_aload_n (pc := 1753) hC dL_law_1753 rfl ?_
  refine g_callVi (pc := 1754) (As := []) (rest := [.int r]) hC (c_X12_spans l E σ1 r σ2 h2) mi_X12_spans mv_X12_spans ob_55 rfl rfl lk_L_218 rfl rfl (Nat.le_of_ble_eq_true rfl) ⟨by decide, by decide⟩ hab dL_law_1754 ?_
  refine g_icmp_eq (tgt := 2650) (pc := 1757) hC dL_law_1757 (by decide) (fun _ => ?_) (fun q => absurd rfl q)
  exact kk
set_option maxRecDepth 20000 in
theorem law_28_r {l : Launch} {E : uE} {K : uK} {a b : Nat} {o : Int64} {σ : uS} {bb L : Nat} {xs : Nat → Int32} (hC : Cx E K RL cL_law (some .boolean) 11 414) (hN : 7 = K.2.2.2.2.2) (hL : Lx E K bb L xs) (w : Int32) (s1 : Int32) (e1 : s1 = xs (w + 1).toNatClampNeg) (n1 : vp_in (w + 1) L) (s2 : Int32) (e2 : s2 = xs (w + 2).toNatClampNeg) (n2 : vp_in (w + 2) L) (r : Int32) (σ1 σ2 : uS) (h1 : F_X11_span s1 s2 σ = some (.inl r, σ1)) (h2 : F_X12_span s1 s2 σ1 = some (r, σ2)) (h3 : σ2 55 9 = 0) (hab : Rm K a b) (kk : Gd l E K a b r.toInt64 σ2 2650 [some (.ref bb), some (.ref (E.2.1 0)), some (.ref (E.2.1 55)), some (.ref (E.2.1 92)), some (.int w), none, none] []) : Gd l E K a b o σ 1762 [some (.ref bb), some (.ref (E.2.1 0)), some (.ref (E.2.1 55)), some (.ref (E.2.1 92)), some (.int w), none, none] [] := by
  refine g_aload_n (pc := 1762) hC dL_law_1762 rfl ?_
  refine g_aload_n (pc := 1763) hC dL_law_1763 rfl ?_
  refine g_iload (pc := 1764) hC dL_law_1764 rfl ?_
  refine g_iconst (pc := 1766) hC ki_1 dL_law_1766 ?_
  refine g_iadd (pc := 1767) hC dL_law_1767 ?_
  refine g_sld (pc := 1768) hC hL n1 e1 dL_law_1768 ?_
  refine g_aload_n (pc := 1769) hC dL_law_1769 rfl ?_
  refine g_iload (pc := 1770) hC dL_law_1770 rfl ?_
  refine g_iconst (pc := 1772) hC ki_2 dL_law_1772 ?_
  refine g_iadd (pc := 1773) hC dL_law_1773 ?_
  refine g_sld (pc := 1774) hC hL n2 e2 dL_law_1774 ?_
  refine g_aload_n (pc := 1775) hC dL_law_1775 rfl ?_
  refine g_callH (pc := 1776) (As := [.ref (E.2.1 0), .int s1, .int s2, .ref (E.2.1 92)]) (rest := []) hC (hr_span l E s1 s2 σ o r σ1 h1) mh_span lk_L_219 rfl rfl (Nat.le_of_ble_eq_true rfl) ⟨by decide, by decide⟩ hab dL_law_1776 ?_
  refine g_istore (lv2 := [some (.ref bb), some (.ref (E.2.1 0)), some (.ref (E.2.1 55)), some (.ref (E.2.1 92)), some (.int w), some (.int 0), none]) (pc := 1779) hC dL_law_1779 rfl (Or.inr rfl) (by rw [← hN]; decide) ?_
  refine g_aload_n (pc := 1781) hC dL_law_1781 rfl ?_
  refine g_aload_n (pc := 1782) hC dL_law_1782 rfl ?_
  refine g_iload (pc := 1783) hC dL_law_1783 rfl ?_
  refine g_iconst (pc := 1785) hC ki_1 dL_law_1785 ?_
  refine g_iadd (pc := 1786) hC dL_law_1786 ?_
  refine g_sld (pc := 1787) hC hL n1 e1 dL_law_1787 ?_
  refine g_aload_n (pc := 1788) hC dL_law_1788 rfl ?_
  refine g_iload (pc := 1789) hC dL_law_1789 rfl ?_
  refine g_iconst (pc := 1791) hC ki_2 dL_law_1791 ?_
  refine g_iadd (pc := 1792) hC dL_law_1792 ?_
  refine g_sld (pc := 1793) hC hL n2 e2 dL_law_1793 ?_
  refine g_callVi (pc := 1794) (As := [.int s1, .int s2]) (rest := []) hC (c_X12_span l E s1 s2 σ1 r σ2 h2) mi_X12_span mv_X12_span ob_55 rfl rfl lk_L_221 rfl rfl (Nat.le_of_ble_eq_true rfl) ⟨by decide, by decide⟩ hab dL_law_1794 ?_
  refine g_istore (lv2 := [some (.ref bb), some (.ref (E.2.1 0)), some (.ref (E.2.1 55)), some (.ref (E.2.1 92)), some (.int w), some (.int 0), some (.int r)]) (pc := 1797) hC dL_law_1797 rfl (Or.inr rfl) (by rw [← hN]; decide) ?_
  refine g_aload_n (pc := 1799) hC dL_law_1799 rfl ?_
  refine g_callVi (pc := 1800) (As := []) (rest := []) hC (c_X12_thrown l E σ2 _ rfl) mi_X12_thrown mv_X12_thrown ob_55 rfl rfl lk_L_144 rfl rfl (Nat.le_of_ble_eq_true rfl) ⟨by decide, by decide⟩ hab dL_law_1800 ?_
  refine g_top h3.symm ?_
  refine g_iload (pc := 1803) hC dL_law_1803 rfl ?_
  refine g_icmp_eq (tgt := 1810) (pc := 1805) hC dL_law_1805 (by decide) (fun _ => ?_) (fun q => absurd rfl q)
  refine g_iload (pc := 1810) hC dL_law_1810 rfl ?_
  refine g_if_ne (tgt := 1827) (pc := 1812) hC dL_law_1812 (by decide) (fun q => absurd rfl q) (fun _ => ?_)
  refine g_aload_n (pc := 1815) hC dL_law_1815 rfl ?_
  refine g_iconst (pc := 1816) hC ki_0 dL_law_1816 ?_
  refine g_lald (pc := 1817) hC dL_law_1817 ?_
  refine g_iload (pc := 1818) hC dL_law_1818 rfl ?_
  refine g_i2l (pc := 1820) hC dL_law_1820 ?_
  refine g_lcmp (pc := 1821) hC dL_law_1821 ?_
  refine g_if_eq (tgt := 1827) (pc := 1822) hC dL_law_1822 (by decide) (fun _ => ?_) (fun q => absurd (lg_cmp_self _) q)
  refine g_goto (tgt := 2650) (pc := 1827) hC dL_law_1827 (by decide) ?_
  refine g_mask [true, true, true, true, true, false, false] rfl ?_
  exact kk
set_option maxRecDepth 20000 in
theorem law_28_x1 {l : Launch} {E : uE} {K : uK} {a b : Nat} {o : Int64} {σ : uS} {bb L : Nat} {xs : Nat → Int32} (hC : Cx E K RL cL_law (some .boolean) 11 414) (hN : 7 = K.2.2.2.2.2) (hL : Lx E K bb L xs) (w : Int32) (s1 : Int32) (e1 : s1 = xs (w + 1).toNatClampNeg) (n1 : vp_in (w + 1) L) (s2 : Int32) (e2 : s2 = xs (w + 2).toNatClampNeg) (n2 : vp_in (w + 2) L) (hl9 : l.stackTraces = false) (r : Int32) (σ1 σ2 : uS) (h1 : F_X11_span s1 s2 σ = some (.inr 1, σ1)) (h2 : F_X12_span s1 s2 σ1 = some (r, σ2)) (h3 : σ2 55 9 = 1) (hab : Rm K (a + 1) (b + 6)) (kk : Gd l E K (a + 1) (b + 6) o σ2 2650 [some (.ref bb), some (.ref (E.2.1 0)), some (.ref (E.2.1 55)), some (.ref (E.2.1 92)), some (.int w), none, none] []) : Gd l E K a b o σ 1762 [some (.ref bb), some (.ref (E.2.1 0)), some (.ref (E.2.1 55)), some (.ref (E.2.1 92)), some (.int w), none, none] [] := by
  refine g_aload_n (pc := 1762) hC dL_law_1762 rfl ?_
  refine g_aload_n (pc := 1763) hC dL_law_1763 rfl ?_
  refine g_iload (pc := 1764) hC dL_law_1764 rfl ?_
  refine g_iconst (pc := 1766) hC ki_1 dL_law_1766 ?_
  refine g_iadd (pc := 1767) hC dL_law_1767 ?_
  refine g_sld (pc := 1768) hC hL n1 e1 dL_law_1768 ?_
  refine g_aload_n (pc := 1769) hC dL_law_1769 rfl ?_
  refine g_iload (pc := 1770) hC dL_law_1770 rfl ?_
  refine g_iconst (pc := 1772) hC ki_2 dL_law_1772 ?_
  refine g_iadd (pc := 1773) hC dL_law_1773 ?_
  refine g_sld (pc := 1774) hC hL n2 e2 dL_law_1774 ?_
  refine g_aload_n (pc := 1775) hC dL_law_1775 rfl ?_
  refine g_callH (pc := 1776) (As := [.ref (E.2.1 0), .int s1, .int s2, .ref (E.2.1 92)]) (rest := []) hC (hx_span_1 l hl9 E s1 s2 σ o σ1 h1) mh_span lk_L_219 rfl rfl (Nat.le_of_ble_eq_true rfl) ⟨by decide, by decide⟩ hab dL_law_1776 ?_
  refine g_istore (lv2 := [some (.ref bb), some (.ref (E.2.1 0)), some (.ref (E.2.1 55)), some (.ref (E.2.1 92)), some (.int w), some (.int 1), none]) (pc := 1779) hC dL_law_1779 rfl (Or.inr rfl) (by rw [← hN]; decide) ?_
  refine g_aload_n (pc := 1781) hC dL_law_1781 rfl ?_
  refine g_aload_n (pc := 1782) hC dL_law_1782 rfl ?_
  refine g_iload (pc := 1783) hC dL_law_1783 rfl ?_
  refine g_iconst (pc := 1785) hC ki_1 dL_law_1785 ?_
  refine g_iadd (pc := 1786) hC dL_law_1786 ?_
  refine g_sld (pc := 1787) hC hL n1 e1 dL_law_1787 ?_
  refine g_aload_n (pc := 1788) hC dL_law_1788 rfl ?_
  refine g_iload (pc := 1789) hC dL_law_1789 rfl ?_
  refine g_iconst (pc := 1791) hC ki_2 dL_law_1791 ?_
  refine g_iadd (pc := 1792) hC dL_law_1792 ?_
  refine g_sld (pc := 1793) hC hL n2 e2 dL_law_1793 ?_
  refine g_callVi (pc := 1794) (As := [.int s1, .int s2]) (rest := []) hC (c_X12_span l E s1 s2 σ1 r σ2 h2) mi_X12_span mv_X12_span ob_55 rfl rfl lk_L_221 rfl rfl (Nat.le_of_ble_eq_true rfl) ⟨by decide, by decide⟩ hab dL_law_1794 ?_
  refine g_istore (lv2 := [some (.ref bb), some (.ref (E.2.1 0)), some (.ref (E.2.1 55)), some (.ref (E.2.1 92)), some (.int w), some (.int 1), some (.int r)]) (pc := 1797) hC dL_law_1797 rfl (Or.inr rfl) (by rw [← hN]; decide) ?_
  refine g_aload_n (pc := 1799) hC dL_law_1799 rfl ?_
  refine g_callVi (pc := 1800) (As := []) (rest := []) hC (c_X12_thrown l E σ2 _ rfl) mi_X12_thrown mv_X12_thrown ob_55 rfl rfl lk_L_144 rfl rfl (Nat.le_of_ble_eq_true rfl) ⟨by decide, by decide⟩ hab dL_law_1800 ?_
  refine g_top h3.symm ?_
  refine g_iload (pc := 1803) hC dL_law_1803 rfl ?_
  refine g_icmp_eq (tgt := 1810) (pc := 1805) hC dL_law_1805 (by decide) (fun _ => ?_) (fun q => absurd rfl q)
  refine g_iload (pc := 1810) hC dL_law_1810 rfl ?_
  refine g_if_ne (tgt := 1827) (pc := 1812) hC dL_law_1812 (by decide) (fun _ => ?_) (fun q => absurd q (by decide))
  refine g_goto (tgt := 2650) (pc := 1827) hC dL_law_1827 (by decide) ?_
  refine g_mask [true, true, true, true, true, false, false] rfl ?_
  exact kk
set_option maxRecDepth 20000 in
theorem law_29 {l : Launch} {E : uE} {K : uK} {a b : Nat} {o : Int64} {σ : uS} {bb L : Nat} {xs : Nat → Int32} (hC : Cx E K RL cL_law (some .boolean) 11 414) (hN : 7 = K.2.2.2.2.2) (hL : Lx E K bb L xs) (w : Int32) (r : Int32) (σ1 σ2 : uS) (h1 : F_X11_notes σ = some (r, σ1)) (h2 : F_X12_notes σ1 = some (r, σ2)) (hab : Rm K a b) (kk : Gd l E K a b o σ2 2650 [some (.ref bb), some (.ref (E.2.1 0)), some (.ref (E.2.1 55)), some (.ref (E.2.1 92)), some (.int w), none, none] []) : Gd l E K a b o σ 1830 [some (.ref bb), some (.ref (E.2.1 0)), some (.ref (E.2.1 55)), some (.ref (E.2.1 92)), some (.int w), none, none] [] := by
  refine g_aload_n (pc := 1830) hC dL_law_1830 rfl ?_
  refine g_callVi (pc := 1831) (As := []) (rest := []) hC (c_X11_notes l E σ r σ1 h1) mi_X11_notes mv_X11_notes ob_0 rfl rfl lk_L_222 rfl rfl (Nat.le_of_ble_eq_true rfl) ⟨by decide, by decide⟩ hab dL_law_1831 ?_
  refine g_aload_n (pc := 1834) hC dL_law_1834 rfl ?_
  refine g_callVi (pc := 1835) (As := []) (rest := [.int r]) hC (c_X12_notes l E σ1 r σ2 h2) mi_X12_notes mv_X12_notes ob_55 rfl rfl lk_L_225 rfl rfl (Nat.le_of_ble_eq_true rfl) ⟨by decide, by decide⟩ hab dL_law_1835 ?_
  refine g_icmp_eq (tgt := 2650) (pc := 1838) hC dL_law_1838 (by decide) (fun _ => ?_) (fun q => absurd rfl q)
  exact kk
set_option maxRecDepth 20000 in
theorem law_30_r {l : Launch} {E : uE} {K : uK} {a b : Nat} {o : Int64} {σ : uS} {bb L : Nat} {xs : Nat → Int32} (hC : Cx E K RL cL_law (some .boolean) 11 414) (hN : 7 = K.2.2.2.2.2) (hL : Lx E K bb L xs) (w : Int32) (s1 : Int32) (e1 : s1 = xs (w + 1).toNatClampNeg) (n1 : vp_in (w + 1) L) (s2 : Int32) (e2 : s2 = xs (w + 2).toNatClampNeg) (n2 : vp_in (w + 2) L) (r : Int32) (σ1 σ2 : uS) (h1 : F_X11_note s1 s2 σ = some (.inl r, σ1)) (h2 : F_X12_note s1 s2 σ1 = some (r, σ2)) (h3 : σ2 55 9 = 0) (hab : Rm K a b) (kk : Gd l E K a b r.toInt64 σ2 2650 [some (.ref bb), some (.ref (E.2.1 0)), some (.ref (E.2.1 55)), some (.ref (E.2.1 92)), some (.int w), none, none] []) : Gd l E K a b o σ 1843 [some (.ref bb), some (.ref (E.2.1 0)), some (.ref (E.2.1 55)), some (.ref (E.2.1 92)), some (.int w), none, none] [] := by
  refine g_aload_n (pc := 1843) hC dL_law_1843 rfl ?_
  refine g_aload_n (pc := 1844) hC dL_law_1844 rfl ?_
  refine g_iload (pc := 1845) hC dL_law_1845 rfl ?_
  refine g_iconst (pc := 1847) hC ki_1 dL_law_1847 ?_
  refine g_iadd (pc := 1848) hC dL_law_1848 ?_
  refine g_sld (pc := 1849) hC hL n1 e1 dL_law_1849 ?_
  refine g_aload_n (pc := 1850) hC dL_law_1850 rfl ?_
  refine g_iload (pc := 1851) hC dL_law_1851 rfl ?_
  refine g_iconst (pc := 1853) hC ki_2 dL_law_1853 ?_
  refine g_iadd (pc := 1854) hC dL_law_1854 ?_
  refine g_sld (pc := 1855) hC hL n2 e2 dL_law_1855 ?_
  refine g_aload_n (pc := 1856) hC dL_law_1856 rfl ?_
  refine g_callH (pc := 1857) (As := [.ref (E.2.1 0), .int s1, .int s2, .ref (E.2.1 92)]) (rest := []) hC (hr_note l E s1 s2 σ o r σ1 h1) mh_note lk_L_226 rfl rfl (Nat.le_of_ble_eq_true rfl) ⟨by decide, by decide⟩ hab dL_law_1857 ?_
  refine g_istore (lv2 := [some (.ref bb), some (.ref (E.2.1 0)), some (.ref (E.2.1 55)), some (.ref (E.2.1 92)), some (.int w), some (.int 0), none]) (pc := 1860) hC dL_law_1860 rfl (Or.inr rfl) (by rw [← hN]; decide) ?_
  refine g_aload_n (pc := 1862) hC dL_law_1862 rfl ?_
  refine g_aload_n (pc := 1863) hC dL_law_1863 rfl ?_
  refine g_iload (pc := 1864) hC dL_law_1864 rfl ?_
  refine g_iconst (pc := 1866) hC ki_1 dL_law_1866 ?_
  refine g_iadd (pc := 1867) hC dL_law_1867 ?_
  refine g_sld (pc := 1868) hC hL n1 e1 dL_law_1868 ?_
  refine g_aload_n (pc := 1869) hC dL_law_1869 rfl ?_
  refine g_iload (pc := 1870) hC dL_law_1870 rfl ?_
  refine g_iconst (pc := 1872) hC ki_2 dL_law_1872 ?_
  refine g_iadd (pc := 1873) hC dL_law_1873 ?_
  refine g_sld (pc := 1874) hC hL n2 e2 dL_law_1874 ?_
  refine g_callVi (pc := 1875) (As := [.int s1, .int s2]) (rest := []) hC (c_X12_note l E s1 s2 σ1 r σ2 h2) mi_X12_note mv_X12_note ob_55 rfl rfl lk_L_228 rfl rfl (Nat.le_of_ble_eq_true rfl) ⟨by decide, by decide⟩ hab dL_law_1875 ?_
  refine g_istore (lv2 := [some (.ref bb), some (.ref (E.2.1 0)), some (.ref (E.2.1 55)), some (.ref (E.2.1 92)), some (.int w), some (.int 0), some (.int r)]) (pc := 1878) hC dL_law_1878 rfl (Or.inr rfl) (by rw [← hN]; decide) ?_
  refine g_aload_n (pc := 1880) hC dL_law_1880 rfl ?_
  refine g_callVi (pc := 1881) (As := []) (rest := []) hC (c_X12_thrown l E σ2 _ rfl) mi_X12_thrown mv_X12_thrown ob_55 rfl rfl lk_L_144 rfl rfl (Nat.le_of_ble_eq_true rfl) ⟨by decide, by decide⟩ hab dL_law_1881 ?_
  refine g_top h3.symm ?_
  refine g_iload (pc := 1884) hC dL_law_1884 rfl ?_
  refine g_icmp_eq (tgt := 1891) (pc := 1886) hC dL_law_1886 (by decide) (fun _ => ?_) (fun q => absurd rfl q)
  refine g_iload (pc := 1891) hC dL_law_1891 rfl ?_
  refine g_if_ne (tgt := 1908) (pc := 1893) hC dL_law_1893 (by decide) (fun q => absurd rfl q) (fun _ => ?_)
  refine g_aload_n (pc := 1896) hC dL_law_1896 rfl ?_
  refine g_iconst (pc := 1897) hC ki_0 dL_law_1897 ?_
  refine g_lald (pc := 1898) hC dL_law_1898 ?_
  refine g_iload (pc := 1899) hC dL_law_1899 rfl ?_
  refine g_i2l (pc := 1901) hC dL_law_1901 ?_
  refine g_lcmp (pc := 1902) hC dL_law_1902 ?_
  refine g_if_eq (tgt := 1908) (pc := 1903) hC dL_law_1903 (by decide) (fun _ => ?_) (fun q => absurd (lg_cmp_self _) q)
  refine g_goto (tgt := 2650) (pc := 1908) hC dL_law_1908 (by decide) ?_
  refine g_mask [true, true, true, true, true, false, false] rfl ?_
  exact kk
set_option maxRecDepth 20000 in
theorem law_30_x1 {l : Launch} {E : uE} {K : uK} {a b : Nat} {o : Int64} {σ : uS} {bb L : Nat} {xs : Nat → Int32} (hC : Cx E K RL cL_law (some .boolean) 11 414) (hN : 7 = K.2.2.2.2.2) (hL : Lx E K bb L xs) (w : Int32) (s1 : Int32) (e1 : s1 = xs (w + 1).toNatClampNeg) (n1 : vp_in (w + 1) L) (s2 : Int32) (e2 : s2 = xs (w + 2).toNatClampNeg) (n2 : vp_in (w + 2) L) (hl9 : l.stackTraces = false) (r : Int32) (σ1 σ2 : uS) (h1 : F_X11_note s1 s2 σ = some (.inr 1, σ1)) (h2 : F_X12_note s1 s2 σ1 = some (r, σ2)) (h3 : σ2 55 9 = 1) (hab : Rm K (a + 1) (b + 6)) (kk : Gd l E K (a + 1) (b + 6) o σ2 2650 [some (.ref bb), some (.ref (E.2.1 0)), some (.ref (E.2.1 55)), some (.ref (E.2.1 92)), some (.int w), none, none] []) : Gd l E K a b o σ 1843 [some (.ref bb), some (.ref (E.2.1 0)), some (.ref (E.2.1 55)), some (.ref (E.2.1 92)), some (.int w), none, none] [] := by
  refine g_aload_n (pc := 1843) hC dL_law_1843 rfl ?_
  refine g_aload_n (pc := 1844) hC dL_law_1844 rfl ?_
  refine g_iload (pc := 1845) hC dL_law_1845 rfl ?_
  refine g_iconst (pc := 1847) hC ki_1 dL_law_1847 ?_
  refine g_iadd (pc := 1848) hC dL_law_1848 ?_
  refine g_sld (pc := 1849) hC hL n1 e1 dL_law_1849 ?_
  refine g_aload_n (pc := 1850) hC dL_law_1850 rfl ?_
  refine g_iload (pc := 1851) hC dL_law_1851 rfl ?_
  refine g_iconst (pc := 1853) hC ki_2 dL_law_1853 ?_
  refine g_iadd (pc := 1854) hC dL_law_1854 ?_
  refine g_sld (pc := 1855) hC hL n2 e2 dL_law_1855 ?_
  refine g_aload_n (pc := 1856) hC dL_law_1856 rfl ?_
  refine g_callH (pc := 1857) (As := [.ref (E.2.1 0), .int s1, .int s2, .ref (E.2.1 92)]) (rest := []) hC (hx_note_1 l hl9 E s1 s2 σ o σ1 h1) mh_note lk_L_226 rfl rfl (Nat.le_of_ble_eq_true rfl) ⟨by decide, by decide⟩ hab dL_law_1857 ?_
  refine g_istore (lv2 := [some (.ref bb), some (.ref (E.2.1 0)), some (.ref (E.2.1 55)), some (.ref (E.2.1 92)), some (.int w), some (.int 1), none]) (pc := 1860) hC dL_law_1860 rfl (Or.inr rfl) (by rw [← hN]; decide) ?_
  refine g_aload_n (pc := 1862) hC dL_law_1862 rfl ?_
  refine g_aload_n (pc := 1863) hC dL_law_1863 rfl ?_
  refine g_iload (pc := 1864) hC dL_law_1864 rfl ?_
  refine g_iconst (pc := 1866) hC ki_1 dL_law_1866 ?_
  refine g_iadd (pc := 1867) hC dL_law_1867 ?_
  refine g_sld (pc := 1868) hC hL n1 e1 dL_law_1868 ?_
  refine g_aload_n (pc := 1869) hC dL_law_1869 rfl ?_
  refine g_iload (pc := 1870) hC dL_law_1870 rfl ?_
  refine g_iconst (pc := 1872) hC ki_2 dL_law_1872 ?_
  refine g_iadd (pc := 1873) hC dL_law_1873 ?_
  refine g_sld (pc := 1874) hC hL n2 e2 dL_law_1874 ?_
  refine g_callVi (pc := 1875) (As := [.int s1, .int s2]) (rest := []) hC (c_X12_note l E s1 s2 σ1 r σ2 h2) mi_X12_note mv_X12_note ob_55 rfl rfl lk_L_228 rfl rfl (Nat.le_of_ble_eq_true rfl) ⟨by decide, by decide⟩ hab dL_law_1875 ?_
  refine g_istore (lv2 := [some (.ref bb), some (.ref (E.2.1 0)), some (.ref (E.2.1 55)), some (.ref (E.2.1 92)), some (.int w), some (.int 1), some (.int r)]) (pc := 1878) hC dL_law_1878 rfl (Or.inr rfl) (by rw [← hN]; decide) ?_
  refine g_aload_n (pc := 1880) hC dL_law_1880 rfl ?_
  refine g_callVi (pc := 1881) (As := []) (rest := []) hC (c_X12_thrown l E σ2 _ rfl) mi_X12_thrown mv_X12_thrown ob_55 rfl rfl lk_L_144 rfl rfl (Nat.le_of_ble_eq_true rfl) ⟨by decide, by decide⟩ hab dL_law_1881 ?_
  refine g_top h3.symm ?_
  refine g_iload (pc := 1884) hC dL_law_1884 rfl ?_
  refine g_icmp_eq (tgt := 1891) (pc := 1886) hC dL_law_1886 (by decide) (fun _ => ?_) (fun q => absurd rfl q)
  refine g_iload (pc := 1891) hC dL_law_1891 rfl ?_
  refine g_if_ne (tgt := 1908) (pc := 1893) hC dL_law_1893 (by decide) (fun _ => ?_) (fun q => absurd q (by decide))
  refine g_goto (tgt := 2650) (pc := 1908) hC dL_law_1908 (by decide) ?_
  refine g_mask [true, true, true, true, true, false, false] rfl ?_
  exact kk
set_option maxRecDepth 20000 in
theorem law_31_r {l : Launch} {E : uE} {K : uK} {a b : Nat} {o : Int64} {σ : uS} {bb L : Nat} {xs : Nat → Int32} (hC : Cx E K RL cL_law (some .boolean) 11 414) (hN : 7 = K.2.2.2.2.2) (hL : Lx E K bb L xs) (w : Int32) (s1 : Int32) (e1 : s1 = xs (w + 1).toNatClampNeg) (n1 : vp_in (w + 1) L) (r : Int32) (σ1 σ2 : uS) (h1 : F_X11_steady s1 σ = some (.inl r, σ1)) (h2 : F_X12_steady s1 σ1 = some (r, σ2)) (h3 : σ2 55 9 = 0) (hab : Rm K a b) (kk : Gd l E K a b r.toInt64 σ2 2650 [some (.ref bb), some (.ref (E.2.1 0)), some (.ref (E.2.1 55)), some (.ref (E.2.1 92)), some (.int w), none, none] []) : Gd l E K a b o σ 1911 [some (.ref bb), some (.ref (E.2.1 0)), some (.ref (E.2.1 55)), some (.ref (E.2.1 92)), some (.int w), none, none] [] := by
  refine g_aload_n (pc := 1911) hC dL_law_1911 rfl ?_
  refine g_aload_n (pc := 1912) hC dL_law_1912 rfl ?_
  refine g_iload (pc := 1913) hC dL_law_1913 rfl ?_
  refine g_iconst (pc := 1915) hC ki_1 dL_law_1915 ?_
  refine g_iadd (pc := 1916) hC dL_law_1916 ?_
  refine g_sld (pc := 1917) hC hL n1 e1 dL_law_1917 ?_
  refine g_aload_n (pc := 1918) hC dL_law_1918 rfl ?_
  refine g_callH (pc := 1919) (As := [.ref (E.2.1 0), .int s1, .ref (E.2.1 92)]) (rest := []) hC (hr_steady l E s1 σ o r σ1 h1) mh_steady lk_L_229 rfl rfl (Nat.le_of_ble_eq_true rfl) ⟨by decide, by decide⟩ hab dL_law_1919 ?_
  refine g_istore (lv2 := [some (.ref bb), some (.ref (E.2.1 0)), some (.ref (E.2.1 55)), some (.ref (E.2.1 92)), some (.int w), some (.int 0), none]) (pc := 1922) hC dL_law_1922 rfl (Or.inr rfl) (by rw [← hN]; decide) ?_
  refine g_aload_n (pc := 1924) hC dL_law_1924 rfl ?_
  refine g_aload_n (pc := 1925) hC dL_law_1925 rfl ?_
  refine g_iload (pc := 1926) hC dL_law_1926 rfl ?_
  refine g_iconst (pc := 1928) hC ki_1 dL_law_1928 ?_
  refine g_iadd (pc := 1929) hC dL_law_1929 ?_
  refine g_sld (pc := 1930) hC hL n1 e1 dL_law_1930 ?_
  refine g_callVi (pc := 1931) (As := [.int s1]) (rest := []) hC (c_X12_steady l E s1 σ1 r σ2 h2) mi_X12_steady mv_X12_steady ob_55 rfl rfl lk_L_231 rfl rfl (Nat.le_of_ble_eq_true rfl) ⟨by decide, by decide⟩ hab dL_law_1931 ?_
  refine g_istore (lv2 := [some (.ref bb), some (.ref (E.2.1 0)), some (.ref (E.2.1 55)), some (.ref (E.2.1 92)), some (.int w), some (.int 0), some (.int r)]) (pc := 1934) hC dL_law_1934 rfl (Or.inr rfl) (by rw [← hN]; decide) ?_
  refine g_aload_n (pc := 1936) hC dL_law_1936 rfl ?_
  refine g_callVi (pc := 1937) (As := []) (rest := []) hC (c_X12_thrown l E σ2 _ rfl) mi_X12_thrown mv_X12_thrown ob_55 rfl rfl lk_L_144 rfl rfl (Nat.le_of_ble_eq_true rfl) ⟨by decide, by decide⟩ hab dL_law_1937 ?_
  refine g_top h3.symm ?_
  refine g_iload (pc := 1940) hC dL_law_1940 rfl ?_
  refine g_icmp_eq (tgt := 1947) (pc := 1942) hC dL_law_1942 (by decide) (fun _ => ?_) (fun q => absurd rfl q)
  refine g_iload (pc := 1947) hC dL_law_1947 rfl ?_
  refine g_if_ne (tgt := 1964) (pc := 1949) hC dL_law_1949 (by decide) (fun q => absurd rfl q) (fun _ => ?_)
  refine g_aload_n (pc := 1952) hC dL_law_1952 rfl ?_
  refine g_iconst (pc := 1953) hC ki_0 dL_law_1953 ?_
  refine g_lald (pc := 1954) hC dL_law_1954 ?_
  refine g_iload (pc := 1955) hC dL_law_1955 rfl ?_
  refine g_i2l (pc := 1957) hC dL_law_1957 ?_
  refine g_lcmp (pc := 1958) hC dL_law_1958 ?_
  refine g_if_eq (tgt := 1964) (pc := 1959) hC dL_law_1959 (by decide) (fun _ => ?_) (fun q => absurd (lg_cmp_self _) q)
  refine g_goto (tgt := 2650) (pc := 1964) hC dL_law_1964 (by decide) ?_
  refine g_mask [true, true, true, true, true, false, false] rfl ?_
  exact kk
set_option maxRecDepth 20000 in
theorem law_31_x1 {l : Launch} {E : uE} {K : uK} {a b : Nat} {o : Int64} {σ : uS} {bb L : Nat} {xs : Nat → Int32} (hC : Cx E K RL cL_law (some .boolean) 11 414) (hN : 7 = K.2.2.2.2.2) (hL : Lx E K bb L xs) (w : Int32) (s1 : Int32) (e1 : s1 = xs (w + 1).toNatClampNeg) (n1 : vp_in (w + 1) L) (hl9 : l.stackTraces = false) (r : Int32) (σ1 σ2 : uS) (h1 : F_X11_steady s1 σ = some (.inr 1, σ1)) (h2 : F_X12_steady s1 σ1 = some (r, σ2)) (h3 : σ2 55 9 = 1) (hab : Rm K (a + 1) (b + 6)) (kk : Gd l E K (a + 1) (b + 6) o σ2 2650 [some (.ref bb), some (.ref (E.2.1 0)), some (.ref (E.2.1 55)), some (.ref (E.2.1 92)), some (.int w), none, none] []) : Gd l E K a b o σ 1911 [some (.ref bb), some (.ref (E.2.1 0)), some (.ref (E.2.1 55)), some (.ref (E.2.1 92)), some (.int w), none, none] [] := by
  refine g_aload_n (pc := 1911) hC dL_law_1911 rfl ?_
  refine g_aload_n (pc := 1912) hC dL_law_1912 rfl ?_
  refine g_iload (pc := 1913) hC dL_law_1913 rfl ?_
  refine g_iconst (pc := 1915) hC ki_1 dL_law_1915 ?_
  refine g_iadd (pc := 1916) hC dL_law_1916 ?_
  refine g_sld (pc := 1917) hC hL n1 e1 dL_law_1917 ?_
  refine g_aload_n (pc := 1918) hC dL_law_1918 rfl ?_
  refine g_callH (pc := 1919) (As := [.ref (E.2.1 0), .int s1, .ref (E.2.1 92)]) (rest := []) hC (hx_steady_1 l hl9 E s1 σ o σ1 h1) mh_steady lk_L_229 rfl rfl (Nat.le_of_ble_eq_true rfl) ⟨by decide, by decide⟩ hab dL_law_1919 ?_
  refine g_istore (lv2 := [some (.ref bb), some (.ref (E.2.1 0)), some (.ref (E.2.1 55)), some (.ref (E.2.1 92)), some (.int w), some (.int 1), none]) (pc := 1922) hC dL_law_1922 rfl (Or.inr rfl) (by rw [← hN]; decide) ?_
  refine g_aload_n (pc := 1924) hC dL_law_1924 rfl ?_
  refine g_aload_n (pc := 1925) hC dL_law_1925 rfl ?_
  refine g_iload (pc := 1926) hC dL_law_1926 rfl ?_
  refine g_iconst (pc := 1928) hC ki_1 dL_law_1928 ?_
  refine g_iadd (pc := 1929) hC dL_law_1929 ?_
  refine g_sld (pc := 1930) hC hL n1 e1 dL_law_1930 ?_
  refine g_callVi (pc := 1931) (As := [.int s1]) (rest := []) hC (c_X12_steady l E s1 σ1 r σ2 h2) mi_X12_steady mv_X12_steady ob_55 rfl rfl lk_L_231 rfl rfl (Nat.le_of_ble_eq_true rfl) ⟨by decide, by decide⟩ hab dL_law_1931 ?_
  refine g_istore (lv2 := [some (.ref bb), some (.ref (E.2.1 0)), some (.ref (E.2.1 55)), some (.ref (E.2.1 92)), some (.int w), some (.int 1), some (.int r)]) (pc := 1934) hC dL_law_1934 rfl (Or.inr rfl) (by rw [← hN]; decide) ?_
  refine g_aload_n (pc := 1936) hC dL_law_1936 rfl ?_
  refine g_callVi (pc := 1937) (As := []) (rest := []) hC (c_X12_thrown l E σ2 _ rfl) mi_X12_thrown mv_X12_thrown ob_55 rfl rfl lk_L_144 rfl rfl (Nat.le_of_ble_eq_true rfl) ⟨by decide, by decide⟩ hab dL_law_1937 ?_
  refine g_top h3.symm ?_
  refine g_iload (pc := 1940) hC dL_law_1940 rfl ?_
  refine g_icmp_eq (tgt := 1947) (pc := 1942) hC dL_law_1942 (by decide) (fun _ => ?_) (fun q => absurd rfl q)
  refine g_iload (pc := 1947) hC dL_law_1947 rfl ?_
  refine g_if_ne (tgt := 1964) (pc := 1949) hC dL_law_1949 (by decide) (fun _ => ?_) (fun q => absurd q (by decide))
  refine g_goto (tgt := 2650) (pc := 1964) hC dL_law_1964 (by decide) ?_
  refine g_mask [true, true, true, true, true, false, false] rfl ?_
  exact kk
set_option maxRecDepth 20000 in
theorem law_32 {l : Launch} {E : uE} {K : uK} {a b : Nat} {o : Int64} {σ : uS} {bb L : Nat} {xs : Nat → Int32} (hC : Cx E K RL cL_law (some .boolean) 11 414) (hN : 7 = K.2.2.2.2.2) (hL : Lx E K bb L xs) (w : Int32) (r : Int32) (σ1 σ2 : uS) (h1 : F_X11_lags σ = some (r, σ1)) (h2 : F_X12_lags σ1 = some (r, σ2)) (hab : Rm K a b) (kk : Gd l E K a b o σ2 2650 [some (.ref bb), some (.ref (E.2.1 0)), some (.ref (E.2.1 55)), some (.ref (E.2.1 92)), some (.int w), none, none] []) : Gd l E K a b o σ 1967 [some (.ref bb), some (.ref (E.2.1 0)), some (.ref (E.2.1 55)), some (.ref (E.2.1 92)), some (.int w), none, none] [] := by
  refine g_aload_n (pc := 1967) hC dL_law_1967 rfl ?_
  refine g_callVi (pc := 1968) (As := []) (rest := []) hC (c_X11_lags l E σ r σ1 h1) mi_X11_lags mv_X11_lags ob_0 rfl rfl lk_L_232 rfl rfl (Nat.le_of_ble_eq_true rfl) ⟨by decide, by decide⟩ hab dL_law_1968 ?_
  refine g_aload_n (pc := 1971) hC dL_law_1971 rfl ?_
  refine g_callVi (pc := 1972) (As := []) (rest := [.int r]) hC (c_X12_lags l E σ1 r σ2 h2) mi_X12_lags mv_X12_lags ob_55 rfl rfl lk_L_235 rfl rfl (Nat.le_of_ble_eq_true rfl) ⟨by decide, by decide⟩ hab dL_law_1972 ?_
  refine g_icmp_eq (tgt := 2650) (pc := 1975) hC dL_law_1975 (by decide) (fun _ => ?_) (fun q => absurd rfl q)
  exact kk
set_option maxRecDepth 20000 in
theorem law_33_r {l : Launch} {E : uE} {K : uK} {a b : Nat} {o : Int64} {σ : uS} {bb L : Nat} {xs : Nat → Int32} (hC : Cx E K RL cL_law (some .boolean) 11 414) (hN : 7 = K.2.2.2.2.2) (hL : Lx E K bb L xs) (w : Int32) (s1 : Int32) (e1 : s1 = xs (w + 1).toNatClampNeg) (n1 : vp_in (w + 1) L) (s2 : Int32) (e2 : s2 = xs (w + 2).toNatClampNeg) (n2 : vp_in (w + 2) L) (r : Int32) (σ1 σ2 : uS) (h1 : F_X11_lagAt s1 s2 σ = some (.inl r, σ1)) (h2 : F_X12_lagAt s1 s2 σ1 = some (r, σ2)) (h3 : σ2 55 9 = 0) (hab : Rm K a b) (kk : Gd l E K a b r.toInt64 σ2 2650 [some (.ref bb), some (.ref (E.2.1 0)), some (.ref (E.2.1 55)), some (.ref (E.2.1 92)), some (.int w), none, none] []) : Gd l E K a b o σ 1980 [some (.ref bb), some (.ref (E.2.1 0)), some (.ref (E.2.1 55)), some (.ref (E.2.1 92)), some (.int w), none, none] [] := by
  refine g_aload_n (pc := 1980) hC dL_law_1980 rfl ?_
  refine g_aload_n (pc := 1981) hC dL_law_1981 rfl ?_
  refine g_iload (pc := 1982) hC dL_law_1982 rfl ?_
  refine g_iconst (pc := 1984) hC ki_1 dL_law_1984 ?_
  refine g_iadd (pc := 1985) hC dL_law_1985 ?_
  refine g_sld (pc := 1986) hC hL n1 e1 dL_law_1986 ?_
  refine g_aload_n (pc := 1987) hC dL_law_1987 rfl ?_
  refine g_iload (pc := 1988) hC dL_law_1988 rfl ?_
  refine g_iconst (pc := 1990) hC ki_2 dL_law_1990 ?_
  refine g_iadd (pc := 1991) hC dL_law_1991 ?_
  refine g_sld (pc := 1992) hC hL n2 e2 dL_law_1992 ?_
  refine g_aload_n (pc := 1993) hC dL_law_1993 rfl ?_
  refine g_callH (pc := 1994) (As := [.ref (E.2.1 0), .int s1, .int s2, .ref (E.2.1 92)]) (rest := []) hC (hr_lagAt l E s1 s2 σ o r σ1 h1) mh_lagAt lk_L_236 rfl rfl (Nat.le_of_ble_eq_true rfl) ⟨by decide, by decide⟩ hab dL_law_1994 ?_
  refine g_istore (lv2 := [some (.ref bb), some (.ref (E.2.1 0)), some (.ref (E.2.1 55)), some (.ref (E.2.1 92)), some (.int w), some (.int 0), none]) (pc := 1997) hC dL_law_1997 rfl (Or.inr rfl) (by rw [← hN]; decide) ?_
  refine g_aload_n (pc := 1999) hC dL_law_1999 rfl ?_
  refine g_aload_n (pc := 2000) hC dL_law_2000 rfl ?_
  refine g_iload (pc := 2001) hC dL_law_2001 rfl ?_
  refine g_iconst (pc := 2003) hC ki_1 dL_law_2003 ?_
  refine g_iadd (pc := 2004) hC dL_law_2004 ?_
  refine g_sld (pc := 2005) hC hL n1 e1 dL_law_2005 ?_
  refine g_aload_n (pc := 2006) hC dL_law_2006 rfl ?_
  refine g_iload (pc := 2007) hC dL_law_2007 rfl ?_
  refine g_iconst (pc := 2009) hC ki_2 dL_law_2009 ?_
  refine g_iadd (pc := 2010) hC dL_law_2010 ?_
  refine g_sld (pc := 2011) hC hL n2 e2 dL_law_2011 ?_
  refine g_callVi (pc := 2012) (As := [.int s1, .int s2]) (rest := []) hC (c_X12_lagAt l E s1 s2 σ1 r σ2 h2) mi_X12_lagAt mv_X12_lagAt ob_55 rfl rfl lk_L_238 rfl rfl (Nat.le_of_ble_eq_true rfl) ⟨by decide, by decide⟩ hab dL_law_2012 ?_
  refine g_istore (lv2 := [some (.ref bb), some (.ref (E.2.1 0)), some (.ref (E.2.1 55)), some (.ref (E.2.1 92)), some (.int w), some (.int 0), some (.int r)]) (pc := 2015) hC dL_law_2015 rfl (Or.inr rfl) (by rw [← hN]; decide) ?_
  refine g_aload_n (pc := 2017) hC dL_law_2017 rfl ?_
  refine g_callVi (pc := 2018) (As := []) (rest := []) hC (c_X12_thrown l E σ2 _ rfl) mi_X12_thrown mv_X12_thrown ob_55 rfl rfl lk_L_144 rfl rfl (Nat.le_of_ble_eq_true rfl) ⟨by decide, by decide⟩ hab dL_law_2018 ?_
  refine g_top h3.symm ?_
  refine g_iload (pc := 2021) hC dL_law_2021 rfl ?_
  refine g_icmp_eq (tgt := 2028) (pc := 2023) hC dL_law_2023 (by decide) (fun _ => ?_) (fun q => absurd rfl q)
  refine g_iload (pc := 2028) hC dL_law_2028 rfl ?_
  refine g_if_ne (tgt := 2045) (pc := 2030) hC dL_law_2030 (by decide) (fun q => absurd rfl q) (fun _ => ?_)
  refine g_aload_n (pc := 2033) hC dL_law_2033 rfl ?_
  refine g_iconst (pc := 2034) hC ki_0 dL_law_2034 ?_
  refine g_lald (pc := 2035) hC dL_law_2035 ?_
  refine g_iload (pc := 2036) hC dL_law_2036 rfl ?_
  refine g_i2l (pc := 2038) hC dL_law_2038 ?_
  refine g_lcmp (pc := 2039) hC dL_law_2039 ?_
  refine g_if_eq (tgt := 2045) (pc := 2040) hC dL_law_2040 (by decide) (fun _ => ?_) (fun q => absurd (lg_cmp_self _) q)
  refine g_goto (tgt := 2650) (pc := 2045) hC dL_law_2045 (by decide) ?_
  refine g_mask [true, true, true, true, true, false, false] rfl ?_
  exact kk
set_option maxRecDepth 20000 in
theorem law_33_x1 {l : Launch} {E : uE} {K : uK} {a b : Nat} {o : Int64} {σ : uS} {bb L : Nat} {xs : Nat → Int32} (hC : Cx E K RL cL_law (some .boolean) 11 414) (hN : 7 = K.2.2.2.2.2) (hL : Lx E K bb L xs) (w : Int32) (s1 : Int32) (e1 : s1 = xs (w + 1).toNatClampNeg) (n1 : vp_in (w + 1) L) (s2 : Int32) (e2 : s2 = xs (w + 2).toNatClampNeg) (n2 : vp_in (w + 2) L) (hl9 : l.stackTraces = false) (r : Int32) (σ1 σ2 : uS) (h1 : F_X11_lagAt s1 s2 σ = some (.inr 1, σ1)) (h2 : F_X12_lagAt s1 s2 σ1 = some (r, σ2)) (h3 : σ2 55 9 = 1) (hab : Rm K (a + 1) (b + 6)) (kk : Gd l E K (a + 1) (b + 6) o σ2 2650 [some (.ref bb), some (.ref (E.2.1 0)), some (.ref (E.2.1 55)), some (.ref (E.2.1 92)), some (.int w), none, none] []) : Gd l E K a b o σ 1980 [some (.ref bb), some (.ref (E.2.1 0)), some (.ref (E.2.1 55)), some (.ref (E.2.1 92)), some (.int w), none, none] [] := by
  refine g_aload_n (pc := 1980) hC dL_law_1980 rfl ?_
  refine g_aload_n (pc := 1981) hC dL_law_1981 rfl ?_
  refine g_iload (pc := 1982) hC dL_law_1982 rfl ?_
  refine g_iconst (pc := 1984) hC ki_1 dL_law_1984 ?_
  refine g_iadd (pc := 1985) hC dL_law_1985 ?_
  refine g_sld (pc := 1986) hC hL n1 e1 dL_law_1986 ?_
  refine g_aload_n (pc := 1987) hC dL_law_1987 rfl ?_
  refine g_iload (pc := 1988) hC dL_law_1988 rfl ?_
  refine g_iconst (pc := 1990) hC ki_2 dL_law_1990 ?_
  refine g_iadd (pc := 1991) hC dL_law_1991 ?_
  refine g_sld (pc := 1992) hC hL n2 e2 dL_law_1992 ?_
  refine g_aload_n (pc := 1993) hC dL_law_1993 rfl ?_
  refine g_callH (pc := 1994) (As := [.ref (E.2.1 0), .int s1, .int s2, .ref (E.2.1 92)]) (rest := []) hC (hx_lagAt_1 l hl9 E s1 s2 σ o σ1 h1) mh_lagAt lk_L_236 rfl rfl (Nat.le_of_ble_eq_true rfl) ⟨by decide, by decide⟩ hab dL_law_1994 ?_
  refine g_istore (lv2 := [some (.ref bb), some (.ref (E.2.1 0)), some (.ref (E.2.1 55)), some (.ref (E.2.1 92)), some (.int w), some (.int 1), none]) (pc := 1997) hC dL_law_1997 rfl (Or.inr rfl) (by rw [← hN]; decide) ?_
  refine g_aload_n (pc := 1999) hC dL_law_1999 rfl ?_
  refine g_aload_n (pc := 2000) hC dL_law_2000 rfl ?_
  refine g_iload (pc := 2001) hC dL_law_2001 rfl ?_
  refine g_iconst (pc := 2003) hC ki_1 dL_law_2003 ?_
  refine g_iadd (pc := 2004) hC dL_law_2004 ?_
  refine g_sld (pc := 2005) hC hL n1 e1 dL_law_2005 ?_
  refine g_aload_n (pc := 2006) hC dL_law_2006 rfl ?_
  refine g_iload (pc := 2007) hC dL_law_2007 rfl ?_
  refine g_iconst (pc := 2009) hC ki_2 dL_law_2009 ?_
  refine g_iadd (pc := 2010) hC dL_law_2010 ?_
  refine g_sld (pc := 2011) hC hL n2 e2 dL_law_2011 ?_
  refine g_callVi (pc := 2012) (As := [.int s1, .int s2]) (rest := []) hC (c_X12_lagAt l E s1 s2 σ1 r σ2 h2) mi_X12_lagAt mv_X12_lagAt ob_55 rfl rfl lk_L_238 rfl rfl (Nat.le_of_ble_eq_true rfl) ⟨by decide, by decide⟩ hab dL_law_2012 ?_
  refine g_istore (lv2 := [some (.ref bb), some (.ref (E.2.1 0)), some (.ref (E.2.1 55)), some (.ref (E.2.1 92)), some (.int w), some (.int 1), some (.int r)]) (pc := 2015) hC dL_law_2015 rfl (Or.inr rfl) (by rw [← hN]; decide) ?_
  refine g_aload_n (pc := 2017) hC dL_law_2017 rfl ?_
  refine g_callVi (pc := 2018) (As := []) (rest := []) hC (c_X12_thrown l E σ2 _ rfl) mi_X12_thrown mv_X12_thrown ob_55 rfl rfl lk_L_144 rfl rfl (Nat.le_of_ble_eq_true rfl) ⟨by decide, by decide⟩ hab dL_law_2018 ?_
  refine g_top h3.symm ?_
  refine g_iload (pc := 2021) hC dL_law_2021 rfl ?_
  refine g_icmp_eq (tgt := 2028) (pc := 2023) hC dL_law_2023 (by decide) (fun _ => ?_) (fun q => absurd rfl q)
  refine g_iload (pc := 2028) hC dL_law_2028 rfl ?_
  refine g_if_ne (tgt := 2045) (pc := 2030) hC dL_law_2030 (by decide) (fun _ => ?_) (fun q => absurd q (by decide))
  refine g_goto (tgt := 2650) (pc := 2045) hC dL_law_2045 (by decide) ?_
  refine g_mask [true, true, true, true, true, false, false] rfl ?_
  exact kk
set_option maxRecDepth 20000 in
theorem law_34_r {l : Launch} {E : uE} {K : uK} {a b : Nat} {o : Int64} {σ : uS} {bb L : Nat} {xs : Nat → Int32} (hC : Cx E K RL cL_law (some .boolean) 11 414) (hN : 7 = K.2.2.2.2.2) (hL : Lx E K bb L xs) (w : Int32) (s1 : Int32) (e1 : s1 = xs (w + 1).toNatClampNeg) (n1 : vp_in (w + 1) L) (r : Int32) (σ1 σ2 : uS) (h1 : F_X11_common s1 σ = some (.inl r, σ1)) (h2 : F_X12_common s1 σ1 = some (r, σ2)) (h3 : σ2 55 9 = 0) (hab : Rm K a b) (kk : Gd l E K a b r.toInt64 σ2 2650 [some (.ref bb), some (.ref (E.2.1 0)), some (.ref (E.2.1 55)), some (.ref (E.2.1 92)), some (.int w), none, none] []) : Gd l E K a b o σ 2048 [some (.ref bb), some (.ref (E.2.1 0)), some (.ref (E.2.1 55)), some (.ref (E.2.1 92)), some (.int w), none, none] [] := by
  refine g_aload_n (pc := 2048) hC dL_law_2048 rfl ?_
  refine g_aload_n (pc := 2049) hC dL_law_2049 rfl ?_
  refine g_iload (pc := 2050) hC dL_law_2050 rfl ?_
  refine g_iconst (pc := 2052) hC ki_1 dL_law_2052 ?_
  refine g_iadd (pc := 2053) hC dL_law_2053 ?_
  refine g_sld (pc := 2054) hC hL n1 e1 dL_law_2054 ?_
  refine g_aload_n (pc := 2055) hC dL_law_2055 rfl ?_
  refine g_callH (pc := 2056) (As := [.ref (E.2.1 0), .int s1, .ref (E.2.1 92)]) (rest := []) hC (hr_common l E s1 σ o r σ1 h1) mh_common lk_L_239 rfl rfl (Nat.le_of_ble_eq_true rfl) ⟨by decide, by decide⟩ hab dL_law_2056 ?_
  refine g_istore (lv2 := [some (.ref bb), some (.ref (E.2.1 0)), some (.ref (E.2.1 55)), some (.ref (E.2.1 92)), some (.int w), some (.int 0), none]) (pc := 2059) hC dL_law_2059 rfl (Or.inr rfl) (by rw [← hN]; decide) ?_
  refine g_aload_n (pc := 2061) hC dL_law_2061 rfl ?_
  refine g_aload_n (pc := 2062) hC dL_law_2062 rfl ?_
  refine g_iload (pc := 2063) hC dL_law_2063 rfl ?_
  refine g_iconst (pc := 2065) hC ki_1 dL_law_2065 ?_
  refine g_iadd (pc := 2066) hC dL_law_2066 ?_
  refine g_sld (pc := 2067) hC hL n1 e1 dL_law_2067 ?_
  refine g_callVi (pc := 2068) (As := [.int s1]) (rest := []) hC (c_X12_common l E s1 σ1 r σ2 h2) mi_X12_common mv_X12_common ob_55 rfl rfl lk_L_241 rfl rfl (Nat.le_of_ble_eq_true rfl) ⟨by decide, by decide⟩ hab dL_law_2068 ?_
  refine g_istore (lv2 := [some (.ref bb), some (.ref (E.2.1 0)), some (.ref (E.2.1 55)), some (.ref (E.2.1 92)), some (.int w), some (.int 0), some (.int r)]) (pc := 2071) hC dL_law_2071 rfl (Or.inr rfl) (by rw [← hN]; decide) ?_
  refine g_aload_n (pc := 2073) hC dL_law_2073 rfl ?_
  refine g_callVi (pc := 2074) (As := []) (rest := []) hC (c_X12_thrown l E σ2 _ rfl) mi_X12_thrown mv_X12_thrown ob_55 rfl rfl lk_L_144 rfl rfl (Nat.le_of_ble_eq_true rfl) ⟨by decide, by decide⟩ hab dL_law_2074 ?_
  refine g_top h3.symm ?_
  refine g_iload (pc := 2077) hC dL_law_2077 rfl ?_
  refine g_icmp_eq (tgt := 2084) (pc := 2079) hC dL_law_2079 (by decide) (fun _ => ?_) (fun q => absurd rfl q)
  refine g_iload (pc := 2084) hC dL_law_2084 rfl ?_
  refine g_if_ne (tgt := 2101) (pc := 2086) hC dL_law_2086 (by decide) (fun q => absurd rfl q) (fun _ => ?_)
  refine g_aload_n (pc := 2089) hC dL_law_2089 rfl ?_
  refine g_iconst (pc := 2090) hC ki_0 dL_law_2090 ?_
  refine g_lald (pc := 2091) hC dL_law_2091 ?_
  refine g_iload (pc := 2092) hC dL_law_2092 rfl ?_
  refine g_i2l (pc := 2094) hC dL_law_2094 ?_
  refine g_lcmp (pc := 2095) hC dL_law_2095 ?_
  refine g_if_eq (tgt := 2101) (pc := 2096) hC dL_law_2096 (by decide) (fun _ => ?_) (fun q => absurd (lg_cmp_self _) q)
  refine g_goto (tgt := 2650) (pc := 2101) hC dL_law_2101 (by decide) ?_
  refine g_mask [true, true, true, true, true, false, false] rfl ?_
  exact kk
set_option maxRecDepth 20000 in
theorem law_34_x1 {l : Launch} {E : uE} {K : uK} {a b : Nat} {o : Int64} {σ : uS} {bb L : Nat} {xs : Nat → Int32} (hC : Cx E K RL cL_law (some .boolean) 11 414) (hN : 7 = K.2.2.2.2.2) (hL : Lx E K bb L xs) (w : Int32) (s1 : Int32) (e1 : s1 = xs (w + 1).toNatClampNeg) (n1 : vp_in (w + 1) L) (hl9 : l.stackTraces = false) (r : Int32) (σ1 σ2 : uS) (h1 : F_X11_common s1 σ = some (.inr 1, σ1)) (h2 : F_X12_common s1 σ1 = some (r, σ2)) (h3 : σ2 55 9 = 1) (hab : Rm K (a + 1) (b + 6)) (kk : Gd l E K (a + 1) (b + 6) o σ2 2650 [some (.ref bb), some (.ref (E.2.1 0)), some (.ref (E.2.1 55)), some (.ref (E.2.1 92)), some (.int w), none, none] []) : Gd l E K a b o σ 2048 [some (.ref bb), some (.ref (E.2.1 0)), some (.ref (E.2.1 55)), some (.ref (E.2.1 92)), some (.int w), none, none] [] := by
  refine g_aload_n (pc := 2048) hC dL_law_2048 rfl ?_
  refine g_aload_n (pc := 2049) hC dL_law_2049 rfl ?_
  refine g_iload (pc := 2050) hC dL_law_2050 rfl ?_
  refine g_iconst (pc := 2052) hC ki_1 dL_law_2052 ?_
  refine g_iadd (pc := 2053) hC dL_law_2053 ?_
  refine g_sld (pc := 2054) hC hL n1 e1 dL_law_2054 ?_
  refine g_aload_n (pc := 2055) hC dL_law_2055 rfl ?_
  refine g_callH (pc := 2056) (As := [.ref (E.2.1 0), .int s1, .ref (E.2.1 92)]) (rest := []) hC (hx_common_1 l hl9 E s1 σ o σ1 h1) mh_common lk_L_239 rfl rfl (Nat.le_of_ble_eq_true rfl) ⟨by decide, by decide⟩ hab dL_law_2056 ?_
  refine g_istore (lv2 := [some (.ref bb), some (.ref (E.2.1 0)), some (.ref (E.2.1 55)), some (.ref (E.2.1 92)), some (.int w), some (.int 1), none]) (pc := 2059) hC dL_law_2059 rfl (Or.inr rfl) (by rw [← hN]; decide) ?_
  refine g_aload_n (pc := 2061) hC dL_law_2061 rfl ?_
  refine g_aload_n (pc := 2062) hC dL_law_2062 rfl ?_
  refine g_iload (pc := 2063) hC dL_law_2063 rfl ?_
  refine g_iconst (pc := 2065) hC ki_1 dL_law_2065 ?_
  refine g_iadd (pc := 2066) hC dL_law_2066 ?_
  refine g_sld (pc := 2067) hC hL n1 e1 dL_law_2067 ?_
  refine g_callVi (pc := 2068) (As := [.int s1]) (rest := []) hC (c_X12_common l E s1 σ1 r σ2 h2) mi_X12_common mv_X12_common ob_55 rfl rfl lk_L_241 rfl rfl (Nat.le_of_ble_eq_true rfl) ⟨by decide, by decide⟩ hab dL_law_2068 ?_
  refine g_istore (lv2 := [some (.ref bb), some (.ref (E.2.1 0)), some (.ref (E.2.1 55)), some (.ref (E.2.1 92)), some (.int w), some (.int 1), some (.int r)]) (pc := 2071) hC dL_law_2071 rfl (Or.inr rfl) (by rw [← hN]; decide) ?_
  refine g_aload_n (pc := 2073) hC dL_law_2073 rfl ?_
  refine g_callVi (pc := 2074) (As := []) (rest := []) hC (c_X12_thrown l E σ2 _ rfl) mi_X12_thrown mv_X12_thrown ob_55 rfl rfl lk_L_144 rfl rfl (Nat.le_of_ble_eq_true rfl) ⟨by decide, by decide⟩ hab dL_law_2074 ?_
  refine g_top h3.symm ?_
  refine g_iload (pc := 2077) hC dL_law_2077 rfl ?_
  refine g_icmp_eq (tgt := 2084) (pc := 2079) hC dL_law_2079 (by decide) (fun _ => ?_) (fun q => absurd rfl q)
  refine g_iload (pc := 2084) hC dL_law_2084 rfl ?_
  refine g_if_ne (tgt := 2101) (pc := 2086) hC dL_law_2086 (by decide) (fun _ => ?_) (fun q => absurd q (by decide))
  refine g_goto (tgt := 2650) (pc := 2101) hC dL_law_2101 (by decide) ?_
  refine g_mask [true, true, true, true, true, false, false] rfl ?_
  exact kk
set_option maxRecDepth 20000 in
theorem law_35 {l : Launch} {E : uE} {K : uK} {a b : Nat} {o : Int64} {σ : uS} {bb L : Nat} {xs : Nat → Int32} (hC : Cx E K RL cL_law (some .boolean) 11 414) (hN : 7 = K.2.2.2.2.2) (hL : Lx E K bb L xs) (w : Int32) (s1 : Int32) (e1 : s1 = xs (w + 1).toNatClampNeg) (n1 : vp_in (w + 1) L) (r : Int32) (σ1 σ2 : uS) (h1 : F_X11_tune s1 σ = some (r, σ1)) (h2 : F_X12_tune s1 σ1 = some (r, σ2)) (hab : Rm K a b) (kk : Gd l E K a b o σ2 2650 [some (.ref bb), some (.ref (E.2.1 0)), some (.ref (E.2.1 55)), some (.ref (E.2.1 92)), some (.int w), none, none] []) : Gd l E K a b o σ 2104 [some (.ref bb), some (.ref (E.2.1 0)), some (.ref (E.2.1 55)), some (.ref (E.2.1 92)), some (.int w), none, none] [] := by
  refine g_aload_n (pc := 2104) hC dL_law_2104 rfl ?_
  refine g_aload_n (pc := 2105) hC dL_law_2105 rfl ?_
  refine g_iload (pc := 2106) hC dL_law_2106 rfl ?_
  refine g_iconst (pc := 2108) hC ki_1 dL_law_2108 ?_
  refine g_iadd (pc := 2109) hC dL_law_2109 ?_
  refine g_sld (pc := 2110) hC hL n1 e1 dL_law_2110 ?_
  refine g_callVi (pc := 2111) (As := [.int s1]) (rest := []) hC (c_X11_tune l E s1 σ r σ1 h1) mi_X11_tune mv_X11_tune ob_0 rfl rfl lk_L_242 rfl rfl (Nat.le_of_ble_eq_true rfl) ⟨by decide, by decide⟩ hab dL_law_2111 ?_
  refine g_aload_n (pc := 2114) hC dL_law_2114 rfl ?_
  refine g_aload_n (pc := 2115) hC dL_law_2115 rfl ?_
  refine g_iload (pc := 2116) hC dL_law_2116 rfl ?_
  refine g_iconst (pc := 2118) hC ki_1 dL_law_2118 ?_
  refine g_iadd (pc := 2119) hC dL_law_2119 ?_
  refine g_sld (pc := 2120) hC hL n1 e1 dL_law_2120 ?_
  refine g_callVi (pc := 2121) (As := [.int s1]) (rest := [.int r]) hC (c_X12_tune l E s1 σ1 r σ2 h2) mi_X12_tune mv_X12_tune ob_55 rfl rfl lk_L_245 rfl rfl (Nat.le_of_ble_eq_true rfl) ⟨by decide, by decide⟩ hab dL_law_2121 ?_
  refine g_icmp_eq (tgt := 2650) (pc := 2124) hC dL_law_2124 (by decide) (fun _ => ?_) (fun q => absurd rfl q)
  exact kk
set_option maxRecDepth 20000 in
theorem law_36 {l : Launch} {E : uE} {K : uK} {a b : Nat} {o : Int64} {σ : uS} {bb L : Nat} {xs : Nat → Int32} (hC : Cx E K RL cL_law (some .boolean) 11 414) (hN : 7 = K.2.2.2.2.2) (hL : Lx E K bb L xs) (w : Int32) (r : Int32) (σ1 σ2 : uS) (h1 : F_X11_hush σ = some (r, σ1)) (h2 : F_X12_hush σ1 = some (r, σ2)) (hab : Rm K a b) (kk : Gd l E K a b o σ2 2650 [some (.ref bb), some (.ref (E.2.1 0)), some (.ref (E.2.1 55)), some (.ref (E.2.1 92)), some (.int w), none, none] []) : Gd l E K a b o σ 2129 [some (.ref bb), some (.ref (E.2.1 0)), some (.ref (E.2.1 55)), some (.ref (E.2.1 92)), some (.int w), none, none] [] := by
  refine g_aload_n (pc := 2129) hC dL_law_2129 rfl ?_
  refine g_callVi (pc := 2130) (As := []) (rest := []) hC (c_X11_hush l E σ r σ1 h1) mi_X11_hush mv_X11_hush ob_0 rfl rfl lk_L_246 rfl rfl (Nat.le_of_ble_eq_true rfl) ⟨by decide, by decide⟩ hab dL_law_2130 ?_
  refine g_aload_n (pc := 2133) hC dL_law_2133 rfl ?_
  refine g_callVi (pc := 2134) (As := []) (rest := [.int r]) hC (c_X12_hush l E σ1 r σ2 h2) mi_X12_hush mv_X12_hush ob_55 rfl rfl lk_L_249 rfl rfl (Nat.le_of_ble_eq_true rfl) ⟨by decide, by decide⟩ hab dL_law_2134 ?_
  refine g_icmp_eq (tgt := 2650) (pc := 2137) hC dL_law_2137 (by decide) (fun _ => ?_) (fun q => absurd rfl q)
  exact kk
set_option maxRecDepth 20000 in
theorem law_37_r {l : Launch} {E : uE} {K : uK} {a b : Nat} {o : Int64} {σ : uS} {bb L : Nat} {xs : Nat → Int32} (hC : Cx E K RL cL_law (some .boolean) 11 414) (hN : 7 = K.2.2.2.2.2) (hL : Lx E K bb L xs) (w : Int32) (s1 : Int32) (e1 : s1 = xs (w + 1).toNatClampNeg) (n1 : vp_in (w + 1) L) (r : Int32) (σ1 σ2 : uS) (h1 : F_X11_match s1 σ = some (.inl r, σ1)) (h2 : F_X12_match s1 σ1 = some (r, σ2)) (h3 : σ2 55 9 = 0) (hab : Rm K a b) (kk : Gd l E K a b r.toInt64 σ2 2650 [some (.ref bb), some (.ref (E.2.1 0)), some (.ref (E.2.1 55)), some (.ref (E.2.1 92)), some (.int w), none, none] []) : Gd l E K a b o σ 2142 [some (.ref bb), some (.ref (E.2.1 0)), some (.ref (E.2.1 55)), some (.ref (E.2.1 92)), some (.int w), none, none] [] := by
  refine g_aload_n (pc := 2142) hC dL_law_2142 rfl ?_
  refine g_aload_n (pc := 2143) hC dL_law_2143 rfl ?_
  refine g_iload (pc := 2144) hC dL_law_2144 rfl ?_
  refine g_iconst (pc := 2146) hC ki_1 dL_law_2146 ?_
  refine g_iadd (pc := 2147) hC dL_law_2147 ?_
  refine g_sld (pc := 2148) hC hL n1 e1 dL_law_2148 ?_
  refine g_aload_n (pc := 2149) hC dL_law_2149 rfl ?_
  refine g_callH (pc := 2150) (As := [.ref (E.2.1 0), .int s1, .ref (E.2.1 92)]) (rest := []) hC (hr_match l E s1 σ o r σ1 h1) mh_match lk_L_250 rfl rfl (Nat.le_of_ble_eq_true rfl) ⟨by decide, by decide⟩ hab dL_law_2150 ?_
  refine g_istore (lv2 := [some (.ref bb), some (.ref (E.2.1 0)), some (.ref (E.2.1 55)), some (.ref (E.2.1 92)), some (.int w), some (.int 0), none]) (pc := 2153) hC dL_law_2153 rfl (Or.inr rfl) (by rw [← hN]; decide) ?_
  refine g_aload_n (pc := 2155) hC dL_law_2155 rfl ?_
  refine g_aload_n (pc := 2156) hC dL_law_2156 rfl ?_
  refine g_iload (pc := 2157) hC dL_law_2157 rfl ?_
  refine g_iconst (pc := 2159) hC ki_1 dL_law_2159 ?_
  refine g_iadd (pc := 2160) hC dL_law_2160 ?_
  refine g_sld (pc := 2161) hC hL n1 e1 dL_law_2161 ?_
  refine g_callVi (pc := 2162) (As := [.int s1]) (rest := []) hC (c_X12_match l E s1 σ1 r σ2 h2) mi_X12_match mv_X12_match ob_55 rfl rfl lk_L_252 rfl rfl (Nat.le_of_ble_eq_true rfl) ⟨by decide, by decide⟩ hab dL_law_2162 ?_
  refine g_istore (lv2 := [some (.ref bb), some (.ref (E.2.1 0)), some (.ref (E.2.1 55)), some (.ref (E.2.1 92)), some (.int w), some (.int 0), some (.int r)]) (pc := 2165) hC dL_law_2165 rfl (Or.inr rfl) (by rw [← hN]; decide) ?_
  refine g_aload_n (pc := 2167) hC dL_law_2167 rfl ?_
  refine g_callVi (pc := 2168) (As := []) (rest := []) hC (c_X12_thrown l E σ2 _ rfl) mi_X12_thrown mv_X12_thrown ob_55 rfl rfl lk_L_144 rfl rfl (Nat.le_of_ble_eq_true rfl) ⟨by decide, by decide⟩ hab dL_law_2168 ?_
  refine g_top h3.symm ?_
  refine g_iload (pc := 2171) hC dL_law_2171 rfl ?_
  refine g_icmp_eq (tgt := 2178) (pc := 2173) hC dL_law_2173 (by decide) (fun _ => ?_) (fun q => absurd rfl q)
  refine g_iload (pc := 2178) hC dL_law_2178 rfl ?_
  refine g_if_ne (tgt := 2195) (pc := 2180) hC dL_law_2180 (by decide) (fun q => absurd rfl q) (fun _ => ?_)
  refine g_aload_n (pc := 2183) hC dL_law_2183 rfl ?_
  refine g_iconst (pc := 2184) hC ki_0 dL_law_2184 ?_
  refine g_lald (pc := 2185) hC dL_law_2185 ?_
  refine g_iload (pc := 2186) hC dL_law_2186 rfl ?_
  refine g_i2l (pc := 2188) hC dL_law_2188 ?_
  refine g_lcmp (pc := 2189) hC dL_law_2189 ?_
  refine g_if_eq (tgt := 2195) (pc := 2190) hC dL_law_2190 (by decide) (fun _ => ?_) (fun q => absurd (lg_cmp_self _) q)
  refine g_goto (tgt := 2650) (pc := 2195) hC dL_law_2195 (by decide) ?_
  refine g_mask [true, true, true, true, true, false, false] rfl ?_
  exact kk
set_option maxRecDepth 20000 in
theorem law_37_x1 {l : Launch} {E : uE} {K : uK} {a b : Nat} {o : Int64} {σ : uS} {bb L : Nat} {xs : Nat → Int32} (hC : Cx E K RL cL_law (some .boolean) 11 414) (hN : 7 = K.2.2.2.2.2) (hL : Lx E K bb L xs) (w : Int32) (s1 : Int32) (e1 : s1 = xs (w + 1).toNatClampNeg) (n1 : vp_in (w + 1) L) (hl9 : l.stackTraces = false) (r : Int32) (σ1 σ2 : uS) (h1 : F_X11_match s1 σ = some (.inr 1, σ1)) (h2 : F_X12_match s1 σ1 = some (r, σ2)) (h3 : σ2 55 9 = 1) (hab : Rm K (a + 1) (b + 6)) (kk : Gd l E K (a + 1) (b + 6) o σ2 2650 [some (.ref bb), some (.ref (E.2.1 0)), some (.ref (E.2.1 55)), some (.ref (E.2.1 92)), some (.int w), none, none] []) : Gd l E K a b o σ 2142 [some (.ref bb), some (.ref (E.2.1 0)), some (.ref (E.2.1 55)), some (.ref (E.2.1 92)), some (.int w), none, none] [] := by
  refine g_aload_n (pc := 2142) hC dL_law_2142 rfl ?_
  refine g_aload_n (pc := 2143) hC dL_law_2143 rfl ?_
  refine g_iload (pc := 2144) hC dL_law_2144 rfl ?_
  refine g_iconst (pc := 2146) hC ki_1 dL_law_2146 ?_
  refine g_iadd (pc := 2147) hC dL_law_2147 ?_
  refine g_sld (pc := 2148) hC hL n1 e1 dL_law_2148 ?_
  refine g_aload_n (pc := 2149) hC dL_law_2149 rfl ?_
  refine g_callH (pc := 2150) (As := [.ref (E.2.1 0), .int s1, .ref (E.2.1 92)]) (rest := []) hC (hx_match_1 l hl9 E s1 σ o σ1 h1) mh_match lk_L_250 rfl rfl (Nat.le_of_ble_eq_true rfl) ⟨by decide, by decide⟩ hab dL_law_2150 ?_
  refine g_istore (lv2 := [some (.ref bb), some (.ref (E.2.1 0)), some (.ref (E.2.1 55)), some (.ref (E.2.1 92)), some (.int w), some (.int 1), none]) (pc := 2153) hC dL_law_2153 rfl (Or.inr rfl) (by rw [← hN]; decide) ?_
  refine g_aload_n (pc := 2155) hC dL_law_2155 rfl ?_
  refine g_aload_n (pc := 2156) hC dL_law_2156 rfl ?_
  refine g_iload (pc := 2157) hC dL_law_2157 rfl ?_
  refine g_iconst (pc := 2159) hC ki_1 dL_law_2159 ?_
  refine g_iadd (pc := 2160) hC dL_law_2160 ?_
  refine g_sld (pc := 2161) hC hL n1 e1 dL_law_2161 ?_
  refine g_callVi (pc := 2162) (As := [.int s1]) (rest := []) hC (c_X12_match l E s1 σ1 r σ2 h2) mi_X12_match mv_X12_match ob_55 rfl rfl lk_L_252 rfl rfl (Nat.le_of_ble_eq_true rfl) ⟨by decide, by decide⟩ hab dL_law_2162 ?_
  refine g_istore (lv2 := [some (.ref bb), some (.ref (E.2.1 0)), some (.ref (E.2.1 55)), some (.ref (E.2.1 92)), some (.int w), some (.int 1), some (.int r)]) (pc := 2165) hC dL_law_2165 rfl (Or.inr rfl) (by rw [← hN]; decide) ?_
  refine g_aload_n (pc := 2167) hC dL_law_2167 rfl ?_
  refine g_callVi (pc := 2168) (As := []) (rest := []) hC (c_X12_thrown l E σ2 _ rfl) mi_X12_thrown mv_X12_thrown ob_55 rfl rfl lk_L_144 rfl rfl (Nat.le_of_ble_eq_true rfl) ⟨by decide, by decide⟩ hab dL_law_2168 ?_
  refine g_top h3.symm ?_
  refine g_iload (pc := 2171) hC dL_law_2171 rfl ?_
  refine g_icmp_eq (tgt := 2178) (pc := 2173) hC dL_law_2173 (by decide) (fun _ => ?_) (fun q => absurd rfl q)
  refine g_iload (pc := 2178) hC dL_law_2178 rfl ?_
  refine g_if_ne (tgt := 2195) (pc := 2180) hC dL_law_2180 (by decide) (fun _ => ?_) (fun q => absurd q (by decide))
  refine g_goto (tgt := 2650) (pc := 2195) hC dL_law_2195 (by decide) ?_
  refine g_mask [true, true, true, true, true, false, false] rfl ?_
  exact kk
set_option maxRecDepth 20000 in
theorem law_38_r {l : Launch} {E : uE} {K : uK} {a b : Nat} {o : Int64} {σ : uS} {bb L : Nat} {xs : Nat → Int32} (hC : Cx E K RL cL_law (some .boolean) 11 414) (hN : 7 = K.2.2.2.2.2) (hL : Lx E K bb L xs) (w : Int32) (s1 : Int32) (e1 : s1 = xs (w + 1).toNatClampNeg) (n1 : vp_in (w + 1) L) (r : Int32) (σ1 σ2 : uS) (h1 : F_X11_matched s1 σ = some (.inl r, σ1)) (h2 : F_X12_matched s1 σ1 = some (r, σ2)) (h3 : σ2 55 9 = 0) (hab : Rm K a b) (kk : Gd l E K a b r.toInt64 σ2 2650 [some (.ref bb), some (.ref (E.2.1 0)), some (.ref (E.2.1 55)), some (.ref (E.2.1 92)), some (.int w), none, none] []) : Gd l E K a b o σ 2198 [some (.ref bb), some (.ref (E.2.1 0)), some (.ref (E.2.1 55)), some (.ref (E.2.1 92)), some (.int w), none, none] [] := by
  refine g_aload_n (pc := 2198) hC dL_law_2198 rfl ?_
  refine g_aload_n (pc := 2199) hC dL_law_2199 rfl ?_
  refine g_iload (pc := 2200) hC dL_law_2200 rfl ?_
  refine g_iconst (pc := 2202) hC ki_1 dL_law_2202 ?_
  refine g_iadd (pc := 2203) hC dL_law_2203 ?_
  refine g_sld (pc := 2204) hC hL n1 e1 dL_law_2204 ?_
  refine g_aload_n (pc := 2205) hC dL_law_2205 rfl ?_
  refine g_callH (pc := 2206) (As := [.ref (E.2.1 0), .int s1, .ref (E.2.1 92)]) (rest := []) hC (hr_matched l E s1 σ o r σ1 h1) mh_matched lk_L_253 rfl rfl (Nat.le_of_ble_eq_true rfl) ⟨by decide, by decide⟩ hab dL_law_2206 ?_
  refine g_istore (lv2 := [some (.ref bb), some (.ref (E.2.1 0)), some (.ref (E.2.1 55)), some (.ref (E.2.1 92)), some (.int w), some (.int 0), none]) (pc := 2209) hC dL_law_2209 rfl (Or.inr rfl) (by rw [← hN]; decide) ?_
  refine g_aload_n (pc := 2211) hC dL_law_2211 rfl ?_
  refine g_aload_n (pc := 2212) hC dL_law_2212 rfl ?_
  refine g_iload (pc := 2213) hC dL_law_2213 rfl ?_
  refine g_iconst (pc := 2215) hC ki_1 dL_law_2215 ?_
  refine g_iadd (pc := 2216) hC dL_law_2216 ?_
  refine g_sld (pc := 2217) hC hL n1 e1 dL_law_2217 ?_
  refine g_callVi (pc := 2218) (As := [.int s1]) (rest := []) hC (c_X12_matched l E s1 σ1 r σ2 h2) mi_X12_matched mv_X12_matched ob_55 rfl rfl lk_L_255 rfl rfl (Nat.le_of_ble_eq_true rfl) ⟨by decide, by decide⟩ hab dL_law_2218 ?_
  refine g_istore (lv2 := [some (.ref bb), some (.ref (E.2.1 0)), some (.ref (E.2.1 55)), some (.ref (E.2.1 92)), some (.int w), some (.int 0), some (.int r)]) (pc := 2221) hC dL_law_2221 rfl (Or.inr rfl) (by rw [← hN]; decide) ?_
  refine g_aload_n (pc := 2223) hC dL_law_2223 rfl ?_
  refine g_callVi (pc := 2224) (As := []) (rest := []) hC (c_X12_thrown l E σ2 _ rfl) mi_X12_thrown mv_X12_thrown ob_55 rfl rfl lk_L_144 rfl rfl (Nat.le_of_ble_eq_true rfl) ⟨by decide, by decide⟩ hab dL_law_2224 ?_
  refine g_top h3.symm ?_
  refine g_iload (pc := 2227) hC dL_law_2227 rfl ?_
  refine g_icmp_eq (tgt := 2234) (pc := 2229) hC dL_law_2229 (by decide) (fun _ => ?_) (fun q => absurd rfl q)
  refine g_iload (pc := 2234) hC dL_law_2234 rfl ?_
  refine g_if_ne (tgt := 2251) (pc := 2236) hC dL_law_2236 (by decide) (fun q => absurd rfl q) (fun _ => ?_)
  refine g_aload_n (pc := 2239) hC dL_law_2239 rfl ?_
  refine g_iconst (pc := 2240) hC ki_0 dL_law_2240 ?_
  refine g_lald (pc := 2241) hC dL_law_2241 ?_
  refine g_iload (pc := 2242) hC dL_law_2242 rfl ?_
  refine g_i2l (pc := 2244) hC dL_law_2244 ?_
  refine g_lcmp (pc := 2245) hC dL_law_2245 ?_
  refine g_if_eq (tgt := 2251) (pc := 2246) hC dL_law_2246 (by decide) (fun _ => ?_) (fun q => absurd (lg_cmp_self _) q)
  refine g_goto (tgt := 2650) (pc := 2251) hC dL_law_2251 (by decide) ?_
  refine g_mask [true, true, true, true, true, false, false] rfl ?_
  exact kk
set_option maxRecDepth 20000 in
theorem law_38_x1 {l : Launch} {E : uE} {K : uK} {a b : Nat} {o : Int64} {σ : uS} {bb L : Nat} {xs : Nat → Int32} (hC : Cx E K RL cL_law (some .boolean) 11 414) (hN : 7 = K.2.2.2.2.2) (hL : Lx E K bb L xs) (w : Int32) (s1 : Int32) (e1 : s1 = xs (w + 1).toNatClampNeg) (n1 : vp_in (w + 1) L) (hl9 : l.stackTraces = false) (r : Int32) (σ1 σ2 : uS) (h1 : F_X11_matched s1 σ = some (.inr 1, σ1)) (h2 : F_X12_matched s1 σ1 = some (r, σ2)) (h3 : σ2 55 9 = 1) (hab : Rm K (a + 1) (b + 6)) (kk : Gd l E K (a + 1) (b + 6) o σ2 2650 [some (.ref bb), some (.ref (E.2.1 0)), some (.ref (E.2.1 55)), some (.ref (E.2.1 92)), some (.int w), none, none] []) : Gd l E K a b o σ 2198 [some (.ref bb), some (.ref (E.2.1 0)), some (.ref (E.2.1 55)), some (.ref (E.2.1 92)), some (.int w), none, none] [] := by
  refine g_aload_n (pc := 2198) hC dL_law_2198 rfl ?_
  refine g_aload_n (pc := 2199) hC dL_law_2199 rfl ?_
  refine g_iload (pc := 2200) hC dL_law_2200 rfl ?_
  refine g_iconst (pc := 2202) hC ki_1 dL_law_2202 ?_
  refine g_iadd (pc := 2203) hC dL_law_2203 ?_
  refine g_sld (pc := 2204) hC hL n1 e1 dL_law_2204 ?_
  refine g_aload_n (pc := 2205) hC dL_law_2205 rfl ?_
  refine g_callH (pc := 2206) (As := [.ref (E.2.1 0), .int s1, .ref (E.2.1 92)]) (rest := []) hC (hx_matched_1 l hl9 E s1 σ o σ1 h1) mh_matched lk_L_253 rfl rfl (Nat.le_of_ble_eq_true rfl) ⟨by decide, by decide⟩ hab dL_law_2206 ?_
  refine g_istore (lv2 := [some (.ref bb), some (.ref (E.2.1 0)), some (.ref (E.2.1 55)), some (.ref (E.2.1 92)), some (.int w), some (.int 1), none]) (pc := 2209) hC dL_law_2209 rfl (Or.inr rfl) (by rw [← hN]; decide) ?_
  refine g_aload_n (pc := 2211) hC dL_law_2211 rfl ?_
  refine g_aload_n (pc := 2212) hC dL_law_2212 rfl ?_
  refine g_iload (pc := 2213) hC dL_law_2213 rfl ?_
  refine g_iconst (pc := 2215) hC ki_1 dL_law_2215 ?_
  refine g_iadd (pc := 2216) hC dL_law_2216 ?_
  refine g_sld (pc := 2217) hC hL n1 e1 dL_law_2217 ?_
  refine g_callVi (pc := 2218) (As := [.int s1]) (rest := []) hC (c_X12_matched l E s1 σ1 r σ2 h2) mi_X12_matched mv_X12_matched ob_55 rfl rfl lk_L_255 rfl rfl (Nat.le_of_ble_eq_true rfl) ⟨by decide, by decide⟩ hab dL_law_2218 ?_
  refine g_istore (lv2 := [some (.ref bb), some (.ref (E.2.1 0)), some (.ref (E.2.1 55)), some (.ref (E.2.1 92)), some (.int w), some (.int 1), some (.int r)]) (pc := 2221) hC dL_law_2221 rfl (Or.inr rfl) (by rw [← hN]; decide) ?_
  refine g_aload_n (pc := 2223) hC dL_law_2223 rfl ?_
  refine g_callVi (pc := 2224) (As := []) (rest := []) hC (c_X12_thrown l E σ2 _ rfl) mi_X12_thrown mv_X12_thrown ob_55 rfl rfl lk_L_144 rfl rfl (Nat.le_of_ble_eq_true rfl) ⟨by decide, by decide⟩ hab dL_law_2224 ?_
  refine g_top h3.symm ?_
  refine g_iload (pc := 2227) hC dL_law_2227 rfl ?_
  refine g_icmp_eq (tgt := 2234) (pc := 2229) hC dL_law_2229 (by decide) (fun _ => ?_) (fun q => absurd rfl q)
  refine g_iload (pc := 2234) hC dL_law_2234 rfl ?_
  refine g_if_ne (tgt := 2251) (pc := 2236) hC dL_law_2236 (by decide) (fun _ => ?_) (fun q => absurd q (by decide))
  refine g_goto (tgt := 2650) (pc := 2251) hC dL_law_2251 (by decide) ?_
  refine g_mask [true, true, true, true, true, false, false] rfl ?_
  exact kk
set_option maxRecDepth 20000 in
theorem law_39 {l : Launch} {E : uE} {K : uK} {a b : Nat} {o : Int64} {σ : uS} {bb L : Nat} {xs : Nat → Int32} (hC : Cx E K RL cL_law (some .boolean) 11 414) (hN : 7 = K.2.2.2.2.2) (hL : Lx E K bb L xs) (w : Int32) (r : Int32) (σ1 σ2 : uS) (h1 : F_X11_marks σ = some (r, σ1)) (h2 : F_X12_marks σ1 = some (r, σ2)) (hab : Rm K a b) (kk : Gd l E K a b o σ2 2650 [some (.ref bb), some (.ref (E.2.1 0)), some (.ref (E.2.1 55)), some (.ref (E.2.1 92)), some (.int w), none, none] []) : Gd l E K a b o σ 2254 [some (.ref bb), some (.ref (E.2.1 0)), some (.ref (E.2.1 55)), some (.ref (E.2.1 92)), some (.int w), none, none] [] := by
  refine g_aload_n (pc := 2254) hC dL_law_2254 rfl ?_
  refine g_callVi (pc := 2255) (As := []) (rest := []) hC (c_X11_marks l E σ r σ1 h1) mi_X11_marks mv_X11_marks ob_0 rfl rfl lk_L_256 rfl rfl (Nat.le_of_ble_eq_true rfl) ⟨by decide, by decide⟩ hab dL_law_2255 ?_
  refine g_aload_n (pc := 2258) hC dL_law_2258 rfl ?_
  refine g_callVi (pc := 2259) (As := []) (rest := [.int r]) hC (c_X12_marks l E σ1 r σ2 h2) mi_X12_marks mv_X12_marks ob_55 rfl rfl lk_L_259 rfl rfl (Nat.le_of_ble_eq_true rfl) ⟨by decide, by decide⟩ hab dL_law_2259 ?_
  refine g_icmp_eq (tgt := 2650) (pc := 2262) hC dL_law_2262 (by decide) (fun _ => ?_) (fun q => absurd rfl q)
  exact kk
set_option maxRecDepth 20000 in
theorem law_40_r {l : Launch} {E : uE} {K : uK} {a b : Nat} {o : Int64} {σ : uS} {bb L : Nat} {xs : Nat → Int32} (hC : Cx E K RL cL_law (some .boolean) 11 414) (hN : 7 = K.2.2.2.2.2) (hL : Lx E K bb L xs) (w : Int32) (s1 : Int32) (e1 : s1 = xs (w + 1).toNatClampNeg) (n1 : vp_in (w + 1) L) (r : Int32) (σ1 σ2 : uS) (h1 : F_X11_mark s1 σ = some (.inl r, σ1)) (h2 : F_X12_mark s1 σ1 = some (r, σ2)) (h3 : σ2 55 9 = 0) (hab : Rm K a b) (kk : Gd l E K a b r.toInt64 σ2 2650 [some (.ref bb), some (.ref (E.2.1 0)), some (.ref (E.2.1 55)), some (.ref (E.2.1 92)), some (.int w), none, none] []) : Gd l E K a b o σ 2267 [some (.ref bb), some (.ref (E.2.1 0)), some (.ref (E.2.1 55)), some (.ref (E.2.1 92)), some (.int w), none, none] [] := by
  refine g_aload_n (pc := 2267) hC dL_law_2267 rfl ?_
  refine g_aload_n (pc := 2268) hC dL_law_2268 rfl ?_
  refine g_iload (pc := 2269) hC dL_law_2269 rfl ?_
  refine g_iconst (pc := 2271) hC ki_1 dL_law_2271 ?_
  refine g_iadd (pc := 2272) hC dL_law_2272 ?_
  refine g_sld (pc := 2273) hC hL n1 e1 dL_law_2273 ?_
  refine g_aload_n (pc := 2274) hC dL_law_2274 rfl ?_
  refine g_callH (pc := 2275) (As := [.ref (E.2.1 0), .int s1, .ref (E.2.1 92)]) (rest := []) hC (hr_mark l E s1 σ o r σ1 h1) mh_mark lk_L_260 rfl rfl (Nat.le_of_ble_eq_true rfl) ⟨by decide, by decide⟩ hab dL_law_2275 ?_
  refine g_istore (lv2 := [some (.ref bb), some (.ref (E.2.1 0)), some (.ref (E.2.1 55)), some (.ref (E.2.1 92)), some (.int w), some (.int 0), none]) (pc := 2278) hC dL_law_2278 rfl (Or.inr rfl) (by rw [← hN]; decide) ?_
  refine g_aload_n (pc := 2280) hC dL_law_2280 rfl ?_
  refine g_aload_n (pc := 2281) hC dL_law_2281 rfl ?_
  refine g_iload (pc := 2282) hC dL_law_2282 rfl ?_
  refine g_iconst (pc := 2284) hC ki_1 dL_law_2284 ?_
  refine g_iadd (pc := 2285) hC dL_law_2285 ?_
  refine g_sld (pc := 2286) hC hL n1 e1 dL_law_2286 ?_
  refine g_callVi (pc := 2287) (As := [.int s1]) (rest := []) hC (c_X12_mark l E s1 σ1 r σ2 h2) mi_X12_mark mv_X12_mark ob_55 rfl rfl lk_L_262 rfl rfl (Nat.le_of_ble_eq_true rfl) ⟨by decide, by decide⟩ hab dL_law_2287 ?_
  refine g_istore (lv2 := [some (.ref bb), some (.ref (E.2.1 0)), some (.ref (E.2.1 55)), some (.ref (E.2.1 92)), some (.int w), some (.int 0), some (.int r)]) (pc := 2290) hC dL_law_2290 rfl (Or.inr rfl) (by rw [← hN]; decide) ?_
  refine g_aload_n (pc := 2292) hC dL_law_2292 rfl ?_
  refine g_callVi (pc := 2293) (As := []) (rest := []) hC (c_X12_thrown l E σ2 _ rfl) mi_X12_thrown mv_X12_thrown ob_55 rfl rfl lk_L_144 rfl rfl (Nat.le_of_ble_eq_true rfl) ⟨by decide, by decide⟩ hab dL_law_2293 ?_
  refine g_top h3.symm ?_
  refine g_iload (pc := 2296) hC dL_law_2296 rfl ?_
  refine g_icmp_eq (tgt := 2303) (pc := 2298) hC dL_law_2298 (by decide) (fun _ => ?_) (fun q => absurd rfl q)
  refine g_iload (pc := 2303) hC dL_law_2303 rfl ?_
  refine g_if_ne (tgt := 2320) (pc := 2305) hC dL_law_2305 (by decide) (fun q => absurd rfl q) (fun _ => ?_)
  refine g_aload_n (pc := 2308) hC dL_law_2308 rfl ?_
  refine g_iconst (pc := 2309) hC ki_0 dL_law_2309 ?_
  refine g_lald (pc := 2310) hC dL_law_2310 ?_
  refine g_iload (pc := 2311) hC dL_law_2311 rfl ?_
  refine g_i2l (pc := 2313) hC dL_law_2313 ?_
  refine g_lcmp (pc := 2314) hC dL_law_2314 ?_
  refine g_if_eq (tgt := 2320) (pc := 2315) hC dL_law_2315 (by decide) (fun _ => ?_) (fun q => absurd (lg_cmp_self _) q)
  refine g_goto (tgt := 2650) (pc := 2320) hC dL_law_2320 (by decide) ?_
  refine g_mask [true, true, true, true, true, false, false] rfl ?_
  exact kk
set_option maxRecDepth 20000 in
theorem law_40_x1 {l : Launch} {E : uE} {K : uK} {a b : Nat} {o : Int64} {σ : uS} {bb L : Nat} {xs : Nat → Int32} (hC : Cx E K RL cL_law (some .boolean) 11 414) (hN : 7 = K.2.2.2.2.2) (hL : Lx E K bb L xs) (w : Int32) (s1 : Int32) (e1 : s1 = xs (w + 1).toNatClampNeg) (n1 : vp_in (w + 1) L) (hl9 : l.stackTraces = false) (r : Int32) (σ1 σ2 : uS) (h1 : F_X11_mark s1 σ = some (.inr 1, σ1)) (h2 : F_X12_mark s1 σ1 = some (r, σ2)) (h3 : σ2 55 9 = 1) (hab : Rm K (a + 1) (b + 6)) (kk : Gd l E K (a + 1) (b + 6) o σ2 2650 [some (.ref bb), some (.ref (E.2.1 0)), some (.ref (E.2.1 55)), some (.ref (E.2.1 92)), some (.int w), none, none] []) : Gd l E K a b o σ 2267 [some (.ref bb), some (.ref (E.2.1 0)), some (.ref (E.2.1 55)), some (.ref (E.2.1 92)), some (.int w), none, none] [] := by
  refine g_aload_n (pc := 2267) hC dL_law_2267 rfl ?_
  refine g_aload_n (pc := 2268) hC dL_law_2268 rfl ?_
  refine g_iload (pc := 2269) hC dL_law_2269 rfl ?_
  refine g_iconst (pc := 2271) hC ki_1 dL_law_2271 ?_
  refine g_iadd (pc := 2272) hC dL_law_2272 ?_
  refine g_sld (pc := 2273) hC hL n1 e1 dL_law_2273 ?_
  refine g_aload_n (pc := 2274) hC dL_law_2274 rfl ?_
  refine g_callH (pc := 2275) (As := [.ref (E.2.1 0), .int s1, .ref (E.2.1 92)]) (rest := []) hC (hx_mark_1 l hl9 E s1 σ o σ1 h1) mh_mark lk_L_260 rfl rfl (Nat.le_of_ble_eq_true rfl) ⟨by decide, by decide⟩ hab dL_law_2275 ?_
  refine g_istore (lv2 := [some (.ref bb), some (.ref (E.2.1 0)), some (.ref (E.2.1 55)), some (.ref (E.2.1 92)), some (.int w), some (.int 1), none]) (pc := 2278) hC dL_law_2278 rfl (Or.inr rfl) (by rw [← hN]; decide) ?_
  refine g_aload_n (pc := 2280) hC dL_law_2280 rfl ?_
  refine g_aload_n (pc := 2281) hC dL_law_2281 rfl ?_
  refine g_iload (pc := 2282) hC dL_law_2282 rfl ?_
  refine g_iconst (pc := 2284) hC ki_1 dL_law_2284 ?_
  refine g_iadd (pc := 2285) hC dL_law_2285 ?_
  refine g_sld (pc := 2286) hC hL n1 e1 dL_law_2286 ?_
  refine g_callVi (pc := 2287) (As := [.int s1]) (rest := []) hC (c_X12_mark l E s1 σ1 r σ2 h2) mi_X12_mark mv_X12_mark ob_55 rfl rfl lk_L_262 rfl rfl (Nat.le_of_ble_eq_true rfl) ⟨by decide, by decide⟩ hab dL_law_2287 ?_
  refine g_istore (lv2 := [some (.ref bb), some (.ref (E.2.1 0)), some (.ref (E.2.1 55)), some (.ref (E.2.1 92)), some (.int w), some (.int 1), some (.int r)]) (pc := 2290) hC dL_law_2290 rfl (Or.inr rfl) (by rw [← hN]; decide) ?_
  refine g_aload_n (pc := 2292) hC dL_law_2292 rfl ?_
  refine g_callVi (pc := 2293) (As := []) (rest := []) hC (c_X12_thrown l E σ2 _ rfl) mi_X12_thrown mv_X12_thrown ob_55 rfl rfl lk_L_144 rfl rfl (Nat.le_of_ble_eq_true rfl) ⟨by decide, by decide⟩ hab dL_law_2293 ?_
  refine g_top h3.symm ?_
  refine g_iload (pc := 2296) hC dL_law_2296 rfl ?_
  refine g_icmp_eq (tgt := 2303) (pc := 2298) hC dL_law_2298 (by decide) (fun _ => ?_) (fun q => absurd rfl q)
  refine g_iload (pc := 2303) hC dL_law_2303 rfl ?_
  refine g_if_ne (tgt := 2320) (pc := 2305) hC dL_law_2305 (by decide) (fun _ => ?_) (fun q => absurd q (by decide))
  refine g_goto (tgt := 2650) (pc := 2320) hC dL_law_2320 (by decide) ?_
  refine g_mask [true, true, true, true, true, false, false] rfl ?_
  exact kk
set_option maxRecDepth 20000 in
theorem law_41 {l : Launch} {E : uE} {K : uK} {a b : Nat} {o : Int64} {σ : uS} {bb L : Nat} {xs : Nat → Int32} (hC : Cx E K RL cL_law (some .boolean) 11 414) (hN : 7 = K.2.2.2.2.2) (hL : Lx E K bb L xs) (w : Int32) (s1 : Int32) (e1 : s1 = xs (w + 1).toNatClampNeg) (n1 : vp_in (w + 1) L) (r : Int32) (σ1 σ2 : uS) (h1 : F_X11_near s1 σ = some (r, σ1)) (h2 : F_X12_near s1 σ1 = some (r, σ2)) (hab : Rm K a b) (kk : Gd l E K a b o σ2 2650 [some (.ref bb), some (.ref (E.2.1 0)), some (.ref (E.2.1 55)), some (.ref (E.2.1 92)), some (.int w), none, none] []) : Gd l E K a b o σ 2323 [some (.ref bb), some (.ref (E.2.1 0)), some (.ref (E.2.1 55)), some (.ref (E.2.1 92)), some (.int w), none, none] [] := by
  refine g_aload_n (pc := 2323) hC dL_law_2323 rfl ?_
  refine g_aload_n (pc := 2324) hC dL_law_2324 rfl ?_
  refine g_iload (pc := 2325) hC dL_law_2325 rfl ?_
  refine g_iconst (pc := 2327) hC ki_1 dL_law_2327 ?_
  refine g_iadd (pc := 2328) hC dL_law_2328 ?_
  refine g_sld (pc := 2329) hC hL n1 e1 dL_law_2329 ?_
  refine g_callVi (pc := 2330) (As := [.int s1]) (rest := []) hC (c_X11_near l E s1 σ r σ1 h1) mi_X11_near mv_X11_near ob_0 rfl rfl lk_L_263 rfl rfl (Nat.le_of_ble_eq_true rfl) ⟨by decide, by decide⟩ hab dL_law_2330 ?_
  refine g_aload_n (pc := 2333) hC dL_law_2333 rfl ?_
  refine g_aload_n (pc := 2334) hC dL_law_2334 rfl ?_
  refine g_iload (pc := 2335) hC dL_law_2335 rfl ?_
  refine g_iconst (pc := 2337) hC ki_1 dL_law_2337 ?_
  refine g_iadd (pc := 2338) hC dL_law_2338 ?_
  refine g_sld (pc := 2339) hC hL n1 e1 dL_law_2339 ?_
  refine g_callVi (pc := 2340) (As := [.int s1]) (rest := [.int r]) hC (c_X12_near l E s1 σ1 r σ2 h2) mi_X12_near mv_X12_near ob_55 rfl rfl lk_L_266 rfl rfl (Nat.le_of_ble_eq_true rfl) ⟨by decide, by decide⟩ hab dL_law_2340 ?_
  refine g_icmp_eq (tgt := 2650) (pc := 2343) hC dL_law_2343 (by decide) (fun _ => ?_) (fun q => absurd rfl q)
  exact kk
set_option maxRecDepth 20000 in
theorem law_42 {l : Launch} {E : uE} {K : uK} {a b : Nat} {o : Int64} {σ : uS} {bb L : Nat} {xs : Nat → Int32} (hC : Cx E K RL cL_law (some .boolean) 11 414) (hN : 7 = K.2.2.2.2.2) (hL : Lx E K bb L xs) (w : Int32) (s1 : Int32) (e1 : s1 = xs (w + 1).toNatClampNeg) (n1 : vp_in (w + 1) L) (r : Int32) (σ1 σ2 : uS) (h1 : F_X11_behind s1 σ = some (r, σ1)) (h2 : F_X12_behind s1 σ1 = some (r, σ2)) (hab : Rm K a b) (kk : Gd l E K a b o σ2 2650 [some (.ref bb), some (.ref (E.2.1 0)), some (.ref (E.2.1 55)), some (.ref (E.2.1 92)), some (.int w), none, none] []) : Gd l E K a b o σ 2348 [some (.ref bb), some (.ref (E.2.1 0)), some (.ref (E.2.1 55)), some (.ref (E.2.1 92)), some (.int w), none, none] [] := by
  refine g_aload_n (pc := 2348) hC dL_law_2348 rfl ?_
  refine g_aload_n (pc := 2349) hC dL_law_2349 rfl ?_
  refine g_iload (pc := 2350) hC dL_law_2350 rfl ?_
  refine g_iconst (pc := 2352) hC ki_1 dL_law_2352 ?_
  refine g_iadd (pc := 2353) hC dL_law_2353 ?_
  refine g_sld (pc := 2354) hC hL n1 e1 dL_law_2354 ?_
  refine g_callVi (pc := 2355) (As := [.int s1]) (rest := []) hC (c_X11_behind l E s1 σ r σ1 h1) mi_X11_behind mv_X11_behind ob_0 rfl rfl lk_L_267 rfl rfl (Nat.le_of_ble_eq_true rfl) ⟨by decide, by decide⟩ hab dL_law_2355 ?_
  refine g_aload_n (pc := 2358) hC dL_law_2358 rfl ?_
  refine g_aload_n (pc := 2359) hC dL_law_2359 rfl ?_
  refine g_iload (pc := 2360) hC dL_law_2360 rfl ?_
  refine g_iconst (pc := 2362) hC ki_1 dL_law_2362 ?_
  refine g_iadd (pc := 2363) hC dL_law_2363 ?_
  refine g_sld (pc := 2364) hC hL n1 e1 dL_law_2364 ?_
  refine g_callVi (pc := 2365) (As := [.int s1]) (rest := [.int r]) hC (c_X12_behind l E s1 σ1 r σ2 h2) mi_X12_behind mv_X12_behind ob_55 rfl rfl lk_L_270 rfl rfl (Nat.le_of_ble_eq_true rfl) ⟨by decide, by decide⟩ hab dL_law_2365 ?_
  refine g_icmp_eq (tgt := 2650) (pc := 2368) hC dL_law_2368 (by decide) (fun _ => ?_) (fun q => absurd rfl q)
  exact kk
set_option maxRecDepth 20000 in
theorem law_43_r {l : Launch} {E : uE} {K : uK} {a b : Nat} {o : Int64} {σ : uS} {bb L : Nat} {xs : Nat → Int32} (hC : Cx E K RL cL_law (some .boolean) 11 414) (hN : 7 = K.2.2.2.2.2) (hL : Lx E K bb L xs) (w : Int32) (s1 : Int32) (e1 : s1 = xs (w + 1).toNatClampNeg) (n1 : vp_in (w + 1) L) (r : Int32) (σ1 σ2 : uS) (h1 : F_X11_gaps s1 σ = some (.inl r, σ1)) (h2 : F_X12_gaps s1 σ1 = some (r, σ2)) (h3 : σ2 55 9 = 0) (hab : Rm K a b) (kk : Gd l E K a b r.toInt64 σ2 2650 [some (.ref bb), some (.ref (E.2.1 0)), some (.ref (E.2.1 55)), some (.ref (E.2.1 92)), some (.int w), none, none] []) : Gd l E K a b o σ 2373 [some (.ref bb), some (.ref (E.2.1 0)), some (.ref (E.2.1 55)), some (.ref (E.2.1 92)), some (.int w), none, none] [] := by
  refine g_aload_n (pc := 2373) hC dL_law_2373 rfl ?_
  refine g_aload_n (pc := 2374) hC dL_law_2374 rfl ?_
  refine g_iload (pc := 2375) hC dL_law_2375 rfl ?_
  refine g_iconst (pc := 2377) hC ki_1 dL_law_2377 ?_
  refine g_iadd (pc := 2378) hC dL_law_2378 ?_
  refine g_sld (pc := 2379) hC hL n1 e1 dL_law_2379 ?_
  refine g_aload_n (pc := 2380) hC dL_law_2380 rfl ?_
  refine g_callH (pc := 2381) (As := [.ref (E.2.1 0), .int s1, .ref (E.2.1 92)]) (rest := []) hC (hr_gaps l E s1 σ o r σ1 h1) mh_gaps lk_L_271 rfl rfl (Nat.le_of_ble_eq_true rfl) ⟨by decide, by decide⟩ hab dL_law_2381 ?_
  refine g_istore (lv2 := [some (.ref bb), some (.ref (E.2.1 0)), some (.ref (E.2.1 55)), some (.ref (E.2.1 92)), some (.int w), some (.int 0), none]) (pc := 2384) hC dL_law_2384 rfl (Or.inr rfl) (by rw [← hN]; decide) ?_
  refine g_aload_n (pc := 2386) hC dL_law_2386 rfl ?_
  refine g_aload_n (pc := 2387) hC dL_law_2387 rfl ?_
  refine g_iload (pc := 2388) hC dL_law_2388 rfl ?_
  refine g_iconst (pc := 2390) hC ki_1 dL_law_2390 ?_
  refine g_iadd (pc := 2391) hC dL_law_2391 ?_
  refine g_sld (pc := 2392) hC hL n1 e1 dL_law_2392 ?_
  refine g_callVi (pc := 2393) (As := [.int s1]) (rest := []) hC (c_X12_gaps l E s1 σ1 r σ2 h2) mi_X12_gaps mv_X12_gaps ob_55 rfl rfl lk_L_273 rfl rfl (Nat.le_of_ble_eq_true rfl) ⟨by decide, by decide⟩ hab dL_law_2393 ?_
  refine g_istore (lv2 := [some (.ref bb), some (.ref (E.2.1 0)), some (.ref (E.2.1 55)), some (.ref (E.2.1 92)), some (.int w), some (.int 0), some (.int r)]) (pc := 2396) hC dL_law_2396 rfl (Or.inr rfl) (by rw [← hN]; decide) ?_
  refine g_aload_n (pc := 2398) hC dL_law_2398 rfl ?_
  refine g_callVi (pc := 2399) (As := []) (rest := []) hC (c_X12_thrown l E σ2 _ rfl) mi_X12_thrown mv_X12_thrown ob_55 rfl rfl lk_L_144 rfl rfl (Nat.le_of_ble_eq_true rfl) ⟨by decide, by decide⟩ hab dL_law_2399 ?_
  refine g_top h3.symm ?_
  refine g_iload (pc := 2402) hC dL_law_2402 rfl ?_
  refine g_icmp_eq (tgt := 2409) (pc := 2404) hC dL_law_2404 (by decide) (fun _ => ?_) (fun q => absurd rfl q)
  refine g_iload (pc := 2409) hC dL_law_2409 rfl ?_
  refine g_if_ne (tgt := 2426) (pc := 2411) hC dL_law_2411 (by decide) (fun q => absurd rfl q) (fun _ => ?_)
  refine g_aload_n (pc := 2414) hC dL_law_2414 rfl ?_
  refine g_iconst (pc := 2415) hC ki_0 dL_law_2415 ?_
  refine g_lald (pc := 2416) hC dL_law_2416 ?_
  refine g_iload (pc := 2417) hC dL_law_2417 rfl ?_
  refine g_i2l (pc := 2419) hC dL_law_2419 ?_
  refine g_lcmp (pc := 2420) hC dL_law_2420 ?_
  refine g_if_eq (tgt := 2426) (pc := 2421) hC dL_law_2421 (by decide) (fun _ => ?_) (fun q => absurd (lg_cmp_self _) q)
  refine g_goto (tgt := 2650) (pc := 2426) hC dL_law_2426 (by decide) ?_
  refine g_mask [true, true, true, true, true, false, false] rfl ?_
  exact kk
set_option maxRecDepth 20000 in
theorem law_43_x1 {l : Launch} {E : uE} {K : uK} {a b : Nat} {o : Int64} {σ : uS} {bb L : Nat} {xs : Nat → Int32} (hC : Cx E K RL cL_law (some .boolean) 11 414) (hN : 7 = K.2.2.2.2.2) (hL : Lx E K bb L xs) (w : Int32) (s1 : Int32) (e1 : s1 = xs (w + 1).toNatClampNeg) (n1 : vp_in (w + 1) L) (hl9 : l.stackTraces = false) (r : Int32) (σ1 σ2 : uS) (h1 : F_X11_gaps s1 σ = some (.inr 1, σ1)) (h2 : F_X12_gaps s1 σ1 = some (r, σ2)) (h3 : σ2 55 9 = 1) (hab : Rm K (a + 1) (b + 6)) (kk : Gd l E K (a + 1) (b + 6) o σ2 2650 [some (.ref bb), some (.ref (E.2.1 0)), some (.ref (E.2.1 55)), some (.ref (E.2.1 92)), some (.int w), none, none] []) : Gd l E K a b o σ 2373 [some (.ref bb), some (.ref (E.2.1 0)), some (.ref (E.2.1 55)), some (.ref (E.2.1 92)), some (.int w), none, none] [] := by
  refine g_aload_n (pc := 2373) hC dL_law_2373 rfl ?_
  refine g_aload_n (pc := 2374) hC dL_law_2374 rfl ?_
  refine g_iload (pc := 2375) hC dL_law_2375 rfl ?_
  refine g_iconst (pc := 2377) hC ki_1 dL_law_2377 ?_
  refine g_iadd (pc := 2378) hC dL_law_2378 ?_
  refine g_sld (pc := 2379) hC hL n1 e1 dL_law_2379 ?_
  refine g_aload_n (pc := 2380) hC dL_law_2380 rfl ?_
  refine g_callH (pc := 2381) (As := [.ref (E.2.1 0), .int s1, .ref (E.2.1 92)]) (rest := []) hC (hx_gaps_1 l hl9 E s1 σ o σ1 h1) mh_gaps lk_L_271 rfl rfl (Nat.le_of_ble_eq_true rfl) ⟨by decide, by decide⟩ hab dL_law_2381 ?_
  refine g_istore (lv2 := [some (.ref bb), some (.ref (E.2.1 0)), some (.ref (E.2.1 55)), some (.ref (E.2.1 92)), some (.int w), some (.int 1), none]) (pc := 2384) hC dL_law_2384 rfl (Or.inr rfl) (by rw [← hN]; decide) ?_
  refine g_aload_n (pc := 2386) hC dL_law_2386 rfl ?_
  refine g_aload_n (pc := 2387) hC dL_law_2387 rfl ?_
  refine g_iload (pc := 2388) hC dL_law_2388 rfl ?_
  refine g_iconst (pc := 2390) hC ki_1 dL_law_2390 ?_
  refine g_iadd (pc := 2391) hC dL_law_2391 ?_
  refine g_sld (pc := 2392) hC hL n1 e1 dL_law_2392 ?_
  refine g_callVi (pc := 2393) (As := [.int s1]) (rest := []) hC (c_X12_gaps l E s1 σ1 r σ2 h2) mi_X12_gaps mv_X12_gaps ob_55 rfl rfl lk_L_273 rfl rfl (Nat.le_of_ble_eq_true rfl) ⟨by decide, by decide⟩ hab dL_law_2393 ?_
  refine g_istore (lv2 := [some (.ref bb), some (.ref (E.2.1 0)), some (.ref (E.2.1 55)), some (.ref (E.2.1 92)), some (.int w), some (.int 1), some (.int r)]) (pc := 2396) hC dL_law_2396 rfl (Or.inr rfl) (by rw [← hN]; decide) ?_
  refine g_aload_n (pc := 2398) hC dL_law_2398 rfl ?_
  refine g_callVi (pc := 2399) (As := []) (rest := []) hC (c_X12_thrown l E σ2 _ rfl) mi_X12_thrown mv_X12_thrown ob_55 rfl rfl lk_L_144 rfl rfl (Nat.le_of_ble_eq_true rfl) ⟨by decide, by decide⟩ hab dL_law_2399 ?_
  refine g_top h3.symm ?_
  refine g_iload (pc := 2402) hC dL_law_2402 rfl ?_
  refine g_icmp_eq (tgt := 2409) (pc := 2404) hC dL_law_2404 (by decide) (fun _ => ?_) (fun q => absurd rfl q)
  refine g_iload (pc := 2409) hC dL_law_2409 rfl ?_
  refine g_if_ne (tgt := 2426) (pc := 2411) hC dL_law_2411 (by decide) (fun _ => ?_) (fun q => absurd q (by decide))
  refine g_goto (tgt := 2650) (pc := 2426) hC dL_law_2426 (by decide) ?_
  refine g_mask [true, true, true, true, true, false, false] rfl ?_
  exact kk
set_option maxRecDepth 20000 in
theorem law_44_r {l : Launch} {E : uE} {K : uK} {a b : Nat} {o : Int64} {σ : uS} {bb L : Nat} {xs : Nat → Int32} (hC : Cx E K RL cL_law (some .boolean) 11 414) (hN : 7 = K.2.2.2.2.2) (hL : Lx E K bb L xs) (w : Int32) (s1 : Int32) (e1 : s1 = xs (w + 1).toNatClampNeg) (n1 : vp_in (w + 1) L) (r : Int32) (σ1 σ2 : uS) (h1 : F_X11_rough s1 σ = some (.inl r, σ1)) (h2 : F_X12_rough s1 σ1 = some (r, σ2)) (h3 : σ2 55 9 = 0) (hab : Rm K a b) (kk : Gd l E K a b r.toInt64 σ2 2650 [some (.ref bb), some (.ref (E.2.1 0)), some (.ref (E.2.1 55)), some (.ref (E.2.1 92)), some (.int w), none, none] []) : Gd l E K a b o σ 2429 [some (.ref bb), some (.ref (E.2.1 0)), some (.ref (E.2.1 55)), some (.ref (E.2.1 92)), some (.int w), none, none] [] := by
  refine g_aload_n (pc := 2429) hC dL_law_2429 rfl ?_
  refine g_aload_n (pc := 2430) hC dL_law_2430 rfl ?_
  refine g_iload (pc := 2431) hC dL_law_2431 rfl ?_
  refine g_iconst (pc := 2433) hC ki_1 dL_law_2433 ?_
  refine g_iadd (pc := 2434) hC dL_law_2434 ?_
  refine g_sld (pc := 2435) hC hL n1 e1 dL_law_2435 ?_
  refine g_aload_n (pc := 2436) hC dL_law_2436 rfl ?_
  refine g_callH (pc := 2437) (As := [.ref (E.2.1 0), .int s1, .ref (E.2.1 92)]) (rest := []) hC (hr_rough l E s1 σ o r σ1 h1) mh_rough lk_L_274 rfl rfl (Nat.le_of_ble_eq_true rfl) ⟨by decide, by decide⟩ hab dL_law_2437 ?_
  refine g_istore (lv2 := [some (.ref bb), some (.ref (E.2.1 0)), some (.ref (E.2.1 55)), some (.ref (E.2.1 92)), some (.int w), some (.int 0), none]) (pc := 2440) hC dL_law_2440 rfl (Or.inr rfl) (by rw [← hN]; decide) ?_
  refine g_aload_n (pc := 2442) hC dL_law_2442 rfl ?_
  refine g_aload_n (pc := 2443) hC dL_law_2443 rfl ?_
  refine g_iload (pc := 2444) hC dL_law_2444 rfl ?_
  refine g_iconst (pc := 2446) hC ki_1 dL_law_2446 ?_
  refine g_iadd (pc := 2447) hC dL_law_2447 ?_
  refine g_sld (pc := 2448) hC hL n1 e1 dL_law_2448 ?_
  refine g_callVi (pc := 2449) (As := [.int s1]) (rest := []) hC (c_X12_rough l E s1 σ1 r σ2 h2) mi_X12_rough mv_X12_rough ob_55 rfl rfl lk_L_276 rfl rfl (Nat.le_of_ble_eq_true rfl) ⟨by decide, by decide⟩ hab dL_law_2449 ?_
  refine g_istore (lv2 := [some (.ref bb), some (.ref (E.2.1 0)), some (.ref (E.2.1 55)), some (.ref (E.2.1 92)), some (.int w), some (.int 0), some (.int r)]) (pc := 2452) hC dL_law_2452 rfl (Or.inr rfl) (by rw [← hN]; decide) ?_
  refine g_aload_n (pc := 2454) hC dL_law_2454 rfl ?_
  refine g_callVi (pc := 2455) (As := []) (rest := []) hC (c_X12_thrown l E σ2 _ rfl) mi_X12_thrown mv_X12_thrown ob_55 rfl rfl lk_L_144 rfl rfl (Nat.le_of_ble_eq_true rfl) ⟨by decide, by decide⟩ hab dL_law_2455 ?_
  refine g_top h3.symm ?_
  refine g_iload (pc := 2458) hC dL_law_2458 rfl ?_
  refine g_icmp_eq (tgt := 2465) (pc := 2460) hC dL_law_2460 (by decide) (fun _ => ?_) (fun q => absurd rfl q)
  refine g_iload (pc := 2465) hC dL_law_2465 rfl ?_
  refine g_if_ne (tgt := 2482) (pc := 2467) hC dL_law_2467 (by decide) (fun q => absurd rfl q) (fun _ => ?_)
  refine g_aload_n (pc := 2470) hC dL_law_2470 rfl ?_
  refine g_iconst (pc := 2471) hC ki_0 dL_law_2471 ?_
  refine g_lald (pc := 2472) hC dL_law_2472 ?_
  refine g_iload (pc := 2473) hC dL_law_2473 rfl ?_
  refine g_i2l (pc := 2475) hC dL_law_2475 ?_
  refine g_lcmp (pc := 2476) hC dL_law_2476 ?_
  refine g_if_eq (tgt := 2482) (pc := 2477) hC dL_law_2477 (by decide) (fun _ => ?_) (fun q => absurd (lg_cmp_self _) q)
  refine g_goto (tgt := 2650) (pc := 2482) hC dL_law_2482 (by decide) ?_
  refine g_mask [true, true, true, true, true, false, false] rfl ?_
  exact kk
set_option maxRecDepth 20000 in
theorem law_44_x1 {l : Launch} {E : uE} {K : uK} {a b : Nat} {o : Int64} {σ : uS} {bb L : Nat} {xs : Nat → Int32} (hC : Cx E K RL cL_law (some .boolean) 11 414) (hN : 7 = K.2.2.2.2.2) (hL : Lx E K bb L xs) (w : Int32) (s1 : Int32) (e1 : s1 = xs (w + 1).toNatClampNeg) (n1 : vp_in (w + 1) L) (hl9 : l.stackTraces = false) (r : Int32) (σ1 σ2 : uS) (h1 : F_X11_rough s1 σ = some (.inr 1, σ1)) (h2 : F_X12_rough s1 σ1 = some (r, σ2)) (h3 : σ2 55 9 = 1) (hab : Rm K (a + 1) (b + 6)) (kk : Gd l E K (a + 1) (b + 6) o σ2 2650 [some (.ref bb), some (.ref (E.2.1 0)), some (.ref (E.2.1 55)), some (.ref (E.2.1 92)), some (.int w), none, none] []) : Gd l E K a b o σ 2429 [some (.ref bb), some (.ref (E.2.1 0)), some (.ref (E.2.1 55)), some (.ref (E.2.1 92)), some (.int w), none, none] [] := by
  refine g_aload_n (pc := 2429) hC dL_law_2429 rfl ?_
  refine g_aload_n (pc := 2430) hC dL_law_2430 rfl ?_
  refine g_iload (pc := 2431) hC dL_law_2431 rfl ?_
  refine g_iconst (pc := 2433) hC ki_1 dL_law_2433 ?_
  refine g_iadd (pc := 2434) hC dL_law_2434 ?_
  refine g_sld (pc := 2435) hC hL n1 e1 dL_law_2435 ?_
  refine g_aload_n (pc := 2436) hC dL_law_2436 rfl ?_
  refine g_callH (pc := 2437) (As := [.ref (E.2.1 0), .int s1, .ref (E.2.1 92)]) (rest := []) hC (hx_rough_1 l hl9 E s1 σ o σ1 h1) mh_rough lk_L_274 rfl rfl (Nat.le_of_ble_eq_true rfl) ⟨by decide, by decide⟩ hab dL_law_2437 ?_
  refine g_istore (lv2 := [some (.ref bb), some (.ref (E.2.1 0)), some (.ref (E.2.1 55)), some (.ref (E.2.1 92)), some (.int w), some (.int 1), none]) (pc := 2440) hC dL_law_2440 rfl (Or.inr rfl) (by rw [← hN]; decide) ?_
  refine g_aload_n (pc := 2442) hC dL_law_2442 rfl ?_
  refine g_aload_n (pc := 2443) hC dL_law_2443 rfl ?_
  refine g_iload (pc := 2444) hC dL_law_2444 rfl ?_
  refine g_iconst (pc := 2446) hC ki_1 dL_law_2446 ?_
  refine g_iadd (pc := 2447) hC dL_law_2447 ?_
  refine g_sld (pc := 2448) hC hL n1 e1 dL_law_2448 ?_
  refine g_callVi (pc := 2449) (As := [.int s1]) (rest := []) hC (c_X12_rough l E s1 σ1 r σ2 h2) mi_X12_rough mv_X12_rough ob_55 rfl rfl lk_L_276 rfl rfl (Nat.le_of_ble_eq_true rfl) ⟨by decide, by decide⟩ hab dL_law_2449 ?_
  refine g_istore (lv2 := [some (.ref bb), some (.ref (E.2.1 0)), some (.ref (E.2.1 55)), some (.ref (E.2.1 92)), some (.int w), some (.int 1), some (.int r)]) (pc := 2452) hC dL_law_2452 rfl (Or.inr rfl) (by rw [← hN]; decide) ?_
  refine g_aload_n (pc := 2454) hC dL_law_2454 rfl ?_
  refine g_callVi (pc := 2455) (As := []) (rest := []) hC (c_X12_thrown l E σ2 _ rfl) mi_X12_thrown mv_X12_thrown ob_55 rfl rfl lk_L_144 rfl rfl (Nat.le_of_ble_eq_true rfl) ⟨by decide, by decide⟩ hab dL_law_2455 ?_
  refine g_top h3.symm ?_
  refine g_iload (pc := 2458) hC dL_law_2458 rfl ?_
  refine g_icmp_eq (tgt := 2465) (pc := 2460) hC dL_law_2460 (by decide) (fun _ => ?_) (fun q => absurd rfl q)
  refine g_iload (pc := 2465) hC dL_law_2465 rfl ?_
  refine g_if_ne (tgt := 2482) (pc := 2467) hC dL_law_2467 (by decide) (fun _ => ?_) (fun q => absurd q (by decide))
  refine g_goto (tgt := 2650) (pc := 2482) hC dL_law_2482 (by decide) ?_
  refine g_mask [true, true, true, true, true, false, false] rfl ?_
  exact kk
set_option maxRecDepth 20000 in
theorem law_45 {l : Launch} {E : uE} {K : uK} {a b : Nat} {o : Int64} {σ : uS} {bb L : Nat} {xs : Nat → Int32} (hC : Cx E K RL cL_law (some .boolean) 11 414) (hN : 7 = K.2.2.2.2.2) (hL : Lx E K bb L xs) (w : Int32) (r : Int32) (σ1 σ2 : uS) (h1 : F_X11_roughest σ = some (r, σ1)) (h2 : F_X12_roughest σ1 = some (r, σ2)) (hab : Rm K a b) (kk : Gd l E K a b o σ2 2650 [some (.ref bb), some (.ref (E.2.1 0)), some (.ref (E.2.1 55)), some (.ref (E.2.1 92)), some (.int w), none, none] []) : Gd l E K a b o σ 2485 [some (.ref bb), some (.ref (E.2.1 0)), some (.ref (E.2.1 55)), some (.ref (E.2.1 92)), some (.int w), none, none] [] := by
  refine g_aload_n (pc := 2485) hC dL_law_2485 rfl ?_
  refine g_callVi (pc := 2486) (As := []) (rest := []) hC (c_X11_roughest l E σ r σ1 h1) mi_X11_roughest mv_X11_roughest ob_0 rfl rfl lk_L_277 rfl rfl (Nat.le_of_ble_eq_true rfl) ⟨by decide, by decide⟩ hab dL_law_2486 ?_
  refine g_aload_n (pc := 2489) hC dL_law_2489 rfl ?_
  refine g_callVi (pc := 2490) (As := []) (rest := [.int r]) hC (c_X12_roughest l E σ1 r σ2 h2) mi_X12_roughest mv_X12_roughest ob_55 rfl rfl lk_L_280 rfl rfl (Nat.le_of_ble_eq_true rfl) ⟨by decide, by decide⟩ hab dL_law_2490 ?_
  refine g_icmp_eq (tgt := 2650) (pc := 2493) hC dL_law_2493 (by decide) (fun _ => ?_) (fun q => absurd rfl q)
  exact kk
set_option maxRecDepth 20000 in
theorem law_46_r {l : Launch} {E : uE} {K : uK} {a b : Nat} {o : Int64} {σ : uS} {bb L : Nat} {xs : Nat → Int32} (hC : Cx E K RL cL_law (some .boolean) 11 414) (hN : 7 = K.2.2.2.2.2) (hL : Lx E K bb L xs) (w : Int32) (s1 : Int32) (e1 : s1 = xs (w + 1).toNatClampNeg) (n1 : vp_in (w + 1) L) (z1 : Int32) (f1 : z1 = if s1 = 0 then 0 else 1) (r : Int32) (σ1 σ2 : uS) (h1 : F_X11_mean z1 σ = some (.inl r, σ1)) (h2 : F_X12_mean z1 σ1 = some (r, σ2)) (h3 : σ2 55 9 = 0) (hab : Rm K a b) (kk : Gd l E K a b r.toInt64 σ2 2650 [some (.ref bb), some (.ref (E.2.1 0)), some (.ref (E.2.1 55)), some (.ref (E.2.1 92)), some (.int w), none, none] []) : Gd l E K a b o σ 2498 [some (.ref bb), some (.ref (E.2.1 0)), some (.ref (E.2.1 55)), some (.ref (E.2.1 92)), some (.int w), none, none] [] := by
  refine g_aload_n (pc := 2498) hC dL_law_2498 rfl ?_
  refine g_aload_n (pc := 2499) hC dL_law_2499 rfl ?_
  refine g_iload (pc := 2500) hC dL_law_2500 rfl ?_
  refine g_iconst (pc := 2502) hC ki_1 dL_law_2502 ?_
  refine g_iadd (pc := 2503) hC dL_law_2503 ?_
  refine g_sld (pc := 2504) hC hL n1 e1 dL_law_2504 ?_
  have hJ2513 : Gd l E K a b o σ 2513 [some (.ref bb), some (.ref (E.2.1 0)), some (.ref (E.2.1 55)), some (.ref (E.2.1 92)), some (.int w), none, none] [.int z1, .ref (E.2.1 0)] := ?J2513
  · refine g_if_eq (tgt := 2512) (pc := 2505) hC dL_law_2505 (by decide) (fun q => ?_) (fun q => ?_)
    · refine g_iconst (pc := 2512) hC ki_0 dL_law_2512 ?_
      exact g_top (f1.trans (if_pos q)) hJ2513
    · refine g_iconst (pc := 2508) hC ki_1 dL_law_2508 ?_
      refine g_goto (tgt := 2513) (pc := 2509) hC dL_law_2509 (by decide) ?_
      exact g_top (f1.trans (if_neg q)) hJ2513
  refine g_aload_n (pc := 2513) hC dL_law_2513 rfl ?_
  refine g_callH (pc := 2514) (As := [.ref (E.2.1 0), .int z1, .ref (E.2.1 92)]) (rest := []) hC (hr_mean l E z1 σ o r σ1 h1) mh_mean lk_L_281 rfl rfl (Nat.le_of_ble_eq_true rfl) ⟨by decide, by decide⟩ hab dL_law_2514 ?_
  refine g_istore (lv2 := [some (.ref bb), some (.ref (E.2.1 0)), some (.ref (E.2.1 55)), some (.ref (E.2.1 92)), some (.int w), some (.int 0), none]) (pc := 2517) hC dL_law_2517 rfl (Or.inr rfl) (by rw [← hN]; decide) ?_
  refine g_aload_n (pc := 2519) hC dL_law_2519 rfl ?_
  refine g_aload_n (pc := 2520) hC dL_law_2520 rfl ?_
  refine g_iload (pc := 2521) hC dL_law_2521 rfl ?_
  refine g_iconst (pc := 2523) hC ki_1 dL_law_2523 ?_
  refine g_iadd (pc := 2524) hC dL_law_2524 ?_
  refine g_sld (pc := 2525) hC hL n1 e1 dL_law_2525 ?_
  have hJ2534 : Gd l E K a b r.toInt64 σ1 2534 [some (.ref bb), some (.ref (E.2.1 0)), some (.ref (E.2.1 55)), some (.ref (E.2.1 92)), some (.int w), some (.int 0), none] [.int z1, .ref (E.2.1 55)] := ?J2534
  · refine g_if_eq (tgt := 2533) (pc := 2526) hC dL_law_2526 (by decide) (fun q => ?_) (fun q => ?_)
    · refine g_iconst (pc := 2533) hC ki_0 dL_law_2533 ?_
      exact g_top (f1.trans (if_pos q)) hJ2534
    · refine g_iconst (pc := 2529) hC ki_1 dL_law_2529 ?_
      refine g_goto (tgt := 2534) (pc := 2530) hC dL_law_2530 (by decide) ?_
      exact g_top (f1.trans (if_neg q)) hJ2534
  refine g_callVi (pc := 2534) (As := [.int z1]) (rest := []) hC (c_X12_mean l E z1 σ1 r σ2 h2) mi_X12_mean mv_X12_mean ob_55 rfl rfl lk_L_284 rfl rfl (Nat.le_of_ble_eq_true rfl) ⟨by decide, by decide⟩ hab dL_law_2534 ?_
  refine g_istore (lv2 := [some (.ref bb), some (.ref (E.2.1 0)), some (.ref (E.2.1 55)), some (.ref (E.2.1 92)), some (.int w), some (.int 0), some (.int r)]) (pc := 2537) hC dL_law_2537 rfl (Or.inr rfl) (by rw [← hN]; decide) ?_
  refine g_aload_n (pc := 2539) hC dL_law_2539 rfl ?_
  refine g_callVi (pc := 2540) (As := []) (rest := []) hC (c_X12_thrown l E σ2 _ rfl) mi_X12_thrown mv_X12_thrown ob_55 rfl rfl lk_L_144 rfl rfl (Nat.le_of_ble_eq_true rfl) ⟨by decide, by decide⟩ hab dL_law_2540 ?_
  refine g_top h3.symm ?_
  refine g_iload (pc := 2543) hC dL_law_2543 rfl ?_
  refine g_icmp_eq (tgt := 2550) (pc := 2545) hC dL_law_2545 (by decide) (fun _ => ?_) (fun q => absurd rfl q)
  refine g_iload (pc := 2550) hC dL_law_2550 rfl ?_
  refine g_if_ne (tgt := 2567) (pc := 2552) hC dL_law_2552 (by decide) (fun q => absurd rfl q) (fun _ => ?_)
  refine g_aload_n (pc := 2555) hC dL_law_2555 rfl ?_
  refine g_iconst (pc := 2556) hC ki_0 dL_law_2556 ?_
  refine g_lald (pc := 2557) hC dL_law_2557 ?_
  refine g_iload (pc := 2558) hC dL_law_2558 rfl ?_
  refine g_i2l (pc := 2560) hC dL_law_2560 ?_
  refine g_lcmp (pc := 2561) hC dL_law_2561 ?_
  refine g_if_eq (tgt := 2567) (pc := 2562) hC dL_law_2562 (by decide) (fun _ => ?_) (fun q => absurd (lg_cmp_self _) q)
  refine g_goto (tgt := 2650) (pc := 2567) hC dL_law_2567 (by decide) ?_
  refine g_mask [true, true, true, true, true, false, false] rfl ?_
  exact kk
set_option maxRecDepth 20000 in
theorem law_46_x1 {l : Launch} {E : uE} {K : uK} {a b : Nat} {o : Int64} {σ : uS} {bb L : Nat} {xs : Nat → Int32} (hC : Cx E K RL cL_law (some .boolean) 11 414) (hN : 7 = K.2.2.2.2.2) (hL : Lx E K bb L xs) (w : Int32) (s1 : Int32) (e1 : s1 = xs (w + 1).toNatClampNeg) (n1 : vp_in (w + 1) L) (z1 : Int32) (f1 : z1 = if s1 = 0 then 0 else 1) (hl9 : l.stackTraces = false) (r : Int32) (σ1 σ2 : uS) (h1 : F_X11_mean z1 σ = some (.inr 1, σ1)) (h2 : F_X12_mean z1 σ1 = some (r, σ2)) (h3 : σ2 55 9 = 1) (hab : Rm K (a + 1) (b + 6)) (kk : Gd l E K (a + 1) (b + 6) o σ2 2650 [some (.ref bb), some (.ref (E.2.1 0)), some (.ref (E.2.1 55)), some (.ref (E.2.1 92)), some (.int w), none, none] []) : Gd l E K a b o σ 2498 [some (.ref bb), some (.ref (E.2.1 0)), some (.ref (E.2.1 55)), some (.ref (E.2.1 92)), some (.int w), none, none] [] := by
  refine g_aload_n (pc := 2498) hC dL_law_2498 rfl ?_
  refine g_aload_n (pc := 2499) hC dL_law_2499 rfl ?_
  refine g_iload (pc := 2500) hC dL_law_2500 rfl ?_
  refine g_iconst (pc := 2502) hC ki_1 dL_law_2502 ?_
  refine g_iadd (pc := 2503) hC dL_law_2503 ?_
  refine g_sld (pc := 2504) hC hL n1 e1 dL_law_2504 ?_
  have hJ2513 : Gd l E K a b o σ 2513 [some (.ref bb), some (.ref (E.2.1 0)), some (.ref (E.2.1 55)), some (.ref (E.2.1 92)), some (.int w), none, none] [.int z1, .ref (E.2.1 0)] := ?J2513
  · refine g_if_eq (tgt := 2512) (pc := 2505) hC dL_law_2505 (by decide) (fun q => ?_) (fun q => ?_)
    · refine g_iconst (pc := 2512) hC ki_0 dL_law_2512 ?_
      exact g_top (f1.trans (if_pos q)) hJ2513
    · refine g_iconst (pc := 2508) hC ki_1 dL_law_2508 ?_
      refine g_goto (tgt := 2513) (pc := 2509) hC dL_law_2509 (by decide) ?_
      exact g_top (f1.trans (if_neg q)) hJ2513
  refine g_aload_n (pc := 2513) hC dL_law_2513 rfl ?_
  refine g_callH (pc := 2514) (As := [.ref (E.2.1 0), .int z1, .ref (E.2.1 92)]) (rest := []) hC (hx_mean_1 l hl9 E z1 σ o σ1 h1) mh_mean lk_L_281 rfl rfl (Nat.le_of_ble_eq_true rfl) ⟨by decide, by decide⟩ hab dL_law_2514 ?_
  refine g_istore (lv2 := [some (.ref bb), some (.ref (E.2.1 0)), some (.ref (E.2.1 55)), some (.ref (E.2.1 92)), some (.int w), some (.int 1), none]) (pc := 2517) hC dL_law_2517 rfl (Or.inr rfl) (by rw [← hN]; decide) ?_
  refine g_aload_n (pc := 2519) hC dL_law_2519 rfl ?_
  refine g_aload_n (pc := 2520) hC dL_law_2520 rfl ?_
  refine g_iload (pc := 2521) hC dL_law_2521 rfl ?_
  refine g_iconst (pc := 2523) hC ki_1 dL_law_2523 ?_
  refine g_iadd (pc := 2524) hC dL_law_2524 ?_
  refine g_sld (pc := 2525) hC hL n1 e1 dL_law_2525 ?_
  have hJ2534 : Gd l E K (a + 1) (b + 6) o σ1 2534 [some (.ref bb), some (.ref (E.2.1 0)), some (.ref (E.2.1 55)), some (.ref (E.2.1 92)), some (.int w), some (.int 1), none] [.int z1, .ref (E.2.1 55)] := ?J2534
  · refine g_if_eq (tgt := 2533) (pc := 2526) hC dL_law_2526 (by decide) (fun q => ?_) (fun q => ?_)
    · refine g_iconst (pc := 2533) hC ki_0 dL_law_2533 ?_
      exact g_top (f1.trans (if_pos q)) hJ2534
    · refine g_iconst (pc := 2529) hC ki_1 dL_law_2529 ?_
      refine g_goto (tgt := 2534) (pc := 2530) hC dL_law_2530 (by decide) ?_
      exact g_top (f1.trans (if_neg q)) hJ2534
  refine g_callVi (pc := 2534) (As := [.int z1]) (rest := []) hC (c_X12_mean l E z1 σ1 r σ2 h2) mi_X12_mean mv_X12_mean ob_55 rfl rfl lk_L_284 rfl rfl (Nat.le_of_ble_eq_true rfl) ⟨by decide, by decide⟩ hab dL_law_2534 ?_
  refine g_istore (lv2 := [some (.ref bb), some (.ref (E.2.1 0)), some (.ref (E.2.1 55)), some (.ref (E.2.1 92)), some (.int w), some (.int 1), some (.int r)]) (pc := 2537) hC dL_law_2537 rfl (Or.inr rfl) (by rw [← hN]; decide) ?_
  refine g_aload_n (pc := 2539) hC dL_law_2539 rfl ?_
  refine g_callVi (pc := 2540) (As := []) (rest := []) hC (c_X12_thrown l E σ2 _ rfl) mi_X12_thrown mv_X12_thrown ob_55 rfl rfl lk_L_144 rfl rfl (Nat.le_of_ble_eq_true rfl) ⟨by decide, by decide⟩ hab dL_law_2540 ?_
  refine g_top h3.symm ?_
  refine g_iload (pc := 2543) hC dL_law_2543 rfl ?_
  refine g_icmp_eq (tgt := 2550) (pc := 2545) hC dL_law_2545 (by decide) (fun _ => ?_) (fun q => absurd rfl q)
  refine g_iload (pc := 2550) hC dL_law_2550 rfl ?_
  refine g_if_ne (tgt := 2567) (pc := 2552) hC dL_law_2552 (by decide) (fun _ => ?_) (fun q => absurd q (by decide))
  refine g_goto (tgt := 2650) (pc := 2567) hC dL_law_2567 (by decide) ?_
  refine g_mask [true, true, true, true, true, false, false] rfl ?_
  exact kk
set_option maxRecDepth 20000 in
theorem law_47_r {l : Launch} {E : uE} {K : uK} {a b : Nat} {o : Int64} {σ : uS} {bb L : Nat} {xs : Nat → Int32} (hC : Cx E K RL cL_law (some .boolean) 11 414) (hN : 7 = K.2.2.2.2.2) (hL : Lx E K bb L xs) (w : Int32) (s1 : Int32) (e1 : s1 = xs (w + 1).toNatClampNeg) (n1 : vp_in (w + 1) L) (s2 : Int32) (e2 : s2 = xs (w + 2).toNatClampNeg) (n2 : vp_in (w + 2) L) (s3 : Int32) (e3 : s3 = xs (w + 3).toNatClampNeg) (n3 : vp_in (w + 3) L) (r : Int32) (σ1 σ2 : uS) (h1 : F_X11_anew s1 s2 s3 σ = some (.inl r, σ1)) (h2 : F_X12_anew s1 s2 s3 σ1 = some (r, σ2)) (h3 : σ2 55 9 = 0) (hab : Rm K a b) (kk : Gd l E K a b r.toInt64 σ2 2650 [some (.ref bb), some (.ref (E.2.1 0)), some (.ref (E.2.1 55)), some (.ref (E.2.1 92)), some (.int w), none, none] []) : Gd l E K a b o σ 2570 [some (.ref bb), some (.ref (E.2.1 0)), some (.ref (E.2.1 55)), some (.ref (E.2.1 92)), some (.int w), none, none] [] := by
  refine g_aload_n (pc := 2570) hC dL_law_2570 rfl ?_
  refine g_aload_n (pc := 2571) hC dL_law_2571 rfl ?_
  refine g_iload (pc := 2572) hC dL_law_2572 rfl ?_
  refine g_iconst (pc := 2574) hC ki_1 dL_law_2574 ?_
  refine g_iadd (pc := 2575) hC dL_law_2575 ?_
  refine g_sld (pc := 2576) hC hL n1 e1 dL_law_2576 ?_
  refine g_aload_n (pc := 2577) hC dL_law_2577 rfl ?_
  refine g_iload (pc := 2578) hC dL_law_2578 rfl ?_
  refine g_iconst (pc := 2580) hC ki_2 dL_law_2580 ?_
  refine g_iadd (pc := 2581) hC dL_law_2581 ?_
  refine g_sld (pc := 2582) hC hL n2 e2 dL_law_2582 ?_
  refine g_aload_n (pc := 2583) hC dL_law_2583 rfl ?_
  refine g_iload (pc := 2584) hC dL_law_2584 rfl ?_
  refine g_iconst (pc := 2586) hC ki_3 dL_law_2586 ?_
  refine g_iadd (pc := 2587) hC dL_law_2587 ?_
  refine g_sld (pc := 2588) hC hL n3 e3 dL_law_2588 ?_
  refine g_aload_n (pc := 2589) hC dL_law_2589 rfl ?_
  refine g_callH (pc := 2590) (As := [.ref (E.2.1 0), .int s1, .int s2, .int s3, .ref (E.2.1 92)]) (rest := []) hC (hr_anew l E s1 s2 s3 σ o r σ1 h1) mh_anew lk_L_285 rfl rfl (Nat.le_of_ble_eq_true rfl) ⟨by decide, by decide⟩ hab dL_law_2590 ?_
  refine g_istore (lv2 := [some (.ref bb), some (.ref (E.2.1 0)), some (.ref (E.2.1 55)), some (.ref (E.2.1 92)), some (.int w), some (.int 0), none]) (pc := 2593) hC dL_law_2593 rfl (Or.inr rfl) (by rw [← hN]; decide) ?_
  refine g_aload_n (pc := 2595) hC dL_law_2595 rfl ?_
  refine g_aload_n (pc := 2596) hC dL_law_2596 rfl ?_
  refine g_iload (pc := 2597) hC dL_law_2597 rfl ?_
  refine g_iconst (pc := 2599) hC ki_1 dL_law_2599 ?_
  refine g_iadd (pc := 2600) hC dL_law_2600 ?_
  refine g_sld (pc := 2601) hC hL n1 e1 dL_law_2601 ?_
  refine g_aload_n (pc := 2602) hC dL_law_2602 rfl ?_
  refine g_iload (pc := 2603) hC dL_law_2603 rfl ?_
  refine g_iconst (pc := 2605) hC ki_2 dL_law_2605 ?_
  refine g_iadd (pc := 2606) hC dL_law_2606 ?_
  refine g_sld (pc := 2607) hC hL n2 e2 dL_law_2607 ?_
  refine g_aload_n (pc := 2608) hC dL_law_2608 rfl ?_
  refine g_iload (pc := 2609) hC dL_law_2609 rfl ?_
  refine g_iconst (pc := 2611) hC ki_3 dL_law_2611 ?_
  refine g_iadd (pc := 2612) hC dL_law_2612 ?_
  refine g_sld (pc := 2613) hC hL n3 e3 dL_law_2613 ?_
  refine g_callVi (pc := 2614) (As := [.int s1, .int s2, .int s3]) (rest := []) hC (c_X12_anew l E s1 s2 s3 σ1 r σ2 h2) mi_X12_anew mv_X12_anew ob_55 rfl rfl lk_L_287 rfl rfl (Nat.le_of_ble_eq_true rfl) ⟨by decide, by decide⟩ hab dL_law_2614 ?_
  refine g_istore (lv2 := [some (.ref bb), some (.ref (E.2.1 0)), some (.ref (E.2.1 55)), some (.ref (E.2.1 92)), some (.int w), some (.int 0), some (.int r)]) (pc := 2617) hC dL_law_2617 rfl (Or.inr rfl) (by rw [← hN]; decide) ?_
  refine g_aload_n (pc := 2619) hC dL_law_2619 rfl ?_
  refine g_callVi (pc := 2620) (As := []) (rest := []) hC (c_X12_thrown l E σ2 _ rfl) mi_X12_thrown mv_X12_thrown ob_55 rfl rfl lk_L_144 rfl rfl (Nat.le_of_ble_eq_true rfl) ⟨by decide, by decide⟩ hab dL_law_2620 ?_
  refine g_top h3.symm ?_
  refine g_iload (pc := 2623) hC dL_law_2623 rfl ?_
  refine g_icmp_eq (tgt := 2630) (pc := 2625) hC dL_law_2625 (by decide) (fun _ => ?_) (fun q => absurd rfl q)
  refine g_iload (pc := 2630) hC dL_law_2630 rfl ?_
  refine g_if_ne (tgt := 2647) (pc := 2632) hC dL_law_2632 (by decide) (fun q => absurd rfl q) (fun _ => ?_)
  refine g_aload_n (pc := 2635) hC dL_law_2635 rfl ?_
  refine g_iconst (pc := 2636) hC ki_0 dL_law_2636 ?_
  refine g_lald (pc := 2637) hC dL_law_2637 ?_
  refine g_iload (pc := 2638) hC dL_law_2638 rfl ?_
  refine g_i2l (pc := 2640) hC dL_law_2640 ?_
  refine g_lcmp (pc := 2641) hC dL_law_2641 ?_
  refine g_if_eq (tgt := 2647) (pc := 2642) hC dL_law_2642 (by decide) (fun _ => ?_) (fun q => absurd (lg_cmp_self _) q)
  refine g_goto (tgt := 2650) (pc := 2647) hC dL_law_2647 (by decide) ?_
  refine g_mask [true, true, true, true, true, false, false] rfl ?_
  exact kk
set_option maxRecDepth 20000 in
theorem law_47_x1 {l : Launch} {E : uE} {K : uK} {a b : Nat} {o : Int64} {σ : uS} {bb L : Nat} {xs : Nat → Int32} (hC : Cx E K RL cL_law (some .boolean) 11 414) (hN : 7 = K.2.2.2.2.2) (hL : Lx E K bb L xs) (w : Int32) (s1 : Int32) (e1 : s1 = xs (w + 1).toNatClampNeg) (n1 : vp_in (w + 1) L) (s2 : Int32) (e2 : s2 = xs (w + 2).toNatClampNeg) (n2 : vp_in (w + 2) L) (s3 : Int32) (e3 : s3 = xs (w + 3).toNatClampNeg) (n3 : vp_in (w + 3) L) (hl9 : l.stackTraces = false) (r : Int32) (σ1 σ2 : uS) (h1 : F_X11_anew s1 s2 s3 σ = some (.inr 1, σ1)) (h2 : F_X12_anew s1 s2 s3 σ1 = some (r, σ2)) (h3 : σ2 55 9 = 1) (hab : Rm K (a + 1) (b + 6)) (kk : Gd l E K (a + 1) (b + 6) o σ2 2650 [some (.ref bb), some (.ref (E.2.1 0)), some (.ref (E.2.1 55)), some (.ref (E.2.1 92)), some (.int w), none, none] []) : Gd l E K a b o σ 2570 [some (.ref bb), some (.ref (E.2.1 0)), some (.ref (E.2.1 55)), some (.ref (E.2.1 92)), some (.int w), none, none] [] := by
  refine g_aload_n (pc := 2570) hC dL_law_2570 rfl ?_
  refine g_aload_n (pc := 2571) hC dL_law_2571 rfl ?_
  refine g_iload (pc := 2572) hC dL_law_2572 rfl ?_
  refine g_iconst (pc := 2574) hC ki_1 dL_law_2574 ?_
  refine g_iadd (pc := 2575) hC dL_law_2575 ?_
  refine g_sld (pc := 2576) hC hL n1 e1 dL_law_2576 ?_
  refine g_aload_n (pc := 2577) hC dL_law_2577 rfl ?_
  refine g_iload (pc := 2578) hC dL_law_2578 rfl ?_
  refine g_iconst (pc := 2580) hC ki_2 dL_law_2580 ?_
  refine g_iadd (pc := 2581) hC dL_law_2581 ?_
  refine g_sld (pc := 2582) hC hL n2 e2 dL_law_2582 ?_
  refine g_aload_n (pc := 2583) hC dL_law_2583 rfl ?_
  refine g_iload (pc := 2584) hC dL_law_2584 rfl ?_
  refine g_iconst (pc := 2586) hC ki_3 dL_law_2586 ?_
  refine g_iadd (pc := 2587) hC dL_law_2587 ?_
  refine g_sld (pc := 2588) hC hL n3 e3 dL_law_2588 ?_
  refine g_aload_n (pc := 2589) hC dL_law_2589 rfl ?_
  refine g_callH (pc := 2590) (As := [.ref (E.2.1 0), .int s1, .int s2, .int s3, .ref (E.2.1 92)]) (rest := []) hC (hx_anew_1 l hl9 E s1 s2 s3 σ o σ1 h1) mh_anew lk_L_285 rfl rfl (Nat.le_of_ble_eq_true rfl) ⟨by decide, by decide⟩ hab dL_law_2590 ?_
  refine g_istore (lv2 := [some (.ref bb), some (.ref (E.2.1 0)), some (.ref (E.2.1 55)), some (.ref (E.2.1 92)), some (.int w), some (.int 1), none]) (pc := 2593) hC dL_law_2593 rfl (Or.inr rfl) (by rw [← hN]; decide) ?_
  refine g_aload_n (pc := 2595) hC dL_law_2595 rfl ?_
  refine g_aload_n (pc := 2596) hC dL_law_2596 rfl ?_
  refine g_iload (pc := 2597) hC dL_law_2597 rfl ?_
  refine g_iconst (pc := 2599) hC ki_1 dL_law_2599 ?_
  refine g_iadd (pc := 2600) hC dL_law_2600 ?_
  refine g_sld (pc := 2601) hC hL n1 e1 dL_law_2601 ?_
  refine g_aload_n (pc := 2602) hC dL_law_2602 rfl ?_
  refine g_iload (pc := 2603) hC dL_law_2603 rfl ?_
  refine g_iconst (pc := 2605) hC ki_2 dL_law_2605 ?_
  refine g_iadd (pc := 2606) hC dL_law_2606 ?_
  refine g_sld (pc := 2607) hC hL n2 e2 dL_law_2607 ?_
  refine g_aload_n (pc := 2608) hC dL_law_2608 rfl ?_
  refine g_iload (pc := 2609) hC dL_law_2609 rfl ?_
  refine g_iconst (pc := 2611) hC ki_3 dL_law_2611 ?_
  refine g_iadd (pc := 2612) hC dL_law_2612 ?_
  refine g_sld (pc := 2613) hC hL n3 e3 dL_law_2613 ?_
  refine g_callVi (pc := 2614) (As := [.int s1, .int s2, .int s3]) (rest := []) hC (c_X12_anew l E s1 s2 s3 σ1 r σ2 h2) mi_X12_anew mv_X12_anew ob_55 rfl rfl lk_L_287 rfl rfl (Nat.le_of_ble_eq_true rfl) ⟨by decide, by decide⟩ hab dL_law_2614 ?_
  refine g_istore (lv2 := [some (.ref bb), some (.ref (E.2.1 0)), some (.ref (E.2.1 55)), some (.ref (E.2.1 92)), some (.int w), some (.int 1), some (.int r)]) (pc := 2617) hC dL_law_2617 rfl (Or.inr rfl) (by rw [← hN]; decide) ?_
  refine g_aload_n (pc := 2619) hC dL_law_2619 rfl ?_
  refine g_callVi (pc := 2620) (As := []) (rest := []) hC (c_X12_thrown l E σ2 _ rfl) mi_X12_thrown mv_X12_thrown ob_55 rfl rfl lk_L_144 rfl rfl (Nat.le_of_ble_eq_true rfl) ⟨by decide, by decide⟩ hab dL_law_2620 ?_
  refine g_top h3.symm ?_
  refine g_iload (pc := 2623) hC dL_law_2623 rfl ?_
  refine g_icmp_eq (tgt := 2630) (pc := 2625) hC dL_law_2625 (by decide) (fun _ => ?_) (fun q => absurd rfl q)
  refine g_iload (pc := 2630) hC dL_law_2630 rfl ?_
  refine g_if_ne (tgt := 2647) (pc := 2632) hC dL_law_2632 (by decide) (fun _ => ?_) (fun q => absurd q (by decide))
  refine g_goto (tgt := 2650) (pc := 2647) hC dL_law_2647 (by decide) ?_
  refine g_mask [true, true, true, true, true, false, false] rfl ?_
  exact kk
set_option maxRecDepth 20000 in
theorem law_47_x2 {l : Launch} {E : uE} {K : uK} {a b : Nat} {o : Int64} {σ : uS} {bb L : Nat} {xs : Nat → Int32} (hC : Cx E K RL cL_law (some .boolean) 11 414) (hN : 7 = K.2.2.2.2.2) (hL : Lx E K bb L xs) (w : Int32) (s1 : Int32) (e1 : s1 = xs (w + 1).toNatClampNeg) (n1 : vp_in (w + 1) L) (s2 : Int32) (e2 : s2 = xs (w + 2).toNatClampNeg) (n2 : vp_in (w + 2) L) (s3 : Int32) (e3 : s3 = xs (w + 3).toNatClampNeg) (n3 : vp_in (w + 3) L) (hl9 : l.stackTraces = false) (r : Int32) (σ1 σ2 : uS) (h1 : F_X11_anew s1 s2 s3 σ = some (.inr 2, σ1)) (h2 : F_X12_anew s1 s2 s3 σ1 = some (r, σ2)) (h3 : σ2 55 9 = 2) (hab : Rm K (a + 1) (b + 6)) (kk : Gd l E K (a + 1) (b + 6) o σ2 2650 [some (.ref bb), some (.ref (E.2.1 0)), some (.ref (E.2.1 55)), some (.ref (E.2.1 92)), some (.int w), none, none] []) : Gd l E K a b o σ 2570 [some (.ref bb), some (.ref (E.2.1 0)), some (.ref (E.2.1 55)), some (.ref (E.2.1 92)), some (.int w), none, none] [] := by
  refine g_aload_n (pc := 2570) hC dL_law_2570 rfl ?_
  refine g_aload_n (pc := 2571) hC dL_law_2571 rfl ?_
  refine g_iload (pc := 2572) hC dL_law_2572 rfl ?_
  refine g_iconst (pc := 2574) hC ki_1 dL_law_2574 ?_
  refine g_iadd (pc := 2575) hC dL_law_2575 ?_
  refine g_sld (pc := 2576) hC hL n1 e1 dL_law_2576 ?_
  refine g_aload_n (pc := 2577) hC dL_law_2577 rfl ?_
  refine g_iload (pc := 2578) hC dL_law_2578 rfl ?_
  refine g_iconst (pc := 2580) hC ki_2 dL_law_2580 ?_
  refine g_iadd (pc := 2581) hC dL_law_2581 ?_
  refine g_sld (pc := 2582) hC hL n2 e2 dL_law_2582 ?_
  refine g_aload_n (pc := 2583) hC dL_law_2583 rfl ?_
  refine g_iload (pc := 2584) hC dL_law_2584 rfl ?_
  refine g_iconst (pc := 2586) hC ki_3 dL_law_2586 ?_
  refine g_iadd (pc := 2587) hC dL_law_2587 ?_
  refine g_sld (pc := 2588) hC hL n3 e3 dL_law_2588 ?_
  refine g_aload_n (pc := 2589) hC dL_law_2589 rfl ?_
  refine g_callH (pc := 2590) (As := [.ref (E.2.1 0), .int s1, .int s2, .int s3, .ref (E.2.1 92)]) (rest := []) hC (hx_anew_2 l hl9 E s1 s2 s3 σ o σ1 h1) mh_anew lk_L_285 rfl rfl (Nat.le_of_ble_eq_true rfl) ⟨by decide, by decide⟩ hab dL_law_2590 ?_
  refine g_istore (lv2 := [some (.ref bb), some (.ref (E.2.1 0)), some (.ref (E.2.1 55)), some (.ref (E.2.1 92)), some (.int w), some (.int 2), none]) (pc := 2593) hC dL_law_2593 rfl (Or.inr rfl) (by rw [← hN]; decide) ?_
  refine g_aload_n (pc := 2595) hC dL_law_2595 rfl ?_
  refine g_aload_n (pc := 2596) hC dL_law_2596 rfl ?_
  refine g_iload (pc := 2597) hC dL_law_2597 rfl ?_
  refine g_iconst (pc := 2599) hC ki_1 dL_law_2599 ?_
  refine g_iadd (pc := 2600) hC dL_law_2600 ?_
  refine g_sld (pc := 2601) hC hL n1 e1 dL_law_2601 ?_
  refine g_aload_n (pc := 2602) hC dL_law_2602 rfl ?_
  refine g_iload (pc := 2603) hC dL_law_2603 rfl ?_
  refine g_iconst (pc := 2605) hC ki_2 dL_law_2605 ?_
  refine g_iadd (pc := 2606) hC dL_law_2606 ?_
  refine g_sld (pc := 2607) hC hL n2 e2 dL_law_2607 ?_
  refine g_aload_n (pc := 2608) hC dL_law_2608 rfl ?_
  refine g_iload (pc := 2609) hC dL_law_2609 rfl ?_
  refine g_iconst (pc := 2611) hC ki_3 dL_law_2611 ?_
  refine g_iadd (pc := 2612) hC dL_law_2612 ?_
  refine g_sld (pc := 2613) hC hL n3 e3 dL_law_2613 ?_
  refine g_callVi (pc := 2614) (As := [.int s1, .int s2, .int s3]) (rest := []) hC (c_X12_anew l E s1 s2 s3 σ1 r σ2 h2) mi_X12_anew mv_X12_anew ob_55 rfl rfl lk_L_287 rfl rfl (Nat.le_of_ble_eq_true rfl) ⟨by decide, by decide⟩ hab dL_law_2614 ?_
  refine g_istore (lv2 := [some (.ref bb), some (.ref (E.2.1 0)), some (.ref (E.2.1 55)), some (.ref (E.2.1 92)), some (.int w), some (.int 2), some (.int r)]) (pc := 2617) hC dL_law_2617 rfl (Or.inr rfl) (by rw [← hN]; decide) ?_
  refine g_aload_n (pc := 2619) hC dL_law_2619 rfl ?_
  refine g_callVi (pc := 2620) (As := []) (rest := []) hC (c_X12_thrown l E σ2 _ rfl) mi_X12_thrown mv_X12_thrown ob_55 rfl rfl lk_L_144 rfl rfl (Nat.le_of_ble_eq_true rfl) ⟨by decide, by decide⟩ hab dL_law_2620 ?_
  refine g_top h3.symm ?_
  refine g_iload (pc := 2623) hC dL_law_2623 rfl ?_
  refine g_icmp_eq (tgt := 2630) (pc := 2625) hC dL_law_2625 (by decide) (fun _ => ?_) (fun q => absurd rfl q)
  refine g_iload (pc := 2630) hC dL_law_2630 rfl ?_
  refine g_if_ne (tgt := 2647) (pc := 2632) hC dL_law_2632 (by decide) (fun _ => ?_) (fun q => absurd q (by decide))
  refine g_goto (tgt := 2650) (pc := 2647) hC dL_law_2647 (by decide) ?_
  refine g_mask [true, true, true, true, true, false, false] rfl ?_
  exact kk
