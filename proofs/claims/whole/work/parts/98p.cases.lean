/-! the law's cases, one by one -/
set_option maxHeartbeats 4000000 in
set_option maxRecDepth 20000 in
theorem ca_prop {G : aG} {nx : Nat} {h : Nat → Option aC} {L : Nat} {xs : Nat → Int32} {x a o i j k n : Nat} (hL : L ≤ 2560) (hi : i + 5 ≤ L) (hj : j + 1 ≤ 512) (hls : LSt h x a o j k n) (kk : ∀ (nx : Nat) (h : Nat → Option aC) (k n : Nat), LSt h x a o (j + 1) k n → AW G m_Law_law 10 61024 8913034 (FLw G L xs) 1270 [(0, .ref 1), (1, .ref x), (2, .ref a), (3, .ref o), (4, .int (nI i))] [] (nx, h) k n) : AW G m_Law_law 10 61024 8913034 (FLw G L xs) 184 [(0, .ref 1), (1, .ref x), (2, .ref a), (3, .ref o), (4, .int (nI i))] [] (nx, h) k n := by
  obtain ⟨B, hs, ad, A, most, fl, L9, L29, ar, n9, gs, lg, xs9, cap, Am, sc, arm, fo, hc, hm, hq, hv, hlg, ho, hkb⟩ := hls
  have hb := hkb.c 2 68 (by decide) (by decide)
  have hr := hb.le hj
  have hv9 := vv_P hv (xs (i + 1)) (xs (i + 2))
  refine aw_aload_n (i := 1) d_Law_law_184 rfl rfl ?_
  refine aw_aload_n (i := 0) d_Law_law_185 rfl rfl ?_
  refine aw_iload d_Law_law_186 rfl ?_
  refine aw_iconst (v := nI 1) d_Law_law_188 (by decide) ?_
  refine aw_iaddN d_Law_law_189 ?_
  refine aw_sld d_Law_law_190 (by omega) hL ?_
  refine aw_aload_n (i := 0) d_Law_law_191 rfl rfl ?_
  refine aw_iload d_Law_law_192 rfl ?_
  refine aw_iconst (v := nI 2) d_Law_law_194 (by decide) ?_
  refine aw_iaddN d_Law_law_195 ?_
  refine aw_sld d_Law_law_196 (by omega) hL ?_
  apply aw_callv d_Law_law_197 cl_Law_27 (c_LH_prop hc hv.1 hv.2.2.1 (xs (i + 1)) (xs (i + 2))); exact hc.1.1; rfl; rfl; rfl; rfl; decide; exact hr.1; exact hr.2; exact Nat.le_of_ble_eq_true rfl
  rintro _ _ ⟨rfl, n2, h, ad, A, fl, L9, L29, ar, n9, rfl, hc, FR⟩
  have hm := hm.frC FR (fun y h1 h2 => cts_far h1 (by omega))
  have ho := FR _ _ ho (cts_far (y := 120) (by decide) (by decide))
  refine aw_aload_n (i := 2) d_Law_law_200 rfl rfl ?_
  refine aw_aload_n (i := 0) d_Law_law_201 rfl rfl ?_
  refine aw_iload d_Law_law_202 rfl ?_
  refine aw_iconst (v := nI 1) d_Law_law_204 (by decide) ?_
  refine aw_iaddN d_Law_law_205 ?_
  refine aw_sld d_Law_law_206 (by omega) hL ?_
  refine aw_aload_n (i := 0) d_Law_law_207 rfl rfl ?_
  refine aw_iload d_Law_law_208 rfl ?_
  refine aw_iconst (v := nI 2) d_Law_law_210 (by decide) ?_
  refine aw_iaddN d_Law_law_211 ?_
  refine aw_sld d_Law_law_212 (by omega) hL ?_
  apply aw_callv d_Law_law_213 cl_Law_30 (c_Mod_prop ⟨hm, Fr.rf⟩ hq hv.1 (xs (i + 1)) (xs (i + 2))); exact hm.1; rfl; rfl; rfl; rfl; decide; exact hr.1; exact hr.2; exact Nat.le_of_ble_eq_true rfl
  rintro _ _ ⟨h, sc, arm, rfl, ⟨hm, FM⟩, rfl, _, hq⟩
  have hc := hc.frM hv9.1 FM mt_far
  have ho := FM _ _ ho mt_120
  refine aw_icmp_eq d_Law_law_216 (fun _ => ?_) (fun br_ => absurd rfl br_)
  exact kk _ _ _ _ ⟨B, _, ad, A, _, fl, L9, L29, ar, n9, _, _, _, _, Am, sc, arm, fo, hc, hm, hq, hv9, Nat.le_succ_of_le hlg, ho, hb⟩
set_option maxHeartbeats 4000000 in
set_option maxRecDepth 20000 in
theorem ca_step {G : aG} {nx : Nat} {h : Nat → Option aC} {L : Nat} {xs : Nat → Int32} {x a o i j k n : Nat} (hL : L ≤ 2560) (hi : i + 5 ≤ L) (hj : j + 1 ≤ 512) (hls : LSt h x a o j k n) (kk : ∀ (nx : Nat) (h : Nat → Option aC) (k n : Nat), LSt h x a o (j + 1) k n → AW G m_Law_law 10 61024 8913034 (FLw G L xs) 1270 [(0, .ref 1), (1, .ref x), (2, .ref a), (3, .ref o), (4, .int (nI i))] [] (nx, h) k n) : AW G m_Law_law 10 61024 8913034 (FLw G L xs) 221 [(0, .ref 1), (1, .ref x), (2, .ref a), (3, .ref o), (4, .int (nI i))] [] (nx, h) k n := by
  obtain ⟨B, hs, ad, A, most, fl, L9, L29, ar, n9, gs, lg, xs9, cap, Am, sc, arm, fo, hc, hm, hq, hv, hlg, ho, hkb⟩ := hls
  have hb := hkb.c 8 87 (by decide) (by decide)
  have hr := hb.le hj
  have hv9 := vv_S hv (xs (i + 1)) (xs (i + 2)) (xs (i + 3)) (xs (i + 4))
  refine aw_aload_n (i := 1) d_Law_law_221 rfl rfl ?_
  refine aw_aload_n (i := 0) d_Law_law_222 rfl rfl ?_
  refine aw_iload d_Law_law_223 rfl ?_
  refine aw_iconst (v := nI 1) d_Law_law_225 (by decide) ?_
  refine aw_iaddN d_Law_law_226 ?_
  refine aw_sld d_Law_law_227 (by omega) hL ?_
  refine aw_aload_n (i := 0) d_Law_law_228 rfl rfl ?_
  refine aw_iload d_Law_law_229 rfl ?_
  refine aw_iconst (v := nI 2) d_Law_law_231 (by decide) ?_
  refine aw_iaddN d_Law_law_232 ?_
  refine aw_sld d_Law_law_233 (by omega) hL ?_
  refine aw_aload_n (i := 0) d_Law_law_234 rfl rfl ?_
  refine aw_iload d_Law_law_235 rfl ?_
  refine aw_iconst (v := nI 3) d_Law_law_237 (by decide) ?_
  refine aw_iaddN d_Law_law_238 ?_
  refine aw_sld d_Law_law_239 (by omega) hL ?_
  refine aw_aload_n (i := 0) d_Law_law_240 rfl rfl ?_
  refine aw_iload d_Law_law_241 rfl ?_
  refine aw_iconst (v := nI 4) d_Law_law_243 (by decide) ?_
  refine aw_iaddN d_Law_law_244 ?_
  refine aw_sld d_Law_law_245 (by omega) hL ?_
  apply aw_callv d_Law_law_246 cl_Law_31 (c_LH_step hc hv.1 hv.2.2.1 (xs (i + 1)) (xs (i + 2)) (xs (i + 3)) (xs (i + 4))); exact hc.1.1; rfl; rfl; rfl; rfl; decide; exact hr.1; exact hr.2; exact Nat.le_of_ble_eq_true rfl
  rintro _ _ ⟨rfl, n2, h, ad, A, fl, L9, L29, ar, n9, rfl, hc, FR⟩
  have hm := hm.frC FR (fun y h1 h2 => cts_far h1 (by omega))
  have ho := FR _ _ ho (cts_far (y := 120) (by decide) (by decide))
  refine aw_aload_n (i := 2) d_Law_law_249 rfl rfl ?_
  refine aw_aload_n (i := 0) d_Law_law_250 rfl rfl ?_
  refine aw_iload d_Law_law_251 rfl ?_
  refine aw_iconst (v := nI 1) d_Law_law_253 (by decide) ?_
  refine aw_iaddN d_Law_law_254 ?_
  refine aw_sld d_Law_law_255 (by omega) hL ?_
  refine aw_aload_n (i := 0) d_Law_law_256 rfl rfl ?_
  refine aw_iload d_Law_law_257 rfl ?_
  refine aw_iconst (v := nI 2) d_Law_law_259 (by decide) ?_
  refine aw_iaddN d_Law_law_260 ?_
  refine aw_sld d_Law_law_261 (by omega) hL ?_
  refine aw_aload_n (i := 0) d_Law_law_262 rfl rfl ?_
  refine aw_iload d_Law_law_263 rfl ?_
  refine aw_iconst (v := nI 3) d_Law_law_265 (by decide) ?_
  refine aw_iaddN d_Law_law_266 ?_
  refine aw_sld d_Law_law_267 (by omega) hL ?_
  refine aw_aload_n (i := 0) d_Law_law_268 rfl rfl ?_
  refine aw_iload d_Law_law_269 rfl ?_
  refine aw_iconst (v := nI 4) d_Law_law_271 (by decide) ?_
  refine aw_iaddN d_Law_law_272 ?_
  refine aw_sld d_Law_law_273 (by omega) hL ?_
  apply aw_callv d_Law_law_274 cl_Law_35 (c_Mod_step ⟨hm, Fr.rf⟩ hq hv.1 (xs (i + 1)) (xs (i + 2)) (xs (i + 3)) (xs (i + 4))); exact hm.1; rfl; rfl; rfl; rfl; decide; exact hr.1; exact hr.2; exact Nat.le_of_ble_eq_true rfl
  rintro _ _ ⟨h, sc, arm, rfl, ⟨hm, FM⟩, rfl, _, hq⟩
  have hc := hc.frM hv9.1 FM mt_far
  have ho := FM _ _ ho mt_120
  refine aw_icmp_eq d_Law_law_277 (fun _ => ?_) (fun br_ => absurd rfl br_)
  exact kk _ _ _ _ ⟨B, _, ad, A, _, fl, L9, L29, ar, n9, _, _, _, _, Am, sc, arm, fo, hc, hm, hq, hv9, Nat.le_succ_of_le hlg, ho, hb⟩
set_option maxHeartbeats 4000000 in
set_option maxRecDepth 20000 in
theorem ca_need {G : aG} {nx : Nat} {h : Nat → Option aC} {L : Nat} {xs : Nat → Int32} {x a o i j k n : Nat} (hL : L ≤ 2560) (hi : i + 5 ≤ L) (hj : j + 1 ≤ 512) (hls : LSt h x a o j k n) (kk : ∀ (nx : Nat) (h : Nat → Option aC) (k n : Nat), LSt h x a o (j + 1) k n → AW G m_Law_law 10 61024 8913034 (FLw G L xs) 1270 [(0, .ref 1), (1, .ref x), (2, .ref a), (3, .ref o), (4, .int (nI i))] [] (nx, h) k n) : AW G m_Law_law 10 61024 8913034 (FLw G L xs) 282 [(0, .ref 1), (1, .ref x), (2, .ref a), (3, .ref o), (4, .int (nI i))] [] (nx, h) k n := by
  obtain ⟨B, hs, ad, A, most, fl, L9, L29, ar, n9, gs, lg, xs9, cap, Am, sc, arm, fo, hc, hm, hq, hv, hlg, ho, hkb⟩ := hls
  have hb := hkb.c 2 62 (by decide) (by decide)
  have hr := hb.le hj
  have hv9 := vv_N hv (xs (i + 1)) (xs (i + 2)) (xs (i + 3))
  refine aw_aload_n (i := 1) d_Law_law_282 rfl rfl ?_
  refine aw_aload_n (i := 0) d_Law_law_283 rfl rfl ?_
  refine aw_iload d_Law_law_284 rfl ?_
  refine aw_iconst (v := nI 1) d_Law_law_286 (by decide) ?_
  refine aw_iaddN d_Law_law_287 ?_
  refine aw_sld d_Law_law_288 (by omega) hL ?_
  refine aw_aload_n (i := 0) d_Law_law_289 rfl rfl ?_
  refine aw_iload d_Law_law_290 rfl ?_
  refine aw_iconst (v := nI 2) d_Law_law_292 (by decide) ?_
  refine aw_iaddN d_Law_law_293 ?_
  refine aw_sld d_Law_law_294 (by omega) hL ?_
  refine aw_aload_n (i := 0) d_Law_law_295 rfl rfl ?_
  refine aw_iload d_Law_law_296 rfl ?_
  refine aw_iconst (v := nI 3) d_Law_law_298 (by decide) ?_
  refine aw_iaddN d_Law_law_299 ?_
  refine aw_sld d_Law_law_300 (by omega) hL ?_
  apply aw_callv d_Law_law_301 cl_Law_36 (c_LH_need hc hv.1 hv.2.2.1 (xs (i + 1)) (xs (i + 2)) (xs (i + 3))); exact hc.1.1; rfl; rfl; rfl; rfl; decide; exact hr.1; exact hr.2; exact Nat.le_of_ble_eq_true rfl
  rintro _ _ ⟨rfl, n2, h, ad, A, fl, L9, L29, ar, n9, rfl, hc, FR⟩
  have hm := hm.frC FR (fun y h1 h2 => cts_far h1 (by omega))
  have ho := FR _ _ ho (cts_far (y := 120) (by decide) (by decide))
  refine aw_aload_n (i := 2) d_Law_law_304 rfl rfl ?_
  refine aw_aload_n (i := 0) d_Law_law_305 rfl rfl ?_
  refine aw_iload d_Law_law_306 rfl ?_
  refine aw_iconst (v := nI 1) d_Law_law_308 (by decide) ?_
  refine aw_iaddN d_Law_law_309 ?_
  refine aw_sld d_Law_law_310 (by omega) hL ?_
  refine aw_aload_n (i := 0) d_Law_law_311 rfl rfl ?_
  refine aw_iload d_Law_law_312 rfl ?_
  refine aw_iconst (v := nI 2) d_Law_law_314 (by decide) ?_
  refine aw_iaddN d_Law_law_315 ?_
  refine aw_sld d_Law_law_316 (by omega) hL ?_
  refine aw_aload_n (i := 0) d_Law_law_317 rfl rfl ?_
  refine aw_iload d_Law_law_318 rfl ?_
  refine aw_iconst (v := nI 3) d_Law_law_320 (by decide) ?_
  refine aw_iaddN d_Law_law_321 ?_
  refine aw_sld d_Law_law_322 (by omega) hL ?_
  apply aw_callv d_Law_law_323 cl_Law_40 (c_Mod_need ⟨hm, Fr.rf⟩ hq hv.1 (xs (i + 1)) (xs (i + 2)) (xs (i + 3))); exact hm.1; rfl; rfl; rfl; rfl; decide; exact hr.1; exact hr.2; exact Nat.le_of_ble_eq_true rfl
  rintro _ _ ⟨h, sc, arm, rfl, ⟨hm, FM⟩, rfl, _, hq⟩
  have hc := hc.frM hv9.1 FM mt_far
  have ho := FM _ _ ho mt_120
  refine aw_icmp_eq d_Law_law_326 (fun _ => ?_) (fun br_ => absurd rfl br_)
  exact kk _ _ _ _ ⟨B, _, ad, A, _, fl, L9, L29, ar, n9, _, _, _, _, Am, sc, arm, fo, hc, hm, hq, hv9, Nat.le_succ_of_le hlg, ho, hb⟩
set_option maxHeartbeats 4000000 in
set_option maxRecDepth 20000 in
theorem ca_give {G : aG} {nx : Nat} {h : Nat → Option aC} {L : Nat} {xs : Nat → Int32} {x a o i j k n : Nat} (hL : L ≤ 2560) (hi : i + 5 ≤ L) (hj : j + 1 ≤ 512) (hls : LSt h x a o j k n) (kk : ∀ (nx : Nat) (h : Nat → Option aC) (k n : Nat), LSt h x a o (j + 1) k n → AW G m_Law_law 10 61024 8913034 (FLw G L xs) 1270 [(0, .ref 1), (1, .ref x), (2, .ref a), (3, .ref o), (4, .int (nI i))] [] (nx, h) k n) : AW G m_Law_law 10 61024 8913034 (FLw G L xs) 331 [(0, .ref 1), (1, .ref x), (2, .ref a), (3, .ref o), (4, .int (nI i))] [] (nx, h) k n := by
  obtain ⟨B, hs, ad, A, most, fl, L9, L29, ar, n9, gs, lg, xs9, cap, Am, sc, arm, fo, hc, hm, hq, hv, hlg, ho, hkb⟩ := hls
  have hb := hkb.c 2 62 (by decide) (by decide)
  have hr := hb.le hj
  have hv9 := vv_V hv (xs (i + 1)) (xs (i + 2)) (xs (i + 3))
  refine aw_aload_n (i := 1) d_Law_law_331 rfl rfl ?_
  refine aw_aload_n (i := 0) d_Law_law_332 rfl rfl ?_
  refine aw_iload d_Law_law_333 rfl ?_
  refine aw_iconst (v := nI 1) d_Law_law_335 (by decide) ?_
  refine aw_iaddN d_Law_law_336 ?_
  refine aw_sld d_Law_law_337 (by omega) hL ?_
  refine aw_aload_n (i := 0) d_Law_law_338 rfl rfl ?_
  refine aw_iload d_Law_law_339 rfl ?_
  refine aw_iconst (v := nI 2) d_Law_law_341 (by decide) ?_
  refine aw_iaddN d_Law_law_342 ?_
  refine aw_sld d_Law_law_343 (by omega) hL ?_
  refine aw_aload_n (i := 0) d_Law_law_344 rfl rfl ?_
  refine aw_iload d_Law_law_345 rfl ?_
  refine aw_iconst (v := nI 3) d_Law_law_347 (by decide) ?_
  refine aw_iaddN d_Law_law_348 ?_
  refine aw_sld d_Law_law_349 (by omega) hL ?_
  apply aw_callv d_Law_law_350 cl_Law_41 (c_LH_give hc hv.1 hv.2.2.1 (xs (i + 1)) (xs (i + 2)) (xs (i + 3))); exact hc.1.1; rfl; rfl; rfl; rfl; decide; exact hr.1; exact hr.2; exact Nat.le_of_ble_eq_true rfl
  rintro _ _ ⟨rfl, n2, h, ad, A, fl, L9, L29, ar, n9, rfl, hc, FR⟩
  have hm := hm.frC FR (fun y h1 h2 => cts_far h1 (by omega))
  have ho := FR _ _ ho (cts_far (y := 120) (by decide) (by decide))
  refine aw_aload_n (i := 2) d_Law_law_353 rfl rfl ?_
  refine aw_aload_n (i := 0) d_Law_law_354 rfl rfl ?_
  refine aw_iload d_Law_law_355 rfl ?_
  refine aw_iconst (v := nI 1) d_Law_law_357 (by decide) ?_
  refine aw_iaddN d_Law_law_358 ?_
  refine aw_sld d_Law_law_359 (by omega) hL ?_
  refine aw_aload_n (i := 0) d_Law_law_360 rfl rfl ?_
  refine aw_iload d_Law_law_361 rfl ?_
  refine aw_iconst (v := nI 2) d_Law_law_363 (by decide) ?_
  refine aw_iaddN d_Law_law_364 ?_
  refine aw_sld d_Law_law_365 (by omega) hL ?_
  refine aw_aload_n (i := 0) d_Law_law_366 rfl rfl ?_
  refine aw_iload d_Law_law_367 rfl ?_
  refine aw_iconst (v := nI 3) d_Law_law_369 (by decide) ?_
  refine aw_iaddN d_Law_law_370 ?_
  refine aw_sld d_Law_law_371 (by omega) hL ?_
  apply aw_callv d_Law_law_372 cl_Law_44 (c_Mod_give ⟨hm, Fr.rf⟩ hq hv.1 (xs (i + 1)) (xs (i + 2)) (xs (i + 3))); exact hm.1; rfl; rfl; rfl; rfl; decide; exact hr.1; exact hr.2; exact Nat.le_of_ble_eq_true rfl
  rintro _ _ ⟨h, sc, arm, rfl, ⟨hm, FM⟩, rfl, _, hq⟩
  have hc := hc.frM hv9.1 FM mt_far
  have ho := FM _ _ ho mt_120
  refine aw_icmp_eq d_Law_law_375 (fun _ => ?_) (fun br_ => absurd rfl br_)
  exact kk _ _ _ _ ⟨B, _, ad, A, _, fl, L9, L29, ar, n9, _, _, _, _, Am, sc, arm, fo, hc, hm, hq, hv9, Nat.le_succ_of_le hlg, ho, hb⟩
set_option maxHeartbeats 4000000 in
set_option maxRecDepth 20000 in
theorem ca_goal {G : aG} {nx : Nat} {h : Nat → Option aC} {L : Nat} {xs : Nat → Int32} {x a o i j k n : Nat} (hL : L ≤ 2560) (hi : i + 5 ≤ L) (hj : j + 1 ≤ 512) (hls : LSt h x a o j k n) (kk : ∀ (nx : Nat) (h : Nat → Option aC) (k n : Nat), LSt h x a o (j + 1) k n → AW G m_Law_law 10 61024 8913034 (FLw G L xs) 1270 [(0, .ref 1), (1, .ref x), (2, .ref a), (3, .ref o), (4, .int (nI i))] [] (nx, h) k n) : AW G m_Law_law 10 61024 8913034 (FLw G L xs) 380 [(0, .ref 1), (1, .ref x), (2, .ref a), (3, .ref o), (4, .int (nI i))] [] (nx, h) k n := by
  obtain ⟨B, hs, ad, A, most, fl, L9, L29, ar, n9, gs, lg, xs9, cap, Am, sc, arm, fo, hc, hm, hq, hv, hlg, ho, hkb⟩ := hls
  have hb := hkb.c 2 62 (by decide) (by decide)
  have hr := hb.le hj
  have hv9 := vv_G hv (xs (i + 1)) (xs (i + 2))
  refine aw_aload_n (i := 1) d_Law_law_380 rfl rfl ?_
  refine aw_aload_n (i := 0) d_Law_law_381 rfl rfl ?_
  refine aw_iload d_Law_law_382 rfl ?_
  refine aw_iconst (v := nI 1) d_Law_law_384 (by decide) ?_
  refine aw_iaddN d_Law_law_385 ?_
  refine aw_sld d_Law_law_386 (by omega) hL ?_
  refine aw_aload_n (i := 0) d_Law_law_387 rfl rfl ?_
  refine aw_iload d_Law_law_388 rfl ?_
  refine aw_iconst (v := nI 2) d_Law_law_390 (by decide) ?_
  refine aw_iaddN d_Law_law_391 ?_
  refine aw_sld d_Law_law_392 (by omega) hL ?_
  apply aw_callv d_Law_law_393 cl_Law_45 (c_LH_goal hc hv.1 hv.2.2.1 (xs (i + 1)) (xs (i + 2))); exact hc.1.1; rfl; rfl; rfl; rfl; decide; exact hr.1; exact hr.2; exact Nat.le_of_ble_eq_true rfl
  rintro _ _ ⟨rfl, n2, h, ad, A, fl, L9, L29, ar, n9, rfl, hc, FR⟩
  have hm := hm.frC FR (fun y h1 h2 => cts_far h1 (by omega))
  have ho := FR _ _ ho (cts_far (y := 120) (by decide) (by decide))
  refine aw_aload_n (i := 2) d_Law_law_396 rfl rfl ?_
  refine aw_aload_n (i := 0) d_Law_law_397 rfl rfl ?_
  refine aw_iload d_Law_law_398 rfl ?_
  refine aw_iconst (v := nI 1) d_Law_law_400 (by decide) ?_
  refine aw_iaddN d_Law_law_401 ?_
  refine aw_sld d_Law_law_402 (by omega) hL ?_
  refine aw_aload_n (i := 0) d_Law_law_403 rfl rfl ?_
  refine aw_iload d_Law_law_404 rfl ?_
  refine aw_iconst (v := nI 2) d_Law_law_406 (by decide) ?_
  refine aw_iaddN d_Law_law_407 ?_
  refine aw_sld d_Law_law_408 (by omega) hL ?_
  apply aw_callv d_Law_law_409 cl_Law_49 (c_Mod_goal ⟨hm, Fr.rf⟩ hq hv.1 (xs (i + 1)) (xs (i + 2))); exact hm.1; rfl; rfl; rfl; rfl; decide; exact hr.1; exact hr.2; exact Nat.le_of_ble_eq_true rfl
  rintro _ _ ⟨h, sc, arm, rfl, ⟨hm, FM⟩, rfl, _, hq⟩
  have hc := hc.frM hv9.1 FM mt_far
  have ho := FM _ _ ho mt_120
  refine aw_icmp_eq d_Law_law_412 (fun _ => ?_) (fun br_ => absurd rfl br_)
  exact kk _ _ _ _ ⟨B, _, ad, A, _, fl, L9, L29, ar, n9, _, _, _, _, Am, sc, arm, fo, hc, hm, hq, hv9, Nat.le_succ_of_le hlg, ho, hb⟩
set_option maxHeartbeats 4000000 in
set_option maxRecDepth 20000 in
theorem ca_hands {G : aG} {nx : Nat} {h : Nat → Option aC} {L : Nat} {xs : Nat → Int32} {x a o i j k n : Nat} (hL : L ≤ 2560) (hi : i + 5 ≤ L) (hj : j + 1 ≤ 512) (hls : LSt h x a o j k n) (kk : ∀ (nx : Nat) (h : Nat → Option aC) (k n : Nat), LSt h x a o (j + 1) k n → AW G m_Law_law 10 61024 8913034 (FLw G L xs) 1270 [(0, .ref 1), (1, .ref x), (2, .ref a), (3, .ref o), (4, .int (nI i))] [] (nx, h) k n) : AW G m_Law_law 10 61024 8913034 (FLw G L xs) 417 [(0, .ref 1), (1, .ref x), (2, .ref a), (3, .ref o), (4, .int (nI i))] [] (nx, h) k n := by
  obtain ⟨B, hs, ad, A, most, fl, L9, L29, ar, n9, gs, lg, xs9, cap, Am, sc, arm, fo, hc, hm, hq, hv, hlg, ho, hkb⟩ := hls
  have hb := hkb.c 0 0 (by decide) (by decide)
  have hr := hb.le hj
  have hv9 := vv_H hv (xs (i + 1))
  refine aw_aload_n (i := 1) d_Law_law_417 rfl rfl ?_
  refine aw_aload_n (i := 0) d_Law_law_418 rfl rfl ?_
  refine aw_iload d_Law_law_419 rfl ?_
  refine aw_iconst (v := nI 1) d_Law_law_421 (by decide) ?_
  refine aw_iaddN d_Law_law_422 ?_
  refine aw_sld d_Law_law_423 (by omega) hL ?_
  apply aw_callv d_Law_law_424 cl_Law_50 (c_LH_hands hc hv.1 hv.2.2.1 (xs (i + 1))); exact hc.1.1; rfl; rfl; rfl; rfl; decide; exact hr.1; exact hr.2; exact Nat.le_of_ble_eq_true rfl
  rintro _ _ ⟨rfl, n2, h, ad, A, fl, L9, L29, ar, n9, rfl, hc, FR⟩
  have hm := hm.frC FR (fun y h1 h2 => cts_far h1 (by omega))
  have ho := FR _ _ ho (cts_far (y := 120) (by decide) (by decide))
  refine aw_aload_n (i := 2) d_Law_law_427 rfl rfl ?_
  refine aw_aload_n (i := 0) d_Law_law_428 rfl rfl ?_
  refine aw_iload d_Law_law_429 rfl ?_
  refine aw_iconst (v := nI 1) d_Law_law_431 (by decide) ?_
  refine aw_iaddN d_Law_law_432 ?_
  refine aw_sld d_Law_law_433 (by omega) hL ?_
  apply aw_callv d_Law_law_434 cl_Law_54 (c_Mod_hands ⟨hm, Fr.rf⟩ hq hv.1 (xs (i + 1))); exact hm.1; rfl; rfl; rfl; rfl; decide; exact hr.1; exact hr.2; exact Nat.le_of_ble_eq_true rfl
  rintro _ _ ⟨h, sc, arm, rfl, ⟨hm, FM⟩, rfl, _, hq⟩
  have hc := hc.frM hv9.1 FM mt_far
  have ho := FM _ _ ho mt_120
  refine aw_icmp_eq d_Law_law_437 (fun _ => ?_) (fun br_ => absurd rfl br_)
  exact kk _ _ _ _ ⟨B, _, ad, A, _, fl, L9, L29, ar, n9, _, _, _, _, Am, sc, arm, fo, hc, hm, hq, hv9, Nat.le_succ_of_le hlg, ho, hb⟩
set_option maxHeartbeats 4000000 in
set_option maxRecDepth 20000 in
theorem ca_rule {G : aG} {nx : Nat} {h : Nat → Option aC} {L : Nat} {xs : Nat → Int32} {x a o i j k n : Nat} (hL : L ≤ 2560) (hi : i + 5 ≤ L) (hj : j + 1 ≤ 512) (hls : LSt h x a o j k n) (kk : ∀ (nx : Nat) (h : Nat → Option aC) (k n : Nat), LSt h x a o (j + 1) k n → AW G m_Law_law 10 61024 8913034 (FLw G L xs) 1270 [(0, .ref 1), (1, .ref x), (2, .ref a), (3, .ref o), (4, .int (nI i))] [] (nx, h) k n) : AW G m_Law_law 10 61024 8913034 (FLw G L xs) 442 [(0, .ref 1), (1, .ref x), (2, .ref a), (3, .ref o), (4, .int (nI i))] [] (nx, h) k n := by
  obtain ⟨B, hs, ad, A, most, fl, L9, L29, ar, n9, gs, lg, xs9, cap, Am, sc, arm, fo, hc, hm, hq, hv, hlg, ho, hkb⟩ := hls
  have hb := hkb.c 0 0 (by decide) (by decide)
  have hr := hb.le hj
  have hv9 := vv_R hv (xs (i + 1)) (xs (i + 2)) (xs (i + 3))
  refine aw_aload_n (i := 1) d_Law_law_442 rfl rfl ?_
  refine aw_aload_n (i := 0) d_Law_law_443 rfl rfl ?_
  refine aw_iload d_Law_law_444 rfl ?_
  refine aw_iconst (v := nI 1) d_Law_law_446 (by decide) ?_
  refine aw_iaddN d_Law_law_447 ?_
  refine aw_sld d_Law_law_448 (by omega) hL ?_
  refine aw_aload_n (i := 0) d_Law_law_449 rfl rfl ?_
  refine aw_iload d_Law_law_450 rfl ?_
  refine aw_iconst (v := nI 2) d_Law_law_452 (by decide) ?_
  refine aw_iaddN d_Law_law_453 ?_
  refine aw_sld d_Law_law_454 (by omega) hL ?_
  refine aw_aload_n (i := 0) d_Law_law_455 rfl rfl ?_
  refine aw_iload d_Law_law_456 rfl ?_
  refine aw_iconst (v := nI 3) d_Law_law_458 (by decide) ?_
  refine aw_iaddN d_Law_law_459 ?_
  refine aw_sld d_Law_law_460 (by omega) hL ?_
  apply aw_callv d_Law_law_461 cl_Law_55 (c_LH_rule hc hv.1 hv.2.2.1 (xs (i + 1)) (xs (i + 2)) (xs (i + 3))); exact hc.1.1; rfl; rfl; rfl; rfl; decide; exact hr.1; exact hr.2; exact Nat.le_of_ble_eq_true rfl
  rintro _ _ ⟨rfl, n2, h, ad, A, fl, L9, L29, ar, n9, rfl, hc, FR⟩
  have hm := hm.frC FR (fun y h1 h2 => cts_far h1 (by omega))
  have ho := FR _ _ ho (cts_far (y := 120) (by decide) (by decide))
  refine aw_aload_n (i := 2) d_Law_law_464 rfl rfl ?_
  refine aw_aload_n (i := 0) d_Law_law_465 rfl rfl ?_
  refine aw_iload d_Law_law_466 rfl ?_
  refine aw_iconst (v := nI 1) d_Law_law_468 (by decide) ?_
  refine aw_iaddN d_Law_law_469 ?_
  refine aw_sld d_Law_law_470 (by omega) hL ?_
  refine aw_aload_n (i := 0) d_Law_law_471 rfl rfl ?_
  refine aw_iload d_Law_law_472 rfl ?_
  refine aw_iconst (v := nI 2) d_Law_law_474 (by decide) ?_
  refine aw_iaddN d_Law_law_475 ?_
  refine aw_sld d_Law_law_476 (by omega) hL ?_
  refine aw_aload_n (i := 0) d_Law_law_477 rfl rfl ?_
  refine aw_iload d_Law_law_478 rfl ?_
  refine aw_iconst (v := nI 3) d_Law_law_480 (by decide) ?_
  refine aw_iaddN d_Law_law_481 ?_
  refine aw_sld d_Law_law_482 (by omega) hL ?_
  apply aw_callv d_Law_law_483 cl_Law_58 (c_Mod_rule ⟨hm, Fr.rf⟩ hq hv.1 (xs (i + 1)) (xs (i + 2)) (xs (i + 3))); exact hm.1; rfl; rfl; rfl; rfl; decide; exact hr.1; exact hr.2; exact Nat.le_of_ble_eq_true rfl
  rintro _ _ ⟨h, sc, arm, rfl, ⟨hm, FM⟩, rfl, _, hq⟩
  have hc := hc.frM hv9.1 FM mt_far
  have ho := FM _ _ ho mt_120
  refine aw_icmp_eq d_Law_law_486 (fun _ => ?_) (fun br_ => absurd rfl br_)
  exact kk _ _ _ _ ⟨B, _, ad, A, _, fl, L9, L29, ar, n9, _, _, _, _, Am, sc, arm, fo, hc, hm, hq, hv9, Nat.le_succ_of_le hlg, ho, hb⟩
set_option maxHeartbeats 4000000 in
set_option maxRecDepth 20000 in
theorem ca_exit {G : aG} {nx : Nat} {h : Nat → Option aC} {L : Nat} {xs : Nat → Int32} {x a o i j k n : Nat} (hL : L ≤ 2560) (hi : i + 5 ≤ L) (hj : j + 1 ≤ 512) (hls : LSt h x a o j k n) (kk : ∀ (nx : Nat) (h : Nat → Option aC) (k n : Nat), LSt h x a o (j + 1) k n → AW G m_Law_law 10 61024 8913034 (FLw G L xs) 1270 [(0, .ref 1), (1, .ref x), (2, .ref a), (3, .ref o), (4, .int (nI i))] [] (nx, h) k n) : AW G m_Law_law 10 61024 8913034 (FLw G L xs) 491 [(0, .ref 1), (1, .ref x), (2, .ref a), (3, .ref o), (4, .int (nI i))] [] (nx, h) k n := by
  obtain ⟨B, hs, ad, A, most, fl, L9, L29, ar, n9, gs, lg, xs9, cap, Am, sc, arm, fo, hc, hm, hq, hv, hlg, ho, hkb⟩ := hls
  have hb := hkb.c 0 0 (by decide) (by decide)
  have hr := hb.le hj
  have hv9 := vv_E hv (xs (i + 1)) (xs (i + 2))
  refine aw_aload_n (i := 1) d_Law_law_491 rfl rfl ?_
  refine aw_aload_n (i := 0) d_Law_law_492 rfl rfl ?_
  refine aw_iload d_Law_law_493 rfl ?_
  refine aw_iconst (v := nI 1) d_Law_law_495 (by decide) ?_
  refine aw_iaddN d_Law_law_496 ?_
  refine aw_sld d_Law_law_497 (by omega) hL ?_
  refine aw_aload_n (i := 0) d_Law_law_498 rfl rfl ?_
  refine aw_iload d_Law_law_499 rfl ?_
  refine aw_iconst (v := nI 2) d_Law_law_501 (by decide) ?_
  refine aw_iaddN d_Law_law_502 ?_
  refine aw_sld d_Law_law_503 (by omega) hL ?_
  apply aw_callv d_Law_law_504 cl_Law_59 (c_LH_exit hc hv.1 hv.2.2.1 (xs (i + 1)) (xs (i + 2))); exact hc.1.1; rfl; rfl; rfl; rfl; decide; exact hr.1; exact hr.2; exact Nat.le_of_ble_eq_true rfl
  rintro _ _ ⟨rfl, n2, h, ad, A, fl, L9, L29, ar, n9, rfl, hc, FR⟩
  have hm := hm.frC FR (fun y h1 h2 => cts_far h1 (by omega))
  have ho := FR _ _ ho (cts_far (y := 120) (by decide) (by decide))
  refine aw_aload_n (i := 2) d_Law_law_507 rfl rfl ?_
  refine aw_aload_n (i := 0) d_Law_law_508 rfl rfl ?_
  refine aw_iload d_Law_law_509 rfl ?_
  refine aw_iconst (v := nI 1) d_Law_law_511 (by decide) ?_
  refine aw_iaddN d_Law_law_512 ?_
  refine aw_sld d_Law_law_513 (by omega) hL ?_
  refine aw_aload_n (i := 0) d_Law_law_514 rfl rfl ?_
  refine aw_iload d_Law_law_515 rfl ?_
  refine aw_iconst (v := nI 2) d_Law_law_517 (by decide) ?_
  refine aw_iaddN d_Law_law_518 ?_
  refine aw_sld d_Law_law_519 (by omega) hL ?_
  apply aw_callv d_Law_law_520 cl_Law_62 (c_Mod_exit ⟨hm, Fr.rf⟩ hq hv.1 (xs (i + 1)) (xs (i + 2))); exact hm.1; rfl; rfl; rfl; rfl; decide; exact hr.1; exact hr.2; exact Nat.le_of_ble_eq_true rfl
  rintro _ _ ⟨h, sc, arm, rfl, ⟨hm, FM⟩, rfl, _, hq⟩
  have hc := hc.frM hv9.1 FM mt_far
  have ho := FM _ _ ho mt_120
  refine aw_icmp_eq d_Law_law_523 (fun _ => ?_) (fun br_ => absurd rfl br_)
  exact kk _ _ _ _ ⟨B, _, ad, A, _, fl, L9, L29, ar, n9, _, _, _, _, Am, sc, arm, fo, hc, hm, hq, hv9, Nat.le_succ_of_le hlg, ho, hb⟩
set_option maxHeartbeats 4000000 in
set_option maxRecDepth 20000 in
theorem ca_clear {G : aG} {nx : Nat} {h : Nat → Option aC} {L : Nat} {xs : Nat → Int32} {x a o i j k n : Nat} (hL : L ≤ 2560) (hi : i + 5 ≤ L) (hj : j + 1 ≤ 512) (hls : LSt h x a o j k n) (kk : ∀ (nx : Nat) (h : Nat → Option aC) (k n : Nat), LSt h x a o (j + 1) k n → AW G m_Law_law 10 61024 8913034 (FLw G L xs) 1270 [(0, .ref 1), (1, .ref x), (2, .ref a), (3, .ref o), (4, .int (nI i))] [] (nx, h) k n) : AW G m_Law_law 10 61024 8913034 (FLw G L xs) 528 [(0, .ref 1), (1, .ref x), (2, .ref a), (3, .ref o), (4, .int (nI i))] [] (nx, h) k n := by
  obtain ⟨B, hs, ad, A, most, fl, L9, L29, ar, n9, gs, lg, xs9, cap, Am, sc, arm, fo, hc, hm, hq, hv, hlg, ho, hkb⟩ := hls
  have hb := hkb.c 0 0 (by decide) (by decide)
  have hr := hb.le hj
  have hv9 := vv_CC hv
  refine aw_aload_n (i := 1) d_Law_law_528 rfl rfl ?_
  apply aw_callv d_Law_law_529 cl_Law_63 (c_LH_clear hc hv.1 hkb.cap hv.2.2.1); exact hc.1.1; rfl; rfl; rfl; rfl; decide; exact hr.1; exact hr.2; exact Nat.le_of_ble_eq_true rfl
  rintro _ _ ⟨rfl, n2, h, ad, A, fl, L9, L29, ar, n9, rfl, hc, FR⟩
  have hm := hm.frC FR (fun y h1 h2 => cts_far h1 (by omega))
  have ho := FR _ _ ho (cts_far (y := 120) (by decide) (by decide))
  refine aw_aload_n (i := 2) d_Law_law_532 rfl rfl ?_
  apply aw_callv d_Law_law_533 cl_Law_67 (c_Mod_clear ⟨hm, Fr.rf⟩ hq hv.1 ); exact hm.1; rfl; rfl; rfl; rfl; decide; exact hr.1; exact hr.2; exact Nat.le_of_ble_eq_true rfl
  rintro _ _ ⟨h, sc, arm, rfl, ⟨hm, FM⟩, rfl, _, hq⟩
  have hc := hc.frM hv9.1 FM mt_far
  have ho := FM _ _ ho mt_120
  refine aw_icmp_eq d_Law_law_536 (fun _ => ?_) (fun br_ => absurd rfl br_)
  exact kk _ _ _ _ ⟨B, _, ad, A, _, fl, L9, L29, ar, n9, _, _, _, _, Am, sc, arm, fo, hc, hm, hq, hv9, Nat.zero_le _, ho, hb⟩
set_option maxHeartbeats 4000000 in
set_option maxRecDepth 20000 in
theorem ca_count {G : aG} {nx : Nat} {h : Nat → Option aC} {L : Nat} {xs : Nat → Int32} {x a o i j k n : Nat} (hL : L ≤ 2560) (hi : i + 5 ≤ L) (hj : j + 1 ≤ 512) (hls : LSt h x a o j k n) (kk : ∀ (nx : Nat) (h : Nat → Option aC) (k n : Nat), LSt h x a o (j + 1) k n → AW G m_Law_law 10 61024 8913034 (FLw G L xs) 1270 [(0, .ref 1), (1, .ref x), (2, .ref a), (3, .ref o), (4, .int (nI i))] [] (nx, h) k n) : AW G m_Law_law 10 61024 8913034 (FLw G L xs) 541 [(0, .ref 1), (1, .ref x), (2, .ref a), (3, .ref o), (4, .int (nI i))] [] (nx, h) k n := by
  obtain ⟨B, hs, ad, A, most, fl, L9, L29, ar, n9, gs, lg, xs9, cap, Am, sc, arm, fo, hc, hm, hq, hv, hlg, ho, hkb⟩ := hls
  have hb := hkb.c 0 0 (by decide) (by decide)
  have hr := hb.le hj
  have hv9 := hv
  refine aw_aload_n (i := 1) d_Law_law_541 rfl rfl ?_
  refine aw_aload_n (i := 0) d_Law_law_542 rfl rfl ?_
  refine aw_iload d_Law_law_543 rfl ?_
  refine aw_iconst (v := nI 1) d_Law_law_545 (by decide) ?_
  refine aw_iaddN d_Law_law_546 ?_
  refine aw_sld d_Law_law_547 (by omega) hL ?_
  apply aw_callv d_Law_law_548 cl_Law_68 (c_LH_count hc hv.1 hv.2.2.1 (xs (i + 1))); exact hc.1.1; rfl; rfl; rfl; rfl; decide; exact hr.1; exact hr.2; exact Nat.le_of_ble_eq_true rfl
  rintro _ _ ⟨rfl, n2, h, ad, A, fl, L9, L29, ar, n9, rfl, hc, FR⟩
  have hm := hm.frC FR (fun y h1 h2 => cts_far h1 (by omega))
  have ho := FR _ _ ho (cts_far (y := 120) (by decide) (by decide))
  refine aw_aload_n (i := 2) d_Law_law_551 rfl rfl ?_
  refine aw_aload_n (i := 0) d_Law_law_552 rfl rfl ?_
  refine aw_iload d_Law_law_553 rfl ?_
  refine aw_iconst (v := nI 1) d_Law_law_555 (by decide) ?_
  refine aw_iaddN d_Law_law_556 ?_
  refine aw_sld d_Law_law_557 (by omega) hL ?_
  apply aw_callv d_Law_law_558 cl_Law_71 (c_Mod_count ⟨hm, Fr.rf⟩ hq hv.1 (xs (i + 1))); exact hm.1; rfl; rfl; rfl; rfl; decide; exact hr.1; exact hr.2; exact Nat.le_of_ble_eq_true rfl
  rintro _ _ ⟨h, sc, arm, rfl, ⟨hm, FM⟩, rfl, _, hq⟩
  have hc := hc.frM hv9.1 FM mt_far
  have ho := FM _ _ ho mt_120
  refine aw_icmp_eq d_Law_law_561 (fun _ => ?_) (fun br_ => absurd rfl br_)
  exact kk _ _ _ _ ⟨B, _, ad, A, _, fl, L9, L29, ar, n9, _, _, _, _, Am, sc, arm, fo, hc, hm, hq, hv9, Nat.le_succ_of_le hlg, ho, hb⟩
set_option maxHeartbeats 4000000 in
set_option maxRecDepth 20000 in
theorem ca_reached {G : aG} {nx : Nat} {h : Nat → Option aC} {L : Nat} {xs : Nat → Int32} {x a o i j k n : Nat} (hL : L ≤ 2560) (hi : i + 5 ≤ L) (hj : j + 1 ≤ 512) (hls : LSt h x a o j k n) (kk : ∀ (nx : Nat) (h : Nat → Option aC) (k n : Nat), LSt h x a o (j + 1) k n → AW G m_Law_law 10 61024 8913034 (FLw G L xs) 1270 [(0, .ref 1), (1, .ref x), (2, .ref a), (3, .ref o), (4, .int (nI i))] [] (nx, h) k n) : AW G m_Law_law 10 61024 8913034 (FLw G L xs) 566 [(0, .ref 1), (1, .ref x), (2, .ref a), (3, .ref o), (4, .int (nI i))] [] (nx, h) k n := by
  obtain ⟨B, hs, ad, A, most, fl, L9, L29, ar, n9, gs, lg, xs9, cap, Am, sc, arm, fo, hc, hm, hq, hv, hlg, ho, hkb⟩ := hls
  have hb := hkb.w hv.1
  have hr := hb.le hj
  have hv9 := hv
  refine aw_aload_n (i := 1) d_Law_law_566 rfl rfl ?_
  apply aw_callv d_Law_law_567 cl_Law_72 (c_LH_reached hc hv.1 ); exact hc.1.1; rfl; rfl; rfl; rfl; decide; exact hr.1; exact hr.2; exact Nat.le_of_ble_eq_true rfl
  rintro _ _ ⟨rfl, n2, h, ad, A, fl, L9, L29, ar, n9, rfl, hc, FR⟩
  have hm := hm.frC FR (fun y h1 h2 => cts_far h1 (by omega))
  have ho := FR _ _ ho (cts_far (y := 120) (by decide) (by decide))
  refine aw_aload_n (i := 2) d_Law_law_570 rfl rfl ?_
  apply aw_callv d_Law_law_571 cl_Law_75 (c_Mod_reached ⟨hm, Fr.rf⟩ hq hv.1 ); exact hm.1; rfl; rfl; rfl; rfl; decide; exact hr.1; exact hr.2; exact Nat.le_of_ble_eq_true rfl
  rintro _ _ ⟨h, sc, arm, rfl, ⟨hm, FM⟩, rfl, _, hq⟩
  have hc := hc.frM hv9.1 FM mt_far
  have ho := FM _ _ ho mt_120
  refine aw_icmp_eq d_Law_law_574 (fun _ => ?_) (fun br_ => absurd rfl br_)
  exact kk _ _ _ _ ⟨B, _, ad, A, _, fl, L9, L29, ar, n9, _, _, _, _, Am, sc, arm, fo, hc, hm, hq, hv9, Nat.le_succ_of_le hlg, ho, hb⟩
set_option maxHeartbeats 4000000 in
set_option maxRecDepth 20000 in
theorem ca_comes {G : aG} {nx : Nat} {h : Nat → Option aC} {L : Nat} {xs : Nat → Int32} {x a o i j k n : Nat} (hL : L ≤ 2560) (hi : i + 5 ≤ L) (hj : j + 1 ≤ 512) (hls : LSt h x a o j k n) (kk : ∀ (nx : Nat) (h : Nat → Option aC) (k n : Nat), LSt h x a o (j + 1) k n → AW G m_Law_law 10 61024 8913034 (FLw G L xs) 1270 [(0, .ref 1), (1, .ref x), (2, .ref a), (3, .ref o), (4, .int (nI i))] [] (nx, h) k n) : AW G m_Law_law 10 61024 8913034 (FLw G L xs) 579 [(0, .ref 1), (1, .ref x), (2, .ref a), (3, .ref o), (4, .int (nI i))] [] (nx, h) k n := by
  obtain ⟨B, hs, ad, A, most, fl, L9, L29, ar, n9, gs, lg, xs9, cap, Am, sc, arm, fo, hc, hm, hq, hv, hlg, ho, hkb⟩ := hls
  have hb := hkb.b (isC hs (xs (i + 1))) hv.1
  have hr := hb.le hj
  have hv9 := hv
  refine aw_aload_n (i := 1) d_Law_law_579 rfl rfl ?_
  refine aw_aload_n (i := 0) d_Law_law_580 rfl rfl ?_
  refine aw_iload d_Law_law_581 rfl ?_
  refine aw_iconst (v := nI 1) d_Law_law_583 (by decide) ?_
  refine aw_iaddN d_Law_law_584 ?_
  refine aw_sld d_Law_law_585 (by omega) hL ?_
  apply aw_callv d_Law_law_586 cl_Law_76 (c_LH_comes hc hv.1 (xs (i + 1))); exact hc.1.1; rfl; rfl; rfl; rfl; decide; exact hr.1; exact hr.2; exact Nat.le_of_ble_eq_true rfl
  rintro _ _ ⟨rfl, n2, h, ad, A, fl, L9, L29, ar, n9, rfl, hc, FR⟩
  have hm := hm.frC FR (fun y h1 h2 => cts_far h1 (by omega))
  have ho := FR _ _ ho (cts_far (y := 120) (by decide) (by decide))
  refine aw_aload_n (i := 2) d_Law_law_589 rfl rfl ?_
  refine aw_aload_n (i := 0) d_Law_law_590 rfl rfl ?_
  refine aw_iload d_Law_law_591 rfl ?_
  refine aw_iconst (v := nI 1) d_Law_law_593 (by decide) ?_
  refine aw_iaddN d_Law_law_594 ?_
  refine aw_sld d_Law_law_595 (by omega) hL ?_
  apply aw_callv d_Law_law_596 cl_Law_79 (c_Mod_comes ⟨hm, Fr.rf⟩ hq hv.1 (xs (i + 1))); exact hm.1; rfl; rfl; rfl; rfl; decide; exact hr.1; exact hr.2; exact Nat.le_of_ble_eq_true rfl
  rintro _ _ ⟨h, sc, arm, rfl, ⟨hm, FM⟩, rfl, _, hq⟩
  have hc := hc.frM hv9.1 FM mt_far
  have ho := FM _ _ ho mt_120
  refine aw_icmp_eq d_Law_law_599 (fun _ => ?_) (fun br_ => absurd rfl br_)
  exact kk _ _ _ _ ⟨B, _, ad, A, _, fl, L9, L29, ar, n9, _, _, _, _, Am, sc, arm, fo, hc, hm, hq, hv9, Nat.le_succ_of_le hlg, ho, hb⟩
set_option maxHeartbeats 4000000 in
set_option maxRecDepth 20000 in
theorem ca_open {G : aG} {nx : Nat} {h : Nat → Option aC} {L : Nat} {xs : Nat → Int32} {x a o i j k n : Nat} (hL : L ≤ 2560) (hi : i + 5 ≤ L) (hj : j + 1 ≤ 512) (hls : LSt h x a o j k n) (kk : ∀ (nx : Nat) (h : Nat → Option aC) (k n : Nat), LSt h x a o (j + 1) k n → AW G m_Law_law 10 61024 8913034 (FLw G L xs) 1270 [(0, .ref 1), (1, .ref x), (2, .ref a), (3, .ref o), (4, .int (nI i))] [] (nx, h) k n) : AW G m_Law_law 10 61024 8913034 (FLw G L xs) 684 [(0, .ref 1), (1, .ref x), (2, .ref a), (3, .ref o), (4, .int (nI i))] [] (nx, h) k n := by
  obtain ⟨B, hs, ad, A, most, fl, L9, L29, ar, n9, gs, lg, xs9, cap, Am, sc, arm, fo, hc, hm, hq, hv, hlg, ho, hkb⟩ := hls
  have hb := hkb.c 0 0 (by decide) (by decide)
  have hr := hb.le hj
  have hv9 := hv
  refine aw_aload_n (i := 1) d_Law_law_684 rfl rfl ?_
  refine aw_aload_n (i := 0) d_Law_law_685 rfl rfl ?_
  refine aw_iload d_Law_law_686 rfl ?_
  refine aw_iconst (v := nI 1) d_Law_law_688 (by decide) ?_
  refine aw_iaddN d_Law_law_689 ?_
  refine aw_sld d_Law_law_690 (by omega) hL ?_
  apply aw_callv d_Law_law_691 cl_Law_89 (c_LH_open hc hv.1 (xs (i + 1))); exact hc.1.1; rfl; rfl; rfl; rfl; decide; exact hr.1; exact hr.2; exact Nat.le_of_ble_eq_true rfl
  rintro _ _ ⟨rfl, n2, h, ad, A, fl, L9, L29, ar, n9, rfl, hc, FR⟩
  have hm := hm.frC FR (fun y h1 h2 => cts_far h1 (by omega))
  have ho := FR _ _ ho (cts_far (y := 120) (by decide) (by decide))
  refine aw_aload_n (i := 2) d_Law_law_694 rfl rfl ?_
  refine aw_aload_n (i := 0) d_Law_law_695 rfl rfl ?_
  refine aw_iload d_Law_law_696 rfl ?_
  refine aw_iconst (v := nI 1) d_Law_law_698 (by decide) ?_
  refine aw_iaddN d_Law_law_699 ?_
  refine aw_sld d_Law_law_700 (by omega) hL ?_
  apply aw_callv d_Law_law_701 cl_Law_92 (c_Mod_open ⟨hm, Fr.rf⟩ hq hv.1 (xs (i + 1))); exact hm.1; rfl; rfl; rfl; rfl; decide; exact hr.1; exact hr.2; exact Nat.le_of_ble_eq_true rfl
  rintro _ _ ⟨h, sc, arm, rfl, ⟨hm, FM⟩, rfl, _, hq⟩
  have hc := hc.frM hv9.1 FM mt_far
  have ho := FM _ _ ho mt_120
  refine aw_icmp_eq d_Law_law_704 (fun _ => ?_) (fun br_ => absurd rfl br_)
  exact kk _ _ _ _ ⟨B, _, ad, A, _, fl, L9, L29, ar, n9, _, _, _, _, Am, sc, arm, fo, hc, hm, hq, hv9, Nat.le_succ_of_le hlg, ho, hb⟩
set_option maxHeartbeats 4000000 in
set_option maxRecDepth 20000 in
theorem ca_behind {G : aG} {nx : Nat} {h : Nat → Option aC} {L : Nat} {xs : Nat → Int32} {x a o i j k n : Nat} (hL : L ≤ 2560) (hi : i + 5 ≤ L) (hj : j + 1 ≤ 512) (hls : LSt h x a o j k n) (kk : ∀ (nx : Nat) (h : Nat → Option aC) (k n : Nat), LSt h x a o (j + 1) k n → AW G m_Law_law 10 61024 8913034 (FLw G L xs) 1270 [(0, .ref 1), (1, .ref x), (2, .ref a), (3, .ref o), (4, .int (nI i))] [] (nx, h) k n) : AW G m_Law_law 10 61024 8913034 (FLw G L xs) 709 [(0, .ref 1), (1, .ref x), (2, .ref a), (3, .ref o), (4, .int (nI i))] [] (nx, h) k n := by
  obtain ⟨B, hs, ad, A, most, fl, L9, L29, ar, n9, gs, lg, xs9, cap, Am, sc, arm, fo, hc, hm, hq, hv, hlg, ho, hkb⟩ := hls
  have hb := hkb.c 0 0 (by decide) (by decide)
  have hr := hb.le hj
  have hv9 := hv
  refine aw_aload_n (i := 1) d_Law_law_709 rfl rfl ?_
  refine aw_aload_n (i := 0) d_Law_law_710 rfl rfl ?_
  refine aw_iload d_Law_law_711 rfl ?_
  refine aw_iconst (v := nI 1) d_Law_law_713 (by decide) ?_
  refine aw_iaddN d_Law_law_714 ?_
  refine aw_sld d_Law_law_715 (by omega) hL ?_
  refine aw_aload_n (i := 0) d_Law_law_716 rfl rfl ?_
  refine aw_iload d_Law_law_717 rfl ?_
  refine aw_iconst (v := nI 2) d_Law_law_719 (by decide) ?_
  refine aw_iaddN d_Law_law_720 ?_
  refine aw_sld d_Law_law_721 (by omega) hL ?_
  apply aw_callv d_Law_law_722 cl_Law_93 (c_LH_behind hc hv.1 (xs (i + 1)) (xs (i + 2))); exact hc.1.1; rfl; rfl; rfl; rfl; decide; exact hr.1; exact hr.2; exact Nat.le_of_ble_eq_true rfl
  rintro _ _ ⟨rfl, n2, h, ad, A, fl, L9, L29, ar, n9, rfl, hc, FR⟩
  have hm := hm.frC FR (fun y h1 h2 => cts_far h1 (by omega))
  have ho := FR _ _ ho (cts_far (y := 120) (by decide) (by decide))
  refine aw_aload_n (i := 2) d_Law_law_725 rfl rfl ?_
  refine aw_aload_n (i := 0) d_Law_law_726 rfl rfl ?_
  refine aw_iload d_Law_law_727 rfl ?_
  refine aw_iconst (v := nI 1) d_Law_law_729 (by decide) ?_
  refine aw_iaddN d_Law_law_730 ?_
  refine aw_sld d_Law_law_731 (by omega) hL ?_
  refine aw_aload_n (i := 0) d_Law_law_732 rfl rfl ?_
  refine aw_iload d_Law_law_733 rfl ?_
  refine aw_iconst (v := nI 2) d_Law_law_735 (by decide) ?_
  refine aw_iaddN d_Law_law_736 ?_
  refine aw_sld d_Law_law_737 (by omega) hL ?_
  apply aw_callv d_Law_law_738 cl_Law_96 (c_Mod_behind ⟨hm, Fr.rf⟩ hq hv.1 (xs (i + 1)) (xs (i + 2))); exact hm.1; rfl; rfl; rfl; rfl; decide; exact hr.1; exact hr.2; exact Nat.le_of_ble_eq_true rfl
  rintro _ _ ⟨h, sc, arm, rfl, ⟨hm, FM⟩, rfl, _, hq⟩
  have hc := hc.frM hv9.1 FM mt_far
  have ho := FM _ _ ho mt_120
  refine aw_icmp_eq d_Law_law_741 (fun _ => ?_) (fun br_ => absurd rfl br_)
  exact kk _ _ _ _ ⟨B, _, ad, A, _, fl, L9, L29, ar, n9, _, _, _, _, Am, sc, arm, fo, hc, hm, hq, hv9, Nat.le_succ_of_le hlg, ho, hb⟩
set_option maxHeartbeats 4000000 in
set_option maxRecDepth 20000 in
theorem ca_least {G : aG} {nx : Nat} {h : Nat → Option aC} {L : Nat} {xs : Nat → Int32} {x a o i j k n : Nat} (hL : L ≤ 2560) (hi : i + 5 ≤ L) (hj : j + 1 ≤ 512) (hls : LSt h x a o j k n) (kk : ∀ (nx : Nat) (h : Nat → Option aC) (k n : Nat), LSt h x a o (j + 1) k n → AW G m_Law_law 10 61024 8913034 (FLw G L xs) 1270 [(0, .ref 1), (1, .ref x), (2, .ref a), (3, .ref o), (4, .int (nI i))] [] (nx, h) k n) : AW G m_Law_law 10 61024 8913034 (FLw G L xs) 746 [(0, .ref 1), (1, .ref x), (2, .ref a), (3, .ref o), (4, .int (nI i))] [] (nx, h) k n := by
  obtain ⟨B, hs, ad, A, most, fl, L9, L29, ar, n9, gs, lg, xs9, cap, Am, sc, arm, fo, hc, hm, hq, hv, hlg, ho, hkb⟩ := hls
  have hb := hkb.b (isC hs (xs (i + 1))) hv.1
  have hr := hb.le hj
  have hv9 := hv
  refine aw_aload_n (i := 1) d_Law_law_746 rfl rfl ?_
  refine aw_aload_n (i := 0) d_Law_law_747 rfl rfl ?_
  refine aw_iload d_Law_law_748 rfl ?_
  refine aw_iconst (v := nI 1) d_Law_law_750 (by decide) ?_
  refine aw_iaddN d_Law_law_751 ?_
  refine aw_sld d_Law_law_752 (by omega) hL ?_
  apply aw_callv d_Law_law_753 cl_Law_97 (c_LH_least hc hv.1 (xs (i + 1))); exact hc.1.1; rfl; rfl; rfl; rfl; decide; exact hr.1; exact hr.2; exact Nat.le_of_ble_eq_true rfl
  rintro _ _ ⟨rfl, n2, h, ad, A, fl, L9, L29, ar, n9, rfl, hc, FR⟩
  have hm := hm.frC FR (fun y h1 h2 => cts_far h1 (by omega))
  have ho := FR _ _ ho (cts_far (y := 120) (by decide) (by decide))
  refine aw_aload_n (i := 2) d_Law_law_756 rfl rfl ?_
  refine aw_aload_n (i := 0) d_Law_law_757 rfl rfl ?_
  refine aw_iload d_Law_law_758 rfl ?_
  refine aw_iconst (v := nI 1) d_Law_law_760 (by decide) ?_
  refine aw_iaddN d_Law_law_761 ?_
  refine aw_sld d_Law_law_762 (by omega) hL ?_
  apply aw_callv d_Law_law_763 cl_Law_100 (c_Mod_least ⟨hm, Fr.rf⟩ hq hv.1 (far_ok hv.1) (xs (i + 1))); exact hm.1; rfl; rfl; rfl; rfl; decide; exact hr.1; exact hr.2; exact Nat.le_of_ble_eq_true rfl
  rintro _ _ ⟨h, sc, arm, rfl, ⟨hm, FM⟩, rfl, _, hq⟩
  have hc := hc.frM hv9.1 FM mt_far
  have ho := FM _ _ ho mt_120
  refine aw_icmp_eq d_Law_law_766 (fun _ => ?_) (fun br_ => absurd rfl br_)
  exact kk _ _ _ _ ⟨B, _, ad, A, _, fl, L9, L29, ar, n9, _, _, _, _, Am, sc, arm, fo, hc, hm, hq, hv9, Nat.le_succ_of_le hlg, ho, hb⟩
set_option maxHeartbeats 4000000 in
set_option maxRecDepth 20000 in
theorem ca_hint {G : aG} {nx : Nat} {h : Nat → Option aC} {L : Nat} {xs : Nat → Int32} {x a o i j k n : Nat} (hL : L ≤ 2560) (hi : i + 5 ≤ L) (hj : j + 1 ≤ 512) (hls : LSt h x a o j k n) (kk : ∀ (nx : Nat) (h : Nat → Option aC) (k n : Nat), LSt h x a o (j + 1) k n → AW G m_Law_law 10 61024 8913034 (FLw G L xs) 1270 [(0, .ref 1), (1, .ref x), (2, .ref a), (3, .ref o), (4, .int (nI i))] [] (nx, h) k n) : AW G m_Law_law 10 61024 8913034 (FLw G L xs) 771 [(0, .ref 1), (1, .ref x), (2, .ref a), (3, .ref o), (4, .int (nI i))] [] (nx, h) k n := by
  obtain ⟨B, hs, ad, A, most, fl, L9, L29, ar, n9, gs, lg, xs9, cap, Am, sc, arm, fo, hc, hm, hq, hv, hlg, ho, hkb⟩ := hls
  have hb := hkb.b (isC hs (xs (i + 1))) hv.1
  have hr := hb.le hj
  have hv9 := hv
  refine aw_aload_n (i := 1) d_Law_law_771 rfl rfl ?_
  refine aw_aload_n (i := 0) d_Law_law_772 rfl rfl ?_
  refine aw_iload d_Law_law_773 rfl ?_
  refine aw_iconst (v := nI 1) d_Law_law_775 (by decide) ?_
  refine aw_iaddN d_Law_law_776 ?_
  refine aw_sld d_Law_law_777 (by omega) hL ?_
  apply aw_callv d_Law_law_778 cl_Law_101 (c_LH_hint hc hv.1 (xs (i + 1))); exact hc.1.1; rfl; rfl; rfl; rfl; decide; exact hr.1; exact hr.2; exact Nat.le_of_ble_eq_true rfl
  rintro _ _ ⟨rfl, n2, h, ad, A, fl, L9, L29, ar, n9, rfl, hc, FR⟩
  have hm := hm.frC FR (fun y h1 h2 => cts_far h1 (by omega))
  have ho := FR _ _ ho (cts_far (y := 120) (by decide) (by decide))
  refine aw_aload_n (i := 2) d_Law_law_781 rfl rfl ?_
  refine aw_aload_n (i := 0) d_Law_law_782 rfl rfl ?_
  refine aw_iload d_Law_law_783 rfl ?_
  refine aw_iconst (v := nI 1) d_Law_law_785 (by decide) ?_
  refine aw_iaddN d_Law_law_786 ?_
  refine aw_sld d_Law_law_787 (by omega) hL ?_
  apply aw_callv d_Law_law_788 cl_Law_104 (c_Mod_hint ⟨hm, Fr.rf⟩ hq hv.1 (far_ok hv.1) (xs (i + 1))); exact hm.1; rfl; rfl; rfl; rfl; decide; exact hr.1; exact hr.2; exact Nat.le_of_ble_eq_true rfl
  rintro _ _ ⟨h, sc, arm, rfl, ⟨hm, FM⟩, rfl, _, hq⟩
  have hc := hc.frM hv9.1 FM mt_far
  have ho := FM _ _ ho mt_120
  refine aw_icmp_eq d_Law_law_791 (fun _ => ?_) (fun br_ => absurd rfl br_)
  exact kk _ _ _ _ ⟨B, _, ad, A, _, fl, L9, L29, ar, n9, _, _, _, _, Am, sc, arm, fo, hc, hm, hq, hv9, Nat.le_succ_of_le hlg, ho, hb⟩
set_option maxHeartbeats 4000000 in
set_option maxRecDepth 20000 in
theorem ca_way {G : aG} {nx : Nat} {h : Nat → Option aC} {L : Nat} {xs : Nat → Int32} {x a o i j k n : Nat} (hL : L ≤ 2560) (hi : i + 5 ≤ L) (hj : j + 1 ≤ 512) (hls : LSt h x a o j k n) (kk : ∀ (nx : Nat) (h : Nat → Option aC) (k n : Nat), LSt h x a o (j + 1) k n → AW G m_Law_law 10 61024 8913034 (FLw G L xs) 1270 [(0, .ref 1), (1, .ref x), (2, .ref a), (3, .ref o), (4, .int (nI i))] [] (nx, h) k n) : AW G m_Law_law 10 61024 8913034 (FLw G L xs) 796 [(0, .ref 1), (1, .ref x), (2, .ref a), (3, .ref o), (4, .int (nI i))] [] (nx, h) k n := by
  obtain ⟨B, hs, ad, A, most, fl, L9, L29, ar, n9, gs, lg, xs9, cap, Am, sc, arm, fo, hc, hm, hq, hv, hlg, ho, hkb⟩ := hls
  have hb := hkb.y (xs (i + 1)) hv.1
  have hr := hb.le hj
  have hv9 := hv
  refine aw_aload_n (i := 1) d_Law_law_796 rfl rfl ?_
  refine aw_aload_n (i := 0) d_Law_law_797 rfl rfl ?_
  refine aw_iload d_Law_law_798 rfl ?_
  refine aw_iconst (v := nI 1) d_Law_law_800 (by decide) ?_
  refine aw_iaddN d_Law_law_801 ?_
  refine aw_sld d_Law_law_802 (by omega) hL ?_
  apply aw_callv d_Law_law_803 cl_Law_105 (c_LH_way hc hv.1 hkb.cap (xs (i + 1))); exact hc.1.1; rfl; rfl; rfl; rfl; decide; exact hr.1; exact hr.2; exact Nat.le_of_ble_eq_true rfl
  rintro _ _ ⟨rfl, n2, h, ad, A, fl, L9, L29, ar, n9, rfl, hc, FR⟩
  have hm := hm.frC FR (fun y h1 h2 => cts_far h1 (by omega))
  have ho := FR _ _ ho (cts_far (y := 120) (by decide) (by decide))
  refine aw_aload_n (i := 2) d_Law_law_806 rfl rfl ?_
  refine aw_aload_n (i := 0) d_Law_law_807 rfl rfl ?_
  refine aw_iload d_Law_law_808 rfl ?_
  refine aw_iconst (v := nI 1) d_Law_law_810 (by decide) ?_
  refine aw_iaddN d_Law_law_811 ?_
  refine aw_sld d_Law_law_812 (by omega) hL ?_
  apply aw_callv d_Law_law_813 cl_Law_108 (c_Mod_way ⟨hm, Fr.rf⟩ hq hv.1 (far_ok hv.1) (xs (i + 1))); exact hm.1; rfl; rfl; rfl; rfl; decide; exact hr.1; exact hr.2; exact Nat.le_of_ble_eq_true rfl
  rintro _ _ ⟨h, sc, arm, rfl, ⟨hm, FM⟩, rfl, _, hq⟩
  have hc := hc.frM hv9.1 FM mt_far
  have ho := FM _ _ ho mt_120
  refine aw_icmp_eq d_Law_law_816 (fun _ => ?_) (fun br_ => absurd rfl br_)
  exact kk _ _ _ _ ⟨B, _, ad, A, _, fl, L9, L29, ar, n9, _, _, _, _, Am, sc, arm, fo, hc, hm, hq, hv9, Nat.le_succ_of_le hlg, ho, hb⟩
set_option maxHeartbeats 4000000 in
set_option maxRecDepth 20000 in
theorem ca_longest {G : aG} {nx : Nat} {h : Nat → Option aC} {L : Nat} {xs : Nat → Int32} {x a o i j k n : Nat} (hL : L ≤ 2560) (hi : i + 5 ≤ L) (hj : j + 1 ≤ 512) (hls : LSt h x a o j k n) (kk : ∀ (nx : Nat) (h : Nat → Option aC) (k n : Nat), LSt h x a o (j + 1) k n → AW G m_Law_law 10 61024 8913034 (FLw G L xs) 1270 [(0, .ref 1), (1, .ref x), (2, .ref a), (3, .ref o), (4, .int (nI i))] [] (nx, h) k n) : AW G m_Law_law 10 61024 8913034 (FLw G L xs) 821 [(0, .ref 1), (1, .ref x), (2, .ref a), (3, .ref o), (4, .int (nI i))] [] (nx, h) k n := by
  obtain ⟨B, hs, ad, A, most, fl, L9, L29, ar, n9, gs, lg, xs9, cap, Am, sc, arm, fo, hc, hm, hq, hv, hlg, ho, hkb⟩ := hls
  have hb := hkb.w hv.1
  have hr := hb.le hj
  have hv9 := hv
  refine aw_aload_n (i := 1) d_Law_law_821 rfl rfl ?_
  apply aw_callv d_Law_law_822 cl_Law_109 (c_LH_longest hc hv.1 ); exact hc.1.1; rfl; rfl; rfl; rfl; decide; exact hr.1; exact hr.2; exact Nat.le_of_ble_eq_true rfl
  rintro _ _ ⟨rfl, n2, h, ad, A, fl, L9, L29, ar, n9, rfl, hc, FR⟩
  have hm := hm.frC FR (fun y h1 h2 => cts_far h1 (by omega))
  have ho := FR _ _ ho (cts_far (y := 120) (by decide) (by decide))
  refine aw_aload_n (i := 2) d_Law_law_825 rfl rfl ?_
  apply aw_callv d_Law_law_826 cl_Law_112 (c_Mod_longest ⟨hm, Fr.rf⟩ hq hv.1 ); exact hm.1; rfl; rfl; rfl; rfl; decide; exact hr.1; exact hr.2; exact Nat.le_of_ble_eq_true rfl
  rintro _ _ ⟨h, sc, arm, rfl, ⟨hm, FM⟩, rfl, _, hq⟩
  have hc := hc.frM hv9.1 FM mt_far
  have ho := FM _ _ ho mt_120
  refine aw_icmp_eq d_Law_law_829 (fun _ => ?_) (fun br_ => absurd rfl br_)
  exact kk _ _ _ _ ⟨B, _, ad, A, _, fl, L9, L29, ar, n9, _, _, _, _, Am, sc, arm, fo, hc, hm, hq, hv9, Nat.le_succ_of_le hlg, ho, hb⟩
set_option maxHeartbeats 4000000 in
set_option maxRecDepth 20000 in
theorem ca_trap {G : aG} {nx : Nat} {h : Nat → Option aC} {L : Nat} {xs : Nat → Int32} {x a o i j k n : Nat} (hL : L ≤ 2560) (hi : i + 5 ≤ L) (hj : j + 1 ≤ 512) (hls : LSt h x a o j k n) (kk : ∀ (nx : Nat) (h : Nat → Option aC) (k n : Nat), LSt h x a o (j + 1) k n → AW G m_Law_law 10 61024 8913034 (FLw G L xs) 1270 [(0, .ref 1), (1, .ref x), (2, .ref a), (3, .ref o), (4, .int (nI i))] [] (nx, h) k n) : AW G m_Law_law 10 61024 8913034 (FLw G L xs) 834 [(0, .ref 1), (1, .ref x), (2, .ref a), (3, .ref o), (4, .int (nI i))] [] (nx, h) k n := by
  obtain ⟨B, hs, ad, A, most, fl, L9, L29, ar, n9, gs, lg, xs9, cap, Am, sc, arm, fo, hc, hm, hq, hv, hlg, ho, hkb⟩ := hls
  have hb := hkb.w hv.1
  have hr := hb.le hj
  have hv9 := hv
  refine aw_aload_n (i := 1) d_Law_law_834 rfl rfl ?_
  apply aw_callv d_Law_law_835 cl_Law_113 (c_LH_trap hc hv.1 hkb.cap); exact hc.1.1; rfl; rfl; rfl; rfl; decide; exact hr.1; exact hr.2; exact Nat.le_of_ble_eq_true rfl
  rintro _ _ ⟨rfl, n2, h, ad, A, fl, L9, L29, ar, n9, rfl, hc, FR⟩
  have hm := hm.frC FR (fun y h1 h2 => cts_far h1 (by omega))
  have ho := FR _ _ ho (cts_far (y := 120) (by decide) (by decide))
  refine aw_aload_n (i := 2) d_Law_law_838 rfl rfl ?_
  apply aw_callv d_Law_law_839 cl_Law_116 (c_Mod_trap ⟨hm, Fr.rf⟩ hq hv.1 (far_ok hv.1)); exact hm.1; rfl; rfl; rfl; rfl; decide; exact hr.1; exact hr.2; exact Nat.le_of_ble_eq_true rfl
  rintro _ _ ⟨h, sc, arm, rfl, ⟨hm, FM⟩, rfl, _, hq⟩
  have hc := hc.frM hv9.1 FM mt_far
  have ho := FM _ _ ho mt_120
  refine aw_icmp_eq d_Law_law_842 (fun _ => ?_) (fun br_ => absurd rfl br_)
  exact kk _ _ _ _ ⟨B, _, ad, A, _, fl, L9, L29, ar, n9, _, _, _, _, Am, sc, arm, fo, hc, hm, hq, hv9, Nat.le_succ_of_le hlg, ho, hb⟩
set_option maxHeartbeats 4000000 in
set_option maxRecDepth 20000 in
theorem ca_lost {G : aG} {nx : Nat} {h : Nat → Option aC} {L : Nat} {xs : Nat → Int32} {x a o i j k n : Nat} (hL : L ≤ 2560) (hi : i + 5 ≤ L) (hj : j + 1 ≤ 512) (hls : LSt h x a o j k n) (kk : ∀ (nx : Nat) (h : Nat → Option aC) (k n : Nat), LSt h x a o (j + 1) k n → AW G m_Law_law 10 61024 8913034 (FLw G L xs) 1270 [(0, .ref 1), (1, .ref x), (2, .ref a), (3, .ref o), (4, .int (nI i))] [] (nx, h) k n) : AW G m_Law_law 10 61024 8913034 (FLw G L xs) 847 [(0, .ref 1), (1, .ref x), (2, .ref a), (3, .ref o), (4, .int (nI i))] [] (nx, h) k n := by
  obtain ⟨B, hs, ad, A, most, fl, L9, L29, ar, n9, gs, lg, xs9, cap, Am, sc, arm, fo, hc, hm, hq, hv, hlg, ho, hkb⟩ := hls
  have hb := hkb.w hv.1
  have hr := hb.le hj
  have hv9 := hv
  refine aw_aload_n (i := 1) d_Law_law_847 rfl rfl ?_
  apply aw_callv d_Law_law_848 cl_Law_117 (c_LH_lost hc hv.1 ); exact hc.1.1; rfl; rfl; rfl; rfl; decide; exact hr.1; exact hr.2; exact Nat.le_of_ble_eq_true rfl
  rintro _ _ ⟨rfl, n2, h, ad, A, fl, L9, L29, ar, n9, rfl, hc, FR⟩
  have hm := hm.frC FR (fun y h1 h2 => cts_far h1 (by omega))
  have ho := FR _ _ ho (cts_far (y := 120) (by decide) (by decide))
  refine aw_aload_n (i := 2) d_Law_law_851 rfl rfl ?_
  apply aw_callv d_Law_law_852 cl_Law_120 (c_Mod_lost ⟨hm, Fr.rf⟩ hq hv.1 (far_ok hv.1)); exact hm.1; rfl; rfl; rfl; rfl; decide; exact hr.1; exact hr.2; exact Nat.le_of_ble_eq_true rfl
  rintro _ _ ⟨h, sc, arm, rfl, ⟨hm, FM⟩, rfl, _, hq, _⟩
  have hc := hc.frM hv9.1 FM mt_far
  have ho := FM _ _ ho mt_120
  refine aw_icmp_eq d_Law_law_855 (fun _ => ?_) (fun br_ => absurd rfl br_)
  exact kk _ _ _ _ ⟨B, _, ad, A, _, fl, L9, L29, ar, n9, _, _, _, _, Am, sc, arm, fo, hc, hm, hq, hv9, Nat.le_succ_of_le hlg, ho, hb⟩
set_option maxHeartbeats 4000000 in
set_option maxRecDepth 20000 in
theorem ca_must {G : aG} {nx : Nat} {h : Nat → Option aC} {L : Nat} {xs : Nat → Int32} {x a o i j k n : Nat} (hL : L ≤ 2560) (hi : i + 5 ≤ L) (hj : j + 1 ≤ 512) (hls : LSt h x a o j k n) (kk : ∀ (nx : Nat) (h : Nat → Option aC) (k n : Nat), LSt h x a o (j + 1) k n → AW G m_Law_law 10 61024 8913034 (FLw G L xs) 1270 [(0, .ref 1), (1, .ref x), (2, .ref a), (3, .ref o), (4, .int (nI i))] [] (nx, h) k n) : AW G m_Law_law 10 61024 8913034 (FLw G L xs) 860 [(0, .ref 1), (1, .ref x), (2, .ref a), (3, .ref o), (4, .int (nI i))] [] (nx, h) k n := by
  obtain ⟨B, hs, ad, A, most, fl, L9, L29, ar, n9, gs, lg, xs9, cap, Am, sc, arm, fo, hc, hm, hq, hv, hlg, ho, hkb⟩ := hls
  have hb := hkb.b (prOK hs (xs (i + 1)) (xs (i + 2)) && prOK hs (xs (i + 3)) (xs (i + 4))) hv.1
  have hr := hb.le hj
  have hv9 := hv
  refine aw_aload_n (i := 1) d_Law_law_860 rfl rfl ?_
  refine aw_aload_n (i := 0) d_Law_law_861 rfl rfl ?_
  refine aw_iload d_Law_law_862 rfl ?_
  refine aw_iconst (v := nI 1) d_Law_law_864 (by decide) ?_
  refine aw_iaddN d_Law_law_865 ?_
  refine aw_sld d_Law_law_866 (by omega) hL ?_
  refine aw_aload_n (i := 0) d_Law_law_867 rfl rfl ?_
  refine aw_iload d_Law_law_868 rfl ?_
  refine aw_iconst (v := nI 2) d_Law_law_870 (by decide) ?_
  refine aw_iaddN d_Law_law_871 ?_
  refine aw_sld d_Law_law_872 (by omega) hL ?_
  refine aw_aload_n (i := 0) d_Law_law_873 rfl rfl ?_
  refine aw_iload d_Law_law_874 rfl ?_
  refine aw_iconst (v := nI 3) d_Law_law_876 (by decide) ?_
  refine aw_iaddN d_Law_law_877 ?_
  refine aw_sld d_Law_law_878 (by omega) hL ?_
  refine aw_aload_n (i := 0) d_Law_law_879 rfl rfl ?_
  refine aw_iload d_Law_law_880 rfl ?_
  refine aw_iconst (v := nI 4) d_Law_law_882 (by decide) ?_
  refine aw_iaddN d_Law_law_883 ?_
  refine aw_sld d_Law_law_884 (by omega) hL ?_
  apply aw_callv d_Law_law_885 cl_Law_121 (c_LH_must hc hv.1 (xs (i + 1)) (xs (i + 2)) (xs (i + 3)) (xs (i + 4))); exact hc.1.1; rfl; rfl; rfl; rfl; decide; exact hr.1; exact hr.2; exact Nat.le_of_ble_eq_true rfl
  rintro _ _ ⟨rfl, n2, h, ad, A, fl, L9, L29, ar, n9, rfl, hc, FR⟩
  have hm := hm.frC FR (fun y h1 h2 => cts_far h1 (by omega))
  have ho := FR _ _ ho (cts_far (y := 120) (by decide) (by decide))
  refine aw_aload_n (i := 2) d_Law_law_888 rfl rfl ?_
  refine aw_aload_n (i := 0) d_Law_law_889 rfl rfl ?_
  refine aw_iload d_Law_law_890 rfl ?_
  refine aw_iconst (v := nI 1) d_Law_law_892 (by decide) ?_
  refine aw_iaddN d_Law_law_893 ?_
  refine aw_sld d_Law_law_894 (by omega) hL ?_
  refine aw_aload_n (i := 0) d_Law_law_895 rfl rfl ?_
  refine aw_iload d_Law_law_896 rfl ?_
  refine aw_iconst (v := nI 2) d_Law_law_898 (by decide) ?_
  refine aw_iaddN d_Law_law_899 ?_
  refine aw_sld d_Law_law_900 (by omega) hL ?_
  refine aw_aload_n (i := 0) d_Law_law_901 rfl rfl ?_
  refine aw_iload d_Law_law_902 rfl ?_
  refine aw_iconst (v := nI 3) d_Law_law_904 (by decide) ?_
  refine aw_iaddN d_Law_law_905 ?_
  refine aw_sld d_Law_law_906 (by omega) hL ?_
  refine aw_aload_n (i := 0) d_Law_law_907 rfl rfl ?_
  refine aw_iload d_Law_law_908 rfl ?_
  refine aw_iconst (v := nI 4) d_Law_law_910 (by decide) ?_
  refine aw_iaddN d_Law_law_911 ?_
  refine aw_sld d_Law_law_912 (by omega) hL ?_
  apply aw_callv d_Law_law_913 cl_Law_124 (c_Mod_must ⟨hm, Fr.rf⟩ hq hv.1 (xs (i + 1)) (xs (i + 2)) (xs (i + 3)) (xs (i + 4))); exact hm.1; rfl; rfl; rfl; rfl; decide; exact hr.1; exact hr.2; exact Nat.le_of_ble_eq_true rfl
  rintro _ _ ⟨h, sc, arm, rfl, ⟨hm, FM⟩, rfl, _, hq⟩
  have hc := hc.frM hv9.1 FM mt_far
  have ho := FM _ _ ho mt_120
  refine aw_icmp_eq d_Law_law_916 (fun _ => ?_) (fun br_ => absurd rfl br_)
  exact kk _ _ _ _ ⟨B, _, ad, A, _, fl, L9, L29, ar, n9, _, _, _, _, Am, sc, arm, fo, hc, hm, hq, hv9, Nat.le_succ_of_le hlg, ho, hb⟩
set_option maxHeartbeats 4000000 in
set_option maxRecDepth 20000 in
theorem ca_idle {G : aG} {nx : Nat} {h : Nat → Option aC} {L : Nat} {xs : Nat → Int32} {x a o i j k n : Nat} (hL : L ≤ 2560) (hi : i + 5 ≤ L) (hj : j + 1 ≤ 512) (hls : LSt h x a o j k n) (kk : ∀ (nx : Nat) (h : Nat → Option aC) (k n : Nat), LSt h x a o (j + 1) k n → AW G m_Law_law 10 61024 8913034 (FLw G L xs) 1270 [(0, .ref 1), (1, .ref x), (2, .ref a), (3, .ref o), (4, .int (nI i))] [] (nx, h) k n) : AW G m_Law_law 10 61024 8913034 (FLw G L xs) 921 [(0, .ref 1), (1, .ref x), (2, .ref a), (3, .ref o), (4, .int (nI i))] [] (nx, h) k n := by
  obtain ⟨B, hs, ad, A, most, fl, L9, L29, ar, n9, gs, lg, xs9, cap, Am, sc, arm, fo, hc, hm, hq, hv, hlg, ho, hkb⟩ := hls
  have hb := hkb.w hv.1
  have hr := hb.le hj
  have hv9 := hv
  refine aw_aload_n (i := 1) d_Law_law_921 rfl rfl ?_
  apply aw_callv d_Law_law_922 cl_Law_125 (c_LH_idle hc hv.1 hkb.cap); exact hc.1.1; rfl; rfl; rfl; rfl; decide; exact hr.1; exact hr.2; exact Nat.le_of_ble_eq_true rfl
  rintro _ _ ⟨rfl, n2, h, ad, A, fl, L9, L29, ar, n9, rfl, hc, FR⟩
  have hm := hm.frC FR (fun y h1 h2 => cts_far h1 (by omega))
  have ho := FR _ _ ho (cts_far (y := 120) (by decide) (by decide))
  refine aw_aload_n (i := 2) d_Law_law_925 rfl rfl ?_
  apply aw_callv d_Law_law_926 cl_Law_128 (c_Mod_idle ⟨hm, Fr.rf⟩ hq hv.1 ); exact hm.1; rfl; rfl; rfl; rfl; decide; exact hr.1; exact hr.2; exact Nat.le_of_ble_eq_true rfl
  rintro _ _ ⟨h, sc, arm, rfl, ⟨hm, FM⟩, rfl, _, hq⟩
  have hc := hc.frM hv9.1 FM mt_far
  have ho := FM _ _ ho mt_120
  refine aw_icmp_eq d_Law_law_929 (fun _ => ?_) (fun br_ => absurd rfl br_)
  exact kk _ _ _ _ ⟨B, _, ad, A, _, fl, L9, L29, ar, n9, _, _, _, _, Am, sc, arm, fo, hc, hm, hq, hv9, Nat.le_succ_of_le hlg, ho, hb⟩
set_option maxHeartbeats 4000000 in
set_option maxRecDepth 20000 in
theorem ca_reading {G : aG} {nx : Nat} {h : Nat → Option aC} {L : Nat} {xs : Nat → Int32} {x a o i j k n : Nat} (hL : L ≤ 2560) (hi : i + 5 ≤ L) (hj : j + 1 ≤ 512) (hls : LSt h x a o j k n) (kk : ∀ (nx : Nat) (h : Nat → Option aC) (k n : Nat), LSt h x a o (j + 1) k n → AW G m_Law_law 10 61024 8913034 (FLw G L xs) 1270 [(0, .ref 1), (1, .ref x), (2, .ref a), (3, .ref o), (4, .int (nI i))] [] (nx, h) k n) : AW G m_Law_law 10 61024 8913034 (FLw G L xs) 934 [(0, .ref 1), (1, .ref x), (2, .ref a), (3, .ref o), (4, .int (nI i))] [] (nx, h) k n := by
  obtain ⟨B, hs, ad, A, most, fl, L9, L29, ar, n9, gs, lg, xs9, cap, Am, sc, arm, fo, hc, hm, hq, hv, hlg, ho, hkb⟩ := hls
  have hb := hkb.c 0 0 (by decide) (by decide)
  have hr := hb.le hj
  have hv9 := vv_D hv (xs (i + 1)) (xs (i + 2))
  refine aw_aload_n (i := 1) d_Law_law_934 rfl rfl ?_
  refine aw_aload_n (i := 0) d_Law_law_935 rfl rfl ?_
  refine aw_iload d_Law_law_936 rfl ?_
  refine aw_iconst (v := nI 1) d_Law_law_938 (by decide) ?_
  refine aw_iaddN d_Law_law_939 ?_
  refine aw_sld d_Law_law_940 (by omega) hL ?_
  refine aw_aload_n (i := 0) d_Law_law_941 rfl rfl ?_
  refine aw_iload d_Law_law_942 rfl ?_
  refine aw_iconst (v := nI 2) d_Law_law_944 (by decide) ?_
  refine aw_iaddN d_Law_law_945 ?_
  refine aw_sld d_Law_law_946 (by omega) hL ?_
  apply aw_callv d_Law_law_947 cl_Law_129 (c_LH_reading hc hv.1 (xs (i + 1)) (xs (i + 2))); exact hc.1.1; rfl; rfl; rfl; rfl; decide; exact hr.1; exact hr.2; exact Nat.le_of_ble_eq_true rfl
  rintro _ _ ⟨rfl, n2, h, ad, A, fl, L9, L29, ar, n9, rfl, hc, FR⟩
  have hm := hm.frC FR (fun y h1 h2 => cts_far h1 (by omega))
  have ho := FR _ _ ho (cts_far (y := 120) (by decide) (by decide))
  refine aw_aload_n (i := 2) d_Law_law_950 rfl rfl ?_
  refine aw_aload_n (i := 0) d_Law_law_951 rfl rfl ?_
  refine aw_iload d_Law_law_952 rfl ?_
  refine aw_iconst (v := nI 1) d_Law_law_954 (by decide) ?_
  refine aw_iaddN d_Law_law_955 ?_
  refine aw_sld d_Law_law_956 (by omega) hL ?_
  refine aw_aload_n (i := 0) d_Law_law_957 rfl rfl ?_
  refine aw_iload d_Law_law_958 rfl ?_
  refine aw_iconst (v := nI 2) d_Law_law_960 (by decide) ?_
  refine aw_iaddN d_Law_law_961 ?_
  refine aw_sld d_Law_law_962 (by omega) hL ?_
  apply aw_callv d_Law_law_963 cl_Law_132 (c_Mod_reading ⟨hm, Fr.rf⟩ hq hv.1 (xs (i + 1)) (xs (i + 2))); exact hm.1; rfl; rfl; rfl; rfl; decide; exact hr.1; exact hr.2; exact Nat.le_of_ble_eq_true rfl
  rintro _ _ ⟨h, sc, arm, rfl, ⟨hm, FM⟩, rfl, _, hq⟩
  have hc := hc.frM hv9.1 FM mt_far
  have ho := FM _ _ ho mt_120
  refine aw_icmp_eq d_Law_law_966 (fun _ => ?_) (fun br_ => absurd rfl br_)
  exact kk _ _ _ _ ⟨B, _, ad, A, _, fl, L9, L29, ar, n9, _, _, _, _, Am, sc, arm, fo, hc, hm, hq, hv9, Nat.le_succ_of_le hlg, ho, hb⟩
set_option maxHeartbeats 4000000 in
set_option maxRecDepth 20000 in
theorem ca_liars {G : aG} {nx : Nat} {h : Nat → Option aC} {L : Nat} {xs : Nat → Int32} {x a o i j k n : Nat} (hL : L ≤ 2560) (hi : i + 5 ≤ L) (hj : j + 1 ≤ 512) (hls : LSt h x a o j k n) (kk : ∀ (nx : Nat) (h : Nat → Option aC) (k n : Nat), LSt h x a o (j + 1) k n → AW G m_Law_law 10 61024 8913034 (FLw G L xs) 1270 [(0, .ref 1), (1, .ref x), (2, .ref a), (3, .ref o), (4, .int (nI i))] [] (nx, h) k n) : AW G m_Law_law 10 61024 8913034 (FLw G L xs) 971 [(0, .ref 1), (1, .ref x), (2, .ref a), (3, .ref o), (4, .int (nI i))] [] (nx, h) k n := by
  obtain ⟨B, hs, ad, A, most, fl, L9, L29, ar, n9, gs, lg, xs9, cap, Am, sc, arm, fo, hc, hm, hq, hv, hlg, ho, hkb⟩ := hls
  have hb := hkb.w hv.1
  have hr := hb.le hj
  have hv9 := hv
  refine aw_aload_n (i := 1) d_Law_law_971 rfl rfl ?_
  apply aw_callv d_Law_law_972 cl_Law_133 (c_LH_liars hc hv.1 hkb.cap); exact hc.1.1; rfl; rfl; rfl; rfl; decide; exact hr.1; exact hr.2; exact Nat.le_of_ble_eq_true rfl
  rintro _ _ ⟨rfl, n2, h, ad, A, fl, L9, L29, ar, n9, rfl, hc, FR⟩
  have hm := hm.frC FR (fun y h1 h2 => cts_far h1 (by omega))
  have ho := FR _ _ ho (cts_far (y := 120) (by decide) (by decide))
  refine aw_aload_n (i := 2) d_Law_law_975 rfl rfl ?_
  apply aw_callv d_Law_law_976 cl_Law_136 (c_Mod_liars ⟨hm, Fr.rf⟩ hq hv.1 hv.2.1); exact hm.1; rfl; rfl; rfl; rfl; decide; exact hr.1; exact hr.2; exact Nat.le_of_ble_eq_true rfl
  rintro _ _ ⟨h, sc, arm, rfl, ⟨hm, FM⟩, rfl, _, hq⟩
  have hc := hc.frM hv9.1 FM mt_far
  have ho := FM _ _ ho mt_120
  refine aw_icmp_eq d_Law_law_979 (fun _ => ?_) (fun br_ => absurd rfl br_)
  exact kk _ _ _ _ ⟨B, _, ad, A, _, fl, L9, L29, ar, n9, _, _, _, _, Am, sc, arm, fo, hc, hm, hq, hv9, Nat.le_succ_of_le hlg, ho, hb⟩
set_option maxHeartbeats 4000000 in
set_option maxRecDepth 20000 in
theorem ca_back {G : aG} {nx : Nat} {h : Nat → Option aC} {L : Nat} {xs : Nat → Int32} {x a o i j k n : Nat} (hL : L ≤ 2560) (hi : i + 5 ≤ L) (hj : j + 1 ≤ 512) (hls : LSt h x a o j k n) (kk : ∀ (nx : Nat) (h : Nat → Option aC) (k n : Nat), LSt h x a o (j + 1) k n → AW G m_Law_law 10 61024 8913034 (FLw G L xs) 1270 [(0, .ref 1), (1, .ref x), (2, .ref a), (3, .ref o), (4, .int (nI i))] [] (nx, h) k n) : AW G m_Law_law 10 61024 8913034 (FLw G L xs) 984 [(0, .ref 1), (1, .ref x), (2, .ref a), (3, .ref o), (4, .int (nI i))] [] (nx, h) k n := by
  obtain ⟨B, hs, ad, A, most, fl, L9, L29, ar, n9, gs, lg, xs9, cap, Am, sc, arm, fo, hc, hm, hq, hv, hlg, ho, hkb⟩ := hls
  have hb := hkb.c 0 0 (by decide) (by decide)
  have hr := hb.le hj
  have hv9 := hv
  refine aw_aload_n (i := 1) d_Law_law_984 rfl rfl ?_
  refine aw_aload_n (i := 0) d_Law_law_985 rfl rfl ?_
  refine aw_iload d_Law_law_986 rfl ?_
  refine aw_iconst (v := nI 1) d_Law_law_988 (by decide) ?_
  refine aw_iaddN d_Law_law_989 ?_
  refine aw_sld d_Law_law_990 (by omega) hL ?_
  apply aw_callv d_Law_law_991 cl_Law_137 (c_LH_back hc hv.1 hkb.cap hv.2.1 (xs (i + 1))); exact hc.1.1; rfl; rfl; rfl; rfl; decide; exact hr.1; exact hr.2; exact Nat.le_of_ble_eq_true rfl
  rintro _ _ ⟨rfl, n2, h, ad, A, fl, L9, L29, ar, n9, rfl, hc, FR⟩
  have hm := hm.frC FR (fun y h1 h2 => cts_far h1 (by omega))
  have ho := FR _ _ ho (cts_far (y := 120) (by decide) (by decide))
  refine aw_aload_n (i := 2) d_Law_law_994 rfl rfl ?_
  refine aw_aload_n (i := 0) d_Law_law_995 rfl rfl ?_
  refine aw_iload d_Law_law_996 rfl ?_
  refine aw_iconst (v := nI 1) d_Law_law_998 (by decide) ?_
  refine aw_iaddN d_Law_law_999 ?_
  refine aw_sld d_Law_law_1000 (by omega) hL ?_
  apply aw_callv d_Law_law_1001 cl_Law_140 (c_Mod_back ⟨hm, Fr.rf⟩ hq hv.1 hv.2.1 (xs (i + 1))); exact hm.1; rfl; rfl; rfl; rfl; decide; exact hr.1; exact hr.2; exact Nat.le_of_ble_eq_true rfl
  rintro _ _ ⟨h, sc, arm, rfl, ⟨hm, FM⟩, rfl, _, hq⟩
  have hc := hc.frM hv9.1 FM mt_far
  have ho := FM _ _ ho mt_120
  refine aw_icmp_eq d_Law_law_1004 (fun _ => ?_) (fun br_ => absurd rfl br_)
  exact kk _ _ _ _ ⟨B, _, ad, A, _, fl, L9, L29, ar, n9, _, _, _, _, Am, sc, arm, fo, hc, hm, hq, hv9, Nat.le_succ_of_le hlg, ho, hb⟩
set_option maxHeartbeats 4000000 in
set_option maxRecDepth 20000 in
theorem ca_enter {G : aG} {nx : Nat} {h : Nat → Option aC} {L : Nat} {xs : Nat → Int32} {x a o i j k n : Nat} (hL : L ≤ 2560) (hi : i + 5 ≤ L) (hj : j + 1 ≤ 512) (hls : LSt h x a o j k n) (kk : ∀ (nx : Nat) (h : Nat → Option aC) (k n : Nat), LSt h x a o (j + 1) k n → AW G m_Law_law 10 61024 8913034 (FLw G L xs) 1270 [(0, .ref 1), (1, .ref x), (2, .ref a), (3, .ref o), (4, .int (nI i))] [] (nx, h) k n) : AW G m_Law_law 10 61024 8913034 (FLw G L xs) 1009 [(0, .ref 1), (1, .ref x), (2, .ref a), (3, .ref o), (4, .int (nI i))] [] (nx, h) k n := by
  obtain ⟨B, hs, ad, A, most, fl, L9, L29, ar, n9, gs, lg, xs9, cap, Am, sc, arm, fo, hc, hm, hq, hv, hlg, ho, hkb⟩ := hls
  have hb := hkb.c 0 0 (by decide) (by decide)
  have hr := hb.le hj
  have hv9 := vv_I hv (xs (i + 1))
  refine aw_aload_n (i := 1) d_Law_law_1009 rfl rfl ?_
  refine aw_aload_n (i := 0) d_Law_law_1010 rfl rfl ?_
  refine aw_iload d_Law_law_1011 rfl ?_
  refine aw_iconst (v := nI 1) d_Law_law_1013 (by decide) ?_
  refine aw_iaddN d_Law_law_1014 ?_
  refine aw_sld d_Law_law_1015 (by omega) hL ?_
  apply aw_callv d_Law_law_1016 cl_Law_141 (c_LH_enter hc hv.1 hv.2.2.1 (xs (i + 1))); exact hc.1.1; rfl; rfl; rfl; rfl; decide; exact hr.1; exact hr.2; exact Nat.le_of_ble_eq_true rfl
  rintro _ _ ⟨rfl, n2, h, ad, A, fl, L9, L29, ar, n9, rfl, hc, FR⟩
  have hm := hm.frC FR (fun y h1 h2 => cts_far h1 (by omega))
  have ho := FR _ _ ho (cts_far (y := 120) (by decide) (by decide))
  refine aw_aload_n (i := 2) d_Law_law_1019 rfl rfl ?_
  refine aw_aload_n (i := 0) d_Law_law_1020 rfl rfl ?_
  refine aw_iload d_Law_law_1021 rfl ?_
  refine aw_iconst (v := nI 1) d_Law_law_1023 (by decide) ?_
  refine aw_iaddN d_Law_law_1024 ?_
  refine aw_sld d_Law_law_1025 (by omega) hL ?_
  apply aw_callv d_Law_law_1026 cl_Law_144 (c_Mod_enter ⟨hm, Fr.rf⟩ hq hv.1 (xs (i + 1))); exact hm.1; rfl; rfl; rfl; rfl; decide; exact hr.1; exact hr.2; exact Nat.le_of_ble_eq_true rfl
  rintro _ _ ⟨h, sc, arm, rfl, ⟨hm, FM⟩, rfl, _, hq⟩
  have hc := hc.frM hv9.1 FM mt_far
  have ho := FM _ _ ho mt_120
  refine aw_icmp_eq d_Law_law_1029 (fun _ => ?_) (fun br_ => absurd rfl br_)
  exact kk _ _ _ _ ⟨B, _, ad, A, _, fl, L9, L29, ar, n9, _, _, _, _, Am, sc, arm, fo, hc, hm, hq, hv9, Nat.le_succ_of_le hlg, ho, hb⟩
set_option maxHeartbeats 4000000 in
set_option maxRecDepth 20000 in
theorem ca_act {G : aG} {nx : Nat} {h : Nat → Option aC} {L : Nat} {xs : Nat → Int32} {x a o i j k n : Nat} (hL : L ≤ 2560) (hi : i + 5 ≤ L) (hj : j + 1 ≤ 512) (hls : LSt h x a o j k n) (kk : ∀ (nx : Nat) (h : Nat → Option aC) (k n : Nat), LSt h x a o (j + 1) k n → AW G m_Law_law 10 61024 8913034 (FLw G L xs) 1270 [(0, .ref 1), (1, .ref x), (2, .ref a), (3, .ref o), (4, .int (nI i))] [] (nx, h) k n) : AW G m_Law_law 10 61024 8913034 (FLw G L xs) 1034 [(0, .ref 1), (1, .ref x), (2, .ref a), (3, .ref o), (4, .int (nI i))] [] (nx, h) k n := by
  obtain ⟨B, hs, ad, A, most, fl, L9, L29, ar, n9, gs, lg, xs9, cap, Am, sc, arm, fo, hc, hm, hq, hv, hlg, ho, hkb⟩ := hls
  have hb := hkb.c 0 0 (by decide) (by decide)
  have hr := hb.le hj
  have hv9 := vv_A hv (xs (i + 1)) (xs (i + 2))
  refine aw_aload_n (i := 1) d_Law_law_1034 rfl rfl ?_
  refine aw_aload_n (i := 0) d_Law_law_1035 rfl rfl ?_
  refine aw_iload d_Law_law_1036 rfl ?_
  refine aw_iconst (v := nI 1) d_Law_law_1038 (by decide) ?_
  refine aw_iaddN d_Law_law_1039 ?_
  refine aw_sld d_Law_law_1040 (by omega) hL ?_
  refine aw_aload_n (i := 0) d_Law_law_1041 rfl rfl ?_
  refine aw_iload d_Law_law_1042 rfl ?_
  refine aw_iconst (v := nI 2) d_Law_law_1044 (by decide) ?_
  refine aw_iaddN d_Law_law_1045 ?_
  refine aw_sld d_Law_law_1046 (by omega) hL ?_
  apply aw_callv d_Law_law_1047 cl_Law_145 (c_LH_act hc hv.1 hv.2.2.1 hv.2.2 (by omega) (xs (i + 1)) (xs (i + 2))); exact hc.1.1; rfl; rfl; rfl; rfl; decide; exact hr.1; exact hr.2; exact Nat.le_of_ble_eq_true rfl
  rintro _ _ ⟨rfl, n2, h, ad, A, fl, L9, L29, ar, n9, rfl, hc, FR⟩
  have hm := hm.frC FR (fun y h1 h2 => cts_far h1 (by omega))
  have ho := FR _ _ ho (cts_far (y := 120) (by decide) (by decide))
  refine aw_aload_n (i := 2) d_Law_law_1050 rfl rfl ?_
  refine aw_aload_n (i := 0) d_Law_law_1051 rfl rfl ?_
  refine aw_iload d_Law_law_1052 rfl ?_
  refine aw_iconst (v := nI 1) d_Law_law_1054 (by decide) ?_
  refine aw_iaddN d_Law_law_1055 ?_
  refine aw_sld d_Law_law_1056 (by omega) hL ?_
  refine aw_aload_n (i := 0) d_Law_law_1057 rfl rfl ?_
  refine aw_iload d_Law_law_1058 rfl ?_
  refine aw_iconst (v := nI 2) d_Law_law_1060 (by decide) ?_
  refine aw_iaddN d_Law_law_1061 ?_
  refine aw_sld d_Law_law_1062 (by omega) hL ?_
  apply aw_callv d_Law_law_1063 cl_Law_148 (c_Mod_act ⟨hm, Fr.rf⟩ hq hv.1 hv.2.2 (by omega) (xs (i + 1)) (xs (i + 2))); exact hm.1; rfl; rfl; rfl; rfl; decide; exact hr.1; exact hr.2; exact Nat.le_of_ble_eq_true rfl
  rintro _ _ ⟨h, sc, arm, rfl, ⟨hm, FM⟩, rfl, _, hq⟩
  have hc := hc.frM hv9.1 FM mt_far
  have ho := FM _ _ ho mt_120
  refine aw_icmp_eq d_Law_law_1066 (fun _ => ?_) (fun br_ => absurd rfl br_)
  exact kk _ _ _ _ ⟨B, _, ad, A, _, fl, L9, L29, ar, n9, _, _, _, _, Am, sc, arm, fo, hc, hm, hq, hv9, lg_A hlg _ _, ho, hb⟩
set_option maxHeartbeats 4000000 in
set_option maxRecDepth 20000 in
theorem ca_leave {G : aG} {nx : Nat} {h : Nat → Option aC} {L : Nat} {xs : Nat → Int32} {x a o i j k n : Nat} (hL : L ≤ 2560) (hi : i + 5 ≤ L) (hj : j + 1 ≤ 512) (hls : LSt h x a o j k n) (kk : ∀ (nx : Nat) (h : Nat → Option aC) (k n : Nat), LSt h x a o (j + 1) k n → AW G m_Law_law 10 61024 8913034 (FLw G L xs) 1270 [(0, .ref 1), (1, .ref x), (2, .ref a), (3, .ref o), (4, .int (nI i))] [] (nx, h) k n) : AW G m_Law_law 10 61024 8913034 (FLw G L xs) 1139 [(0, .ref 1), (1, .ref x), (2, .ref a), (3, .ref o), (4, .int (nI i))] [] (nx, h) k n := by
  obtain ⟨B, hs, ad, A, most, fl, L9, L29, ar, n9, gs, lg, xs9, cap, Am, sc, arm, fo, hc, hm, hq, hv, hlg, ho, hkb⟩ := hls
  have hb := hkb.c 0 0 (by decide) (by decide)
  have hr := hb.le hj
  have hv9 := vv_L hv (xs (i + 1))
  refine aw_aload_n (i := 1) d_Law_law_1139 rfl rfl ?_
  refine aw_aload_n (i := 0) d_Law_law_1140 rfl rfl ?_
  refine aw_iload d_Law_law_1141 rfl ?_
  refine aw_iconst (v := nI 1) d_Law_law_1143 (by decide) ?_
  refine aw_iaddN d_Law_law_1144 ?_
  refine aw_sld d_Law_law_1145 (by omega) hL ?_
  apply aw_callv d_Law_law_1146 cl_Law_153 (c_LH_leave hc hv.1 hv.2.2.1 (xs (i + 1))); exact hc.1.1; rfl; rfl; rfl; rfl; decide; exact hr.1; exact hr.2; exact Nat.le_of_ble_eq_true rfl
  rintro _ _ ⟨rfl, n2, h, ad, A, fl, L9, L29, ar, n9, rfl, hc, FR⟩
  have hm := hm.frC FR (fun y h1 h2 => cts_far h1 (by omega))
  have ho := FR _ _ ho (cts_far (y := 120) (by decide) (by decide))
  refine aw_aload_n (i := 2) d_Law_law_1149 rfl rfl ?_
  refine aw_aload_n (i := 0) d_Law_law_1150 rfl rfl ?_
  refine aw_iload d_Law_law_1151 rfl ?_
  refine aw_iconst (v := nI 1) d_Law_law_1153 (by decide) ?_
  refine aw_iaddN d_Law_law_1154 ?_
  refine aw_sld d_Law_law_1155 (by omega) hL ?_
  apply aw_callv d_Law_law_1156 cl_Law_156 (c_Mod_leave ⟨hm, Fr.rf⟩ hq hv.1 (xs (i + 1))); exact hm.1; rfl; rfl; rfl; rfl; decide; exact hr.1; exact hr.2; exact Nat.le_of_ble_eq_true rfl
  rintro _ _ ⟨h, sc, arm, rfl, ⟨hm, FM⟩, rfl, _, hq⟩
  have hc := hc.frM hv9.1 FM mt_far
  have ho := FM _ _ ho mt_120
  refine aw_icmp_eq d_Law_law_1159 (fun _ => ?_) (fun br_ => absurd rfl br_)
  exact kk _ _ _ _ ⟨B, _, ad, A, _, fl, L9, L29, ar, n9, _, _, _, _, Am, sc, arm, fo, hc, hm, hq, hv9, Nat.le_succ_of_le hlg, ho, hb⟩
set_option maxHeartbeats 4000000 in
set_option maxRecDepth 20000 in
theorem ca_alarm {G : aG} {nx : Nat} {h : Nat → Option aC} {L : Nat} {xs : Nat → Int32} {x a o i j k n : Nat} (hL : L ≤ 2560) (hi : i + 5 ≤ L) (hj : j + 1 ≤ 512) (hls : LSt h x a o j k n) (kk : ∀ (nx : Nat) (h : Nat → Option aC) (k n : Nat), LSt h x a o (j + 1) k n → AW G m_Law_law 10 61024 8913034 (FLw G L xs) 1270 [(0, .ref 1), (1, .ref x), (2, .ref a), (3, .ref o), (4, .int (nI i))] [] (nx, h) k n) : AW G m_Law_law 10 61024 8913034 (FLw G L xs) 1164 [(0, .ref 1), (1, .ref x), (2, .ref a), (3, .ref o), (4, .int (nI i))] [] (nx, h) k n := by
  obtain ⟨B, hs, ad, A, most, fl, L9, L29, ar, n9, gs, lg, xs9, cap, Am, sc, arm, fo, hc, hm, hq, hv, hlg, ho, hkb⟩ := hls
  have hb := hkb.c 0 0 (by decide) (by decide)
  have hr := hb.le hj
  have hv9 := vv_C hv
  refine aw_aload_n (i := 1) d_Law_law_1164 rfl rfl ?_
  apply aw_callv d_Law_law_1165 cl_Law_157 (c_LH_alarm hc hv.1 hkb.cap hv.2.1 hv.2.2); exact hc.1.1; rfl; rfl; rfl; rfl; decide; exact hr.1; exact hr.2; exact Nat.le_of_ble_eq_true rfl
  rintro _ _ ⟨rfl, n2, h, ad, A, fl, L9, L29, ar, n9, rfl, hc, FR⟩
  have hm := hm.frC FR (fun y h1 h2 => cts_far h1 (by omega))
  have ho := FR _ _ ho (cts_far (y := 120) (by decide) (by decide))
  refine aw_aload_n (i := 2) d_Law_law_1168 rfl rfl ?_
  apply aw_callv d_Law_law_1169 cl_Law_160 (c_Mod_alarm ⟨hm, Fr.rf⟩ hq hv.1 hv.2.1 hv.2.2); exact hm.1; rfl; rfl; rfl; rfl; decide; exact hr.1; exact hr.2; exact Nat.le_of_ble_eq_true rfl
  rintro _ _ ⟨h, sc, arm, rfl, ⟨hm, FM⟩, rfl, _, hq⟩
  have hc := hc.frM hv9.1 FM mt_far
  have ho := FM _ _ ho mt_120
  refine aw_icmp_eq d_Law_law_1172 (fun _ => ?_) (fun br_ => absurd rfl br_)
  exact kk _ _ _ _ ⟨B, _, ad, A, _, fl, L9, L29, ar, n9, _, _, _, _, Am, sc, arm, fo, hc, hm, hq, hv9, Nat.le_succ_of_le hlg, ho, hb⟩
set_option maxHeartbeats 4000000 in
set_option maxRecDepth 20000 in
theorem ca_log {G : aG} {nx : Nat} {h : Nat → Option aC} {L : Nat} {xs : Nat → Int32} {x a o i j k n : Nat} (hL : L ≤ 2560) (hi : i + 5 ≤ L) (hj : j + 1 ≤ 512) (hls : LSt h x a o j k n) (kk : ∀ (nx : Nat) (h : Nat → Option aC) (k n : Nat), LSt h x a o (j + 1) k n → AW G m_Law_law 10 61024 8913034 (FLw G L xs) 1270 [(0, .ref 1), (1, .ref x), (2, .ref a), (3, .ref o), (4, .int (nI i))] [] (nx, h) k n) : AW G m_Law_law 10 61024 8913034 (FLw G L xs) 1177 [(0, .ref 1), (1, .ref x), (2, .ref a), (3, .ref o), (4, .int (nI i))] [] (nx, h) k n := by
  obtain ⟨B, hs, ad, A, most, fl, L9, L29, ar, n9, gs, lg, xs9, cap, Am, sc, arm, fo, hc, hm, hq, hv, hlg, ho, hkb⟩ := hls
  have hb := hkb.c 0 0 (by decide) (by decide)
  have hr := hb.le hj
  have hv9 := hv
  refine aw_aload_n (i := 1) d_Law_law_1177 rfl rfl ?_
  refine aw_aload_n (i := 0) d_Law_law_1178 rfl rfl ?_
  refine aw_iload d_Law_law_1179 rfl ?_
  refine aw_iconst (v := nI 1) d_Law_law_1181 (by decide) ?_
  refine aw_iaddN d_Law_law_1182 ?_
  refine aw_sld d_Law_law_1183 (by omega) hL ?_
  refine aw_aload_n (i := 0) d_Law_law_1184 rfl rfl ?_
  refine aw_iload d_Law_law_1185 rfl ?_
  refine aw_iconst (v := nI 2) d_Law_law_1187 (by decide) ?_
  refine aw_iaddN d_Law_law_1188 ?_
  refine aw_sld d_Law_law_1189 (by omega) hL ?_
  apply aw_callv d_Law_law_1190 cl_Law_161 (c_LH_log hc hv.1 (by omega) (xs (i + 1)) (xs (i + 2))); exact hc.1.1; rfl; rfl; rfl; rfl; decide; exact hr.1; exact hr.2; exact Nat.le_of_ble_eq_true rfl
  rintro _ _ ⟨rfl, n2, h, ad, A, fl, L9, L29, ar, n9, rfl, hc, FR⟩
  have hm := hm.frC FR (fun y h1 h2 => cts_far h1 (by omega))
  have ho := FR _ _ ho (cts_far (y := 120) (by decide) (by decide))
  refine aw_aload_n (i := 2) d_Law_law_1193 rfl rfl ?_
  refine aw_aload_n (i := 0) d_Law_law_1194 rfl rfl ?_
  refine aw_iload d_Law_law_1195 rfl ?_
  refine aw_iconst (v := nI 1) d_Law_law_1197 (by decide) ?_
  refine aw_iaddN d_Law_law_1198 ?_
  refine aw_sld d_Law_law_1199 (by omega) hL ?_
  refine aw_aload_n (i := 0) d_Law_law_1200 rfl rfl ?_
  refine aw_iload d_Law_law_1201 rfl ?_
  refine aw_iconst (v := nI 2) d_Law_law_1203 (by decide) ?_
  refine aw_iaddN d_Law_law_1204 ?_
  refine aw_sld d_Law_law_1205 (by omega) hL ?_
  apply aw_callv d_Law_law_1206 cl_Law_164 (c_Mod_log ⟨hm, Fr.rf⟩ hq hv.1 (xs (i + 1)) (xs (i + 2))); exact hm.1; rfl; rfl; rfl; rfl; decide; exact hr.1; exact hr.2; exact Nat.le_of_ble_eq_true rfl
  rintro _ _ ⟨h, sc, arm, rfl, ⟨hm, FM⟩, rfl, _, hq⟩
  have hc := hc.frM hv9.1 FM mt_far
  have ho := FM _ _ ho mt_120
  refine aw_icmp_eq d_Law_law_1209 (fun _ => ?_) (fun br_ => absurd rfl br_)
  exact kk _ _ _ _ ⟨B, _, ad, A, _, fl, L9, L29, ar, n9, _, _, _, _, Am, sc, arm, fo, hc, hm, hq, hv9, Nat.le_succ_of_le hlg, ho, hb⟩
set_option maxHeartbeats 4000000 in
set_option maxRecDepth 20000 in
theorem ca_part {G : aG} {nx : Nat} {h : Nat → Option aC} {L : Nat} {xs : Nat → Int32} {x a o i j k n : Nat} (hL : L ≤ 2560) (hi : i + 5 ≤ L) (hj : j + 1 ≤ 512) (hls : LSt h x a o j k n) (kk : ∀ (nx : Nat) (h : Nat → Option aC) (k n : Nat), LSt h x a o (j + 1) k n → AW G m_Law_law 10 61024 8913034 (FLw G L xs) 1270 [(0, .ref 1), (1, .ref x), (2, .ref a), (3, .ref o), (4, .int (nI i))] [] (nx, h) k n) : AW G m_Law_law 10 61024 8913034 (FLw G L xs) 604 [(0, .ref 1), (1, .ref x), (2, .ref a), (3, .ref o), (4, .int (nI i))] [] (nx, h) k n := by
  obtain ⟨B, hs, ad, A, most, fl, L9, L29, ar, n9, gs, lg, xs9, cap, Am, sc, arm, fo, hc, hm, hq, hv, hlg, ho, hkb⟩ := hls
  have hb := hkb.c 1 6 (by decide) (by decide)
  have hr := hb.le hj
  refine aw_aload_n (i := 1) d_Law_law_604 rfl rfl ?_
  refine aw_aload_n (i := 0) d_Law_law_605 rfl rfl ?_
  refine aw_iload d_Law_law_606 rfl ?_
  refine aw_iconst (v := nI 1) d_Law_law_608 (by decide) ?_
  refine aw_iaddN d_Law_law_609 ?_
  refine aw_sld d_Law_law_610 (by omega) hL ?_
  refine aw_aload_n (i := 0) d_Law_law_611 rfl rfl ?_
  refine aw_iload d_Law_law_612 rfl ?_
  refine aw_iconst (v := nI 2) d_Law_law_614 (by decide) ?_
  refine aw_iaddN d_Law_law_615 ?_
  refine aw_sld d_Law_law_616 (by omega) hL ?_
  refine aw_aload_n (i := 0) d_Law_law_617 rfl rfl ?_
  refine aw_iload d_Law_law_618 rfl ?_
  refine aw_iconst (v := nI 3) d_Law_law_620 (by decide) ?_
  refine aw_iaddN d_Law_law_621 ?_
  refine aw_sld d_Law_law_622 (by omega) hL ?_
  refine aw_aload_n (i := 3) d_Law_law_623 rfl rfl ?_
  apply aw_callsW (a := 5) (c_Law_part hc hv.1 (xs (i + 1)) (xs (i + 2)) (xs (i + 3)) ho) d_Law_law_624 (gw_t 979 (by decide +kernel) rfl) (gw_t 0 (by decide +kernel) rfl) cw_Law_part (by decide) ⟨by decide, by decide, by decide +kernel⟩ (gw_t 980 (by decide +kernel) rfl); rfl; rfl; decide; exact hr.1; exact hr.2; exact Nat.le_of_ble_eq_true rfl
  rintro _ _ ⟨rfl, n2, h, rfl, FR, fo, ho, hval⟩
  have hm := hm.frC FR (fun y h1 h2 => by simp; omega)
  have hc := hc.frM hv.1 FR (fun y hy => by simp at hy; omega)
  refine aw_istore (lv2 := [(0, _), (1, _), (2, _), (3, _), (4, _), (5, _)]) d_Law_law_627 (by decide) rfl ?_
  refine aw_aload_n (i := 2) d_Law_law_629 rfl rfl ?_
  refine aw_aload_n (i := 0) d_Law_law_630 rfl rfl ?_
  refine aw_iload d_Law_law_631 rfl ?_
  refine aw_iconst (v := nI 1) d_Law_law_633 (by decide) ?_
  refine aw_iaddN d_Law_law_634 ?_
  refine aw_sld d_Law_law_635 (by omega) hL ?_
  refine aw_aload_n (i := 0) d_Law_law_636 rfl rfl ?_
  refine aw_iload d_Law_law_637 rfl ?_
  refine aw_iconst (v := nI 2) d_Law_law_639 (by decide) ?_
  refine aw_iaddN d_Law_law_640 ?_
  refine aw_sld d_Law_law_641 (by omega) hL ?_
  refine aw_aload_n (i := 0) d_Law_law_642 rfl rfl ?_
  refine aw_iload d_Law_law_643 rfl ?_
  refine aw_iconst (v := nI 3) d_Law_law_645 (by decide) ?_
  refine aw_iaddN d_Law_law_646 ?_
  refine aw_sld d_Law_law_647 (by omega) hL ?_
  apply aw_callv d_Law_law_648 cl_Law_85 (c_Mod_part ⟨hm, Fr.rf⟩ hq hv.1 (xs (i + 1)) (xs (i + 2)) (xs (i + 3))); exact hm.1; rfl; rfl; rfl; rfl; decide; exact hr.1; exact hr.2; exact Nat.le_of_ble_eq_true rfl
  rintro _ _ ⟨h, sc, arm, rfl, ⟨hm, FM⟩, rfl, h0, hq⟩
  have hc := hc.frM hv.1 FM mt_far
  have ho := FM _ _ ho mt_120
  refine aw_istore (lv2 := [(0, _), (1, _), (2, _), (3, _), (4, _), (5, _), (6, _)]) d_Law_law_651 (by decide) rfl ?_
  refine aw_aload_n (i := 2) d_Law_law_653 rfl rfl ?_
  apply aw_callv_p (c_Mod_thrown hm) d_Law_law_654 cl_Law_86; exact hm.1; rfl; rfl; rfl; rfl; decide; exact Nat.le_of_ble_eq_true rfl; exact hr.1; exact hr.2
  refine aw_iload d_Law_law_657 rfl ?_
  refine aw_icmp_eq d_Law_law_659 (fun _ => ?_) (fun br_ => absurd h0 br_)
  have fin : ∀ (nx : Nat), AW G m_Law_law 10 61024 8913034 (FLw G L xs) 1270 [(0, .ref 1), (1, .ref x), (2, .ref a), (3, .ref o), (4, .int (nI i))] [] (nx, h) (k + 1 + 0) (n + 6 + 0) := fun nx => kk _ _ _ _ ⟨B, _, ad, A, _, fl, L9, L29, ar, n9, _, _, _, _, Am, sc, arm, fo, hc, hm, hq, hv, Nat.le_succ_of_le hlg, ho, hb⟩
  refine aw_iload d_Law_law_664 rfl ?_
  refine aw_ifB_ne d_Law_law_666 (fun hN => ?_) (fun hN => ?_)
  · refine aw_goto d_Law_law_681 ?_
    refine aw_drop [0, 1, 2, 3, 4] rfl ?_
    exact fin _
  · obtain ⟨v, ev⟩ : ∃ v, sPart hs (xs (i + 1)) (xs (i + 2)) (xs (i + 3)) = some v := by
      cases z : sPart hs (xs (i + 1)) (xs (i + 2)) (xs (i + 3)) with
      | none => rw [z] at hN; cases hN
      | some v => exact ⟨v, rfl⟩
    refine aw_aload_n (i := 3) d_Law_law_669 rfl rfl ?_
    refine aw_iconst (v := 0) d_Law_law_670 (by decide) ?_
    apply aw_laload d_Law_law_671; exact ho; exact (by unfold vp_in; decide)
    refine aw_iload d_Law_law_672 rfl ?_
    refine aw_i2l d_Law_law_674 ?_
    refine aw_lcmp d_Law_law_675 ?_
    have e1 : lg_cmp (fo ((0 : Int32).toNatClampNeg)) ((sPart hs (xs (i + 1)) (xs (i + 2)) (xs (i + 3))).getD 0).toInt64 = 0 := by rw [show ((0 : Int32).toNatClampNeg) = 0 from rfl, hval v ev, ev]; exact lcmp_self _
    refine aw_if_eq d_Law_law_676 (fun _ => ?_) (fun br_ => absurd e1 br_)
    refine aw_goto d_Law_law_681 ?_
    refine aw_drop [0, 1, 2, 3, 4] rfl ?_
    exact fin _
set_option maxHeartbeats 4000000 in
set_option maxRecDepth 20000 in
theorem ca_group {G : aG} {nx : Nat} {h : Nat → Option aC} {L : Nat} {xs : Nat → Int32} {x a o i j k n : Nat} (hL : L ≤ 2560) (hi : i + 5 ≤ L) (hj : j + 1 ≤ 512) (hls : LSt h x a o j k n) (kk : ∀ (nx : Nat) (h : Nat → Option aC) (k n : Nat), LSt h x a o (j + 1) k n → AW G m_Law_law 10 61024 8913034 (FLw G L xs) 1270 [(0, .ref 1), (1, .ref x), (2, .ref a), (3, .ref o), (4, .int (nI i))] [] (nx, h) k n) : AW G m_Law_law 10 61024 8913034 (FLw G L xs) 1071 [(0, .ref 1), (1, .ref x), (2, .ref a), (3, .ref o), (4, .int (nI i))] [] (nx, h) k n := by
  obtain ⟨B, hs, ad, A, most, fl, L9, L29, ar, n9, gs, lg, xs9, cap, Am, sc, arm, fo, hc, hm, hq, hv, hlg, ho, hkb⟩ := hls
  have hb := hkb.c 1 6 (by decide) (by decide)
  have hr := hb.le hj
  refine aw_aload_n (i := 1) d_Law_law_1071 rfl rfl ?_
  refine aw_aload_n (i := 0) d_Law_law_1072 rfl rfl ?_
  refine aw_iload d_Law_law_1073 rfl ?_
  refine aw_iconst (v := nI 1) d_Law_law_1075 (by decide) ?_
  refine aw_iaddN d_Law_law_1076 ?_
  refine aw_sld d_Law_law_1077 (by omega) hL ?_
  refine aw_aload_n (i := 0) d_Law_law_1078 rfl rfl ?_
  refine aw_iload d_Law_law_1079 rfl ?_
  refine aw_iconst (v := nI 2) d_Law_law_1081 (by decide) ?_
  refine aw_iaddN d_Law_law_1082 ?_
  refine aw_sld d_Law_law_1083 (by omega) hL ?_
  refine aw_aload_n (i := 3) d_Law_law_1084 rfl rfl ?_
  apply aw_callsW (a := 4) (c_Law_group hc hv.1 hv.2.2.1 hv.2.2 (xs (i + 1)) (xs (i + 2)) ho) d_Law_law_1085 (gw_t 1054 (by decide +kernel) rfl) (gw_t 0 (by decide +kernel) rfl) cw_Law_group (by decide) ⟨by decide, by decide, by decide +kernel⟩ (gw_t 1055 (by decide +kernel) rfl); rfl; rfl; decide; exact hr.1; exact hr.2; exact Nat.le_of_ble_eq_true rfl
  rintro _ _ ⟨rfl, n2, h, rfl, FR, fo, ho, hval⟩
  have hm := hm.frC FR (fun y h1 h2 => by simp; omega)
  have hc := hc.frM hv.1 FR (fun y hy => by simp at hy; omega)
  refine aw_istore (lv2 := [(0, _), (1, _), (2, _), (3, _), (4, _), (5, _)]) d_Law_law_1088 (by decide) rfl ?_
  refine aw_aload_n (i := 2) d_Law_law_1090 rfl rfl ?_
  refine aw_aload_n (i := 0) d_Law_law_1091 rfl rfl ?_
  refine aw_iload d_Law_law_1092 rfl ?_
  refine aw_iconst (v := nI 1) d_Law_law_1094 (by decide) ?_
  refine aw_iaddN d_Law_law_1095 ?_
  refine aw_sld d_Law_law_1096 (by omega) hL ?_
  refine aw_aload_n (i := 0) d_Law_law_1097 rfl rfl ?_
  refine aw_iload d_Law_law_1098 rfl ?_
  refine aw_iconst (v := nI 2) d_Law_law_1100 (by decide) ?_
  refine aw_iaddN d_Law_law_1101 ?_
  refine aw_sld d_Law_law_1102 (by omega) hL ?_
  apply aw_callv d_Law_law_1103 cl_Law_152 (c_Mod_group ⟨hm, Fr.rf⟩ hq hv.1 hv.2.2 (xs (i + 1)) (xs (i + 2))); exact hm.1; rfl; rfl; rfl; rfl; decide; exact hr.1; exact hr.2; exact Nat.le_of_ble_eq_true rfl
  rintro _ _ ⟨h, sc, arm, rfl, ⟨hm, FM⟩, rfl, h0, hq⟩
  have hc := hc.frM hv.1 FM mt_far
  have ho := FM _ _ ho mt_120
  refine aw_istore (lv2 := [(0, _), (1, _), (2, _), (3, _), (4, _), (5, _), (6, _)]) d_Law_law_1106 (by decide) rfl ?_
  refine aw_aload_n (i := 2) d_Law_law_1108 rfl rfl ?_
  apply aw_callv_p (c_Mod_thrown hm) d_Law_law_1109 cl_Law_86; exact hm.1; rfl; rfl; rfl; rfl; decide; exact Nat.le_of_ble_eq_true rfl; exact hr.1; exact hr.2
  refine aw_iload d_Law_law_1112 rfl ?_
  refine aw_icmp_eq d_Law_law_1114 (fun _ => ?_) (fun br_ => absurd h0 br_)
  have fin : ∀ (nx : Nat), AW G m_Law_law 10 61024 8913034 (FLw G L xs) 1270 [(0, .ref 1), (1, .ref x), (2, .ref a), (3, .ref o), (4, .int (nI i))] [] (nx, h) (k + 1 + 0) (n + 6 + 0) := fun nx => kk _ _ _ _ ⟨B, _, ad, A, _, fl, L9, L29, ar, n9, _, _, _, _, Am, sc, arm, fo, hc, hm, hq, hv, Nat.le_succ_of_le hlg, ho, hb⟩
  refine aw_iload d_Law_law_1119 rfl ?_
  refine aw_ifB_ne d_Law_law_1121 (fun hN => ?_) (fun hN => ?_)
  · refine aw_goto d_Law_law_1136 ?_
    refine aw_drop [0, 1, 2, 3, 4] rfl ?_
    exact fin _
  · obtain ⟨v, ev⟩ : ∃ v, sGrp hs gs (xs (i + 1)) (xs (i + 2)) = some v := by
      cases z : sGrp hs gs (xs (i + 1)) (xs (i + 2)) with
      | none => rw [z] at hN; cases hN
      | some v => exact ⟨v, rfl⟩
    refine aw_aload_n (i := 3) d_Law_law_1124 rfl rfl ?_
    refine aw_iconst (v := 0) d_Law_law_1125 (by decide) ?_
    apply aw_laload d_Law_law_1126; exact ho; exact (by unfold vp_in; decide)
    refine aw_iload d_Law_law_1127 rfl ?_
    refine aw_i2l d_Law_law_1129 ?_
    refine aw_lcmp d_Law_law_1130 ?_
    have e1 : lg_cmp (fo ((0 : Int32).toNatClampNeg)) ((sGrp hs gs (xs (i + 1)) (xs (i + 2))).getD 0).toInt64 = 0 := by rw [show ((0 : Int32).toNatClampNeg) = 0 from rfl, hval v ev, ev]; exact lcmp_self _
    refine aw_if_eq d_Law_law_1131 (fun _ => ?_) (fun br_ => absurd e1 br_)
    refine aw_goto d_Law_law_1136 ?_
    refine aw_drop [0, 1, 2, 3, 4] rfl ?_
    exact fin _
set_option maxHeartbeats 4000000 in
set_option maxRecDepth 20000 in
theorem ca_row {G : aG} {nx : Nat} {h : Nat → Option aC} {L : Nat} {xs : Nat → Int32} {x a o i j k n : Nat} (hL : L ≤ 2560) (hi : i + 5 ≤ L) (hj : j + 1 ≤ 512) (hls : LSt h x a o j k n) (kk : ∀ (nx : Nat) (h : Nat → Option aC) (k n : Nat), LSt h x a o (j + 1) k n → AW G m_Law_law 10 61024 8913034 (FLw G L xs) 1270 [(0, .ref 1), (1, .ref x), (2, .ref a), (3, .ref o), (4, .int (nI i))] [] (nx, h) k n) : AW G m_Law_law 10 61024 8913034 (FLw G L xs) 1214 [(0, .ref 1), (1, .ref x), (2, .ref a), (3, .ref o), (4, .int (nI i))] [] (nx, h) k n := by
  obtain ⟨B, hs, ad, A, most, fl, L9, L29, ar, n9, gs, lg, xs9, cap, Am, sc, arm, fo, hc, hm, hq, hv, hlg, ho, hkb⟩ := hls
  have hb := hkb.c 1 6 (by decide) (by decide)
  have hr := hb.le hj
  refine aw_aload_n (i := 1) d_Law_law_1214 rfl rfl ?_
  refine aw_aload_n (i := 0) d_Law_law_1215 rfl rfl ?_
  refine aw_iload d_Law_law_1216 rfl ?_
  refine aw_iconst (v := nI 1) d_Law_law_1218 (by decide) ?_
  refine aw_iaddN d_Law_law_1219 ?_
  refine aw_sld d_Law_law_1220 (by omega) hL ?_
  refine aw_aload_n (i := 3) d_Law_law_1221 rfl rfl ?_
  apply aw_callsW (a := 3) (c_Law_row hc hv.1 (xs (i + 1)) ho) d_Law_law_1222 (gw_t 1064 (by decide +kernel) rfl) (gw_t 0 (by decide +kernel) rfl) cw_Law_row (by decide) ⟨by decide, by decide, by decide +kernel⟩ (gw_t 1065 (by decide +kernel) rfl); rfl; rfl; decide; exact hr.1; exact hr.2; exact Nat.le_of_ble_eq_true rfl
  rintro _ _ ⟨rfl, n2, h, rfl, FR, fo, ho, hval⟩
  have hm := hm.frC FR (fun y h1 h2 => by simp; omega)
  have hc := hc.frM hv.1 FR (fun y hy => by simp at hy; omega)
  refine aw_istore (lv2 := [(0, _), (1, _), (2, _), (3, _), (4, _), (5, _)]) d_Law_law_1225 (by decide) rfl ?_
  refine aw_aload_n (i := 2) d_Law_law_1227 rfl rfl ?_
  refine aw_aload_n (i := 0) d_Law_law_1228 rfl rfl ?_
  refine aw_iload d_Law_law_1229 rfl ?_
  refine aw_iconst (v := nI 1) d_Law_law_1231 (by decide) ?_
  refine aw_iaddN d_Law_law_1232 ?_
  refine aw_sld d_Law_law_1233 (by omega) hL ?_
  apply aw_callv d_Law_law_1234 cl_Law_168 (c_Mod_row ⟨hm, Fr.rf⟩ hq hv.1 (xs (i + 1))); exact hm.1; rfl; rfl; rfl; rfl; decide; exact hr.1; exact hr.2; exact Nat.le_of_ble_eq_true rfl
  rintro _ _ ⟨h, sc, arm, rfl, ⟨hm, FM⟩, rfl, h0, hq⟩
  have hc := hc.frM hv.1 FM mt_far
  have ho := FM _ _ ho mt_120
  refine aw_istore (lv2 := [(0, _), (1, _), (2, _), (3, _), (4, _), (5, _), (6, _)]) d_Law_law_1237 (by decide) rfl ?_
  refine aw_aload_n (i := 2) d_Law_law_1239 rfl rfl ?_
  apply aw_callv_p (c_Mod_thrown hm) d_Law_law_1240 cl_Law_86; exact hm.1; rfl; rfl; rfl; rfl; decide; exact Nat.le_of_ble_eq_true rfl; exact hr.1; exact hr.2
  refine aw_iload d_Law_law_1243 rfl ?_
  refine aw_icmp_eq d_Law_law_1245 (fun _ => ?_) (fun br_ => absurd h0 br_)
  have fin : ∀ (nx : Nat), AW G m_Law_law 10 61024 8913034 (FLw G L xs) 1270 [(0, .ref 1), (1, .ref x), (2, .ref a), (3, .ref o), (4, .int (nI i))] [] (nx, h) (k + 1 + 0) (n + 6 + 0) := fun nx => kk _ _ _ _ ⟨B, _, ad, A, _, fl, L9, L29, ar, n9, _, _, _, _, Am, sc, arm, fo, hc, hm, hq, hv, Nat.le_succ_of_le hlg, ho, hb⟩
  refine aw_iload d_Law_law_1250 rfl ?_
  refine aw_ifB_ne d_Law_law_1252 (fun hN => ?_) (fun hN => ?_)
  · refine aw_goto d_Law_law_1267 ?_
    refine aw_drop [0, 1, 2, 3, 4] rfl ?_
    exact fin _
  · obtain ⟨v, ev⟩ : ∃ v, sRow xs9 (xs (i + 1)) = some v := by
      cases z : sRow xs9 (xs (i + 1)) with
      | none => rw [z] at hN; cases hN
      | some v => exact ⟨v, rfl⟩
    refine aw_aload_n (i := 3) d_Law_law_1255 rfl rfl ?_
    refine aw_iconst (v := 0) d_Law_law_1256 (by decide) ?_
    apply aw_laload d_Law_law_1257; exact ho; exact (by unfold vp_in; decide)
    refine aw_iload d_Law_law_1258 rfl ?_
    refine aw_i2l d_Law_law_1260 ?_
    refine aw_lcmp d_Law_law_1261 ?_
    have e1 : lg_cmp (fo ((0 : Int32).toNatClampNeg)) ((sRow xs9 (xs (i + 1))).getD 0).toInt64 = 0 := by rw [show ((0 : Int32).toNatClampNeg) = 0 from rfl, hval v ev, ev]; exact lcmp_self _
    refine aw_if_eq d_Law_law_1262 (fun _ => ?_) (fun br_ => absurd e1 br_)
    refine aw_goto d_Law_law_1267 ?_
    refine aw_drop [0, 1, 2, 3, 4] rfl ?_
    exact fin _
