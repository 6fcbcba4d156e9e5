set_option maxHeartbeats 4000000 in
set_option maxRecDepth 100000 in
theorem sL_law_1409 (L : Nat) (xs : Nat → Int32) (k18 : Int32 × zWd → Option (Int32 × zWd)) (v0 : Nat) (v1 : Nat) (v2 : Nat) (v3 : Int32) (hk18 : ∀ (v3 : Int32) (w : zWd), zS (gL_law L xs) zEi 18 [(0, .ref v0), (1, .ref v1), (2, .ref v2), (3, .int v3)] [] w (k18 (v3, w))) (h0 : v0 = 290) (h1 : zShp v1 = (11, 11)) (h2 : zShp v2 = (12, 25)) (w : zWd) : zS (gL_law L xs) zEi 1409 [(0, .ref v0), (1, .ref v1), (2, .ref v2), (3, .int v3)] [] w (mL_law_1409 L xs k18 v0 v1 v2 v3 w) := by
  unfold mL_law_1409
  refine zS_iinc 1412 rfl 3 (_ + (6 : Int32)) dL_law_1409 rfl (by show 3 < 4; decide) rfl (show _ = [(3, .int _), (0, .ref _), (1, .ref _), (2, .ref _)] from rfl) ?_
  refine zS_goto 18 dL_law_1412 (by decide) ?_
  refine zS_sub [1, 2, 3, 0] (show _ = [(0, .ref _), (1, .ref _), (2, .ref _), (3, .int _)] from rfl) ?_
  exact hk18 _ _

set_option maxHeartbeats 4000000 in
set_option maxRecDepth 100000 in
theorem sL_law_358 (L : Nat) (xs : Nat → Int32) (k18 : Int32 × zWd → Option (Int32 × zWd)) (v0 : Nat) (v1 : Nat) (v2 : Nat) (v3 : Int32) (s0 : Int32) (s1 : Int32) (s2 : Nat) (s3 : Int32) (hk18 : ∀ (v3 : Int32) (w : zWd), zS (gL_law L xs) zEi 18 [(0, .ref v0), (1, .ref v1), (2, .ref v2), (3, .int v3)] [] w (k18 (v3, w))) (h0 : v0 = 290) (h1 : zShp v1 = (11, 11)) (h2 : zShp v2 = (12, 25)) (t2 : zShp s2 = (12, 25)) (w : zWd) : zS (gL_law L xs) zEi 358 [(0, .ref v0), (1, .ref v1), (2, .ref v2), (3, .int v3)] [.int s0, .int s1, .ref s2, .int s3] w (mL_law_358 L xs k18 v0 v1 v2 v3 s0 s1 s2 s3 w) := by
  unfold mL_law_358
  refine zS_cVi (as := [.int _, .int _]) (st := [.int _]) (g' := gX12_shut) 361 rfl (okX12_shut _ _ _ _ t2) dL_law_358 zC12 t2 zw1265 cbX12_shut rfl rfl ⟨(by show 3 + 1 ≤ 1000; decide), (by decide)⟩ (Nat.le_of_ble_eq_true rfl) (fun r15 w16 => ?_)
  refine zS_icmp_eq 1409 364 rfl dL_law_361 (by decide) ?_ ?_
  · exact sL_law_1409 L xs k18 _ _ _ _ hk18 h0 h1 h2 _
  · refine zS_iconst 365 rfl (0 : Int32) (by decide) dL_law_364 ?_
    exact zS_retb dL_law_365 rfl

set_option maxHeartbeats 4000000 in
set_option maxRecDepth 100000 in
theorem sL_law_336 (L : Nat) (xs : Nat → Int32) (k18 : Int32 × zWd → Option (Int32 × zWd)) (v0 : Nat) (v1 : Nat) (v2 : Nat) (v3 : Int32) (s0 : Int32) (s1 : Int32) (s2 : Nat) (hk18 : ∀ (v3 : Int32) (w : zWd), zS (gL_law L xs) zEi 18 [(0, .ref v0), (1, .ref v1), (2, .ref v2), (3, .int v3)] [] w (k18 (v3, w))) (h0 : v0 = 290) (h1 : zShp v1 = (11, 11)) (h2 : zShp v2 = (12, 25)) (t2 : zShp s2 = (11, 11)) (w : zWd) : zS (gL_law L xs) zEi 336 [(0, .ref v0), (1, .ref v1), (2, .ref v2), (3, .int v3)] [.int s0, .int s1, .ref s2] w (mL_law_336 L xs k18 v0 v1 v2 v3 s0 s1 s2 w) := by
  unfold mL_law_336
  refine zS_cVi (as := [.int _, .int _]) (st := []) (g' := gX11_shut) 339 rfl (okX11_shut _ _ _ _ t2) dL_law_336 zC11 t2 zw563 cbX11_shut rfl rfl ⟨(by show 3 + 1 ≤ 1000; decide), (by decide)⟩ (Nat.le_of_ble_eq_true rfl) (fun r13 w14 => ?_)
  refine zS_aload_n 340 rfl 2 rfl dL_law_339 ?_
  refine zS_aload_n 341 rfl 0 rfl dL_law_340 ?_
  refine zS_iload_n 342 rfl 3 rfl dL_law_341 ?_
  refine zS_iconst 343 rfl (1 : Int32) (by decide) dL_law_342 ?_
  refine zS_iadd 344 rfl dL_law_343 ?_
  refine zS_sald 345 rfl h0 dL_law_344 ?_
  refine zS_aload_n 346 rfl 0 rfl dL_law_345 ?_
  refine zS_iload_n 347 rfl 3 rfl dL_law_346 ?_
  refine zS_iconst 348 rfl (2 : Int32) (by decide) dL_law_347 ?_
  refine zS_iadd 349 rfl dL_law_348 ?_
  refine zS_sald 350 rfl h0 dL_law_349 ?_
  refine zS_if_eq 357 353 rfl dL_law_350 (by decide) ?_ ?_
  · refine zS_iconst 358 rfl (0 : Int32) (by decide) dL_law_357 ?_
    exact sL_law_358 L xs k18 _ _ _ _ _ _ _ _ hk18 h0 h1 h2 h2 _
  · refine zS_iconst 354 rfl (1 : Int32) (by decide) dL_law_353 ?_
    refine zS_goto 358 dL_law_354 (by decide) ?_
    exact sL_law_358 L xs k18 _ _ _ _ _ _ _ _ hk18 h0 h1 h2 h2 _

set_option maxHeartbeats 4000000 in
set_option maxRecDepth 100000 in
theorem sL_law_18b (L : Nat) (xs : Nat → Int32) (v0 : Nat) (v1 : Nat) (v2 : Nat) (k18 : Int32 × zWd → Option (Int32 × zWd)) (v3 : Int32) (hk18 : ∀ (v3 : Int32) (w : zWd), zS (gL_law L xs) zEi 18 [(0, .ref v0), (1, .ref v1), (2, .ref v2), (3, .int v3)] [] w (k18 (v3, w))) (h0 : v0 = 290) (h1 : zShp v1 = (11, 11)) (h2 : zShp v2 = (12, 25)) (w : zWd) : zS (gL_law L xs) zEi 18 [(0, .ref v0), (1, .ref v1), (2, .ref v2), (3, .int v3)] [] w (mL_law_18b L xs v0 v1 v2 k18 v3 w) := by
  unfold mL_law_18b
  refine zS_iload_n 19 rfl 3 rfl dL_law_18 ?_
  refine zS_aload_n 20 rfl 0 rfl dL_law_19 ?_
  refine zS_slen 21 rfl h0 dL_law_20 ?_
  refine zS_bipush 23 rfl (6 : Int32) (by decide) dL_law_21 ?_
  refine zS_isub 24 rfl dL_law_23 ?_
  refine zS_icmp_gt 1415 27 rfl dL_law_24 (by decide) ?_ ?_
  · refine zS_iconst 1416 rfl (1 : Int32) (by decide) dL_law_1415 ?_
    exact zS_retb dL_law_1416 rfl
  · refine zS_aload_n 28 rfl 0 rfl dL_law_27 ?_
    refine zS_iload_n 29 rfl 3 rfl dL_law_28 ?_
    refine zS_sald 30 rfl h0 dL_law_29 ?_
    refine zS_bipush 32 rfl (63 : Int32) (by decide) dL_law_30 ?_
    refine zS_iand 33 rfl dL_law_32 ?_
    refine zS_tsw (lo := 0) ?_
    refine zSw_in (c0 := (0 : Int32)) 0 188 dL_law_33 (by decide) (by decide) rfl (by decide) ?_ ?_
    · refine zS_aload_n 189 rfl 1 rfl dL_law_188 ?_
      refine zS_aload_n 190 rfl 0 rfl dL_law_189 ?_
      refine zS_iload_n 191 rfl 3 rfl dL_law_190 ?_
      refine zS_iconst 192 rfl (1 : Int32) (by decide) dL_law_191 ?_
      refine zS_iadd 193 rfl dL_law_192 ?_
      refine zS_sald 194 rfl h0 dL_law_193 ?_
      refine zS_aload_n 195 rfl 0 rfl dL_law_194 ?_
      refine zS_iload_n 196 rfl 3 rfl dL_law_195 ?_
      refine zS_iconst 197 rfl (2 : Int32) (by decide) dL_law_196 ?_
      refine zS_iadd 198 rfl dL_law_197 ?_
      refine zS_sald 199 rfl h0 dL_law_198 ?_
      refine zS_aload_n 200 rfl 0 rfl dL_law_199 ?_
      refine zS_iload_n 201 rfl 3 rfl dL_law_200 ?_
      refine zS_iconst 202 rfl (3 : Int32) (by decide) dL_law_201 ?_
      refine zS_iadd 203 rfl dL_law_202 ?_
      refine zS_sald 204 rfl h0 dL_law_203 ?_
      refine zS_cVi (as := [.int _, .int _, .int _]) (st := []) (g' := gX11_under) 207 rfl (okX11_under _ _ _ _ _ h1) dL_law_204 zC11 h1 zw499 cbX11_under rfl rfl ⟨(by show 2 + 1 ≤ 1000; decide), (by decide)⟩ (Nat.le_of_ble_eq_true rfl) (fun r1 w2 => ?_)
      refine zS_aload_n 208 rfl 2 rfl dL_law_207 ?_
      refine zS_aload_n 209 rfl 0 rfl dL_law_208 ?_
      refine zS_iload_n 210 rfl 3 rfl dL_law_209 ?_
      refine zS_iconst 211 rfl (1 : Int32) (by decide) dL_law_210 ?_
      refine zS_iadd 212 rfl dL_law_211 ?_
      refine zS_sald 213 rfl h0 dL_law_212 ?_
      refine zS_aload_n 214 rfl 0 rfl dL_law_213 ?_
      refine zS_iload_n 215 rfl 3 rfl dL_law_214 ?_
      refine zS_iconst 216 rfl (2 : Int32) (by decide) dL_law_215 ?_
      refine zS_iadd 217 rfl dL_law_216 ?_
      refine zS_sald 218 rfl h0 dL_law_217 ?_
      refine zS_aload_n 219 rfl 0 rfl dL_law_218 ?_
      refine zS_iload_n 220 rfl 3 rfl dL_law_219 ?_
      refine zS_iconst 221 rfl (3 : Int32) (by decide) dL_law_220 ?_
      refine zS_iadd 222 rfl dL_law_221 ?_
      refine zS_sald 223 rfl h0 dL_law_222 ?_
      refine zS_cVi (as := [.int _, .int _, .int _]) (st := [.int _]) (g' := gX12_under) 226 rfl (okX12_under _ _ _ _ _ h2) dL_law_223 zC12 h2 zw1189 cbX12_under rfl rfl ⟨(by show 3 + 1 ≤ 1000; decide), (by decide)⟩ (Nat.le_of_ble_eq_true rfl) (fun r3 w4 => ?_)
      refine zS_icmp_eq 1409 229 rfl dL_law_226 (by decide) ?_ ?_
      · exact sL_law_1409 L xs k18 _ _ _ _ hk18 h0 h1 h2 _
      · refine zS_iconst 230 rfl (0 : Int32) (by decide) dL_law_229 ?_
        exact zS_retb dL_law_230 rfl
    refine zSw_in (c0 := (1 : Int32)) 1 231 dL_law_33 (by decide) (by decide) rfl (by decide) ?_ ?_
    · refine zS_aload_n 232 rfl 1 rfl dL_law_231 ?_
      refine zS_aload_n 233 rfl 0 rfl dL_law_232 ?_
      refine zS_iload_n 234 rfl 3 rfl dL_law_233 ?_
      refine zS_iconst 235 rfl (1 : Int32) (by decide) dL_law_234 ?_
      refine zS_iadd 236 rfl dL_law_235 ?_
      refine zS_sald 237 rfl h0 dL_law_236 ?_
      refine zS_aload_n 238 rfl 0 rfl dL_law_237 ?_
      refine zS_iload_n 239 rfl 3 rfl dL_law_238 ?_
      refine zS_iconst 240 rfl (2 : Int32) (by decide) dL_law_239 ?_
      refine zS_iadd 241 rfl dL_law_240 ?_
      refine zS_sald 242 rfl h0 dL_law_241 ?_
      refine zS_cVi (as := [.int _, .int _]) (st := []) (g' := gX11_cell) 245 rfl (okX11_cell _ _ _ _ h1) dL_law_242 zC11 h1 zw507 cbX11_cell rfl rfl ⟨(by show 2 + 1 ≤ 1000; decide), (by decide)⟩ (Nat.le_of_ble_eq_true rfl) (fun r5 w6 => ?_)
      refine zS_aload_n 246 rfl 2 rfl dL_law_245 ?_
      refine zS_aload_n 247 rfl 0 rfl dL_law_246 ?_
      refine zS_iload_n 248 rfl 3 rfl dL_law_247 ?_
      refine zS_iconst 249 rfl (1 : Int32) (by decide) dL_law_248 ?_
      refine zS_iadd 250 rfl dL_law_249 ?_
      refine zS_sald 251 rfl h0 dL_law_250 ?_
      refine zS_aload_n 252 rfl 0 rfl dL_law_251 ?_
      refine zS_iload_n 253 rfl 3 rfl dL_law_252 ?_
      refine zS_iconst 254 rfl (2 : Int32) (by decide) dL_law_253 ?_
      refine zS_iadd 255 rfl dL_law_254 ?_
      refine zS_sald 256 rfl h0 dL_law_255 ?_
      refine zS_cVi (as := [.int _, .int _]) (st := [.int _]) (g' := gX12_cell) 259 rfl (okX12_cell _ _ _ _ h2) dL_law_256 zC12 h2 zw1199 cbX12_cell rfl rfl ⟨(by show 3 + 1 ≤ 1000; decide), (by decide)⟩ (Nat.le_of_ble_eq_true rfl) (fun r7 w8 => ?_)
      refine zS_icmp_eq 1409 262 rfl dL_law_259 (by decide) ?_ ?_
      · exact sL_law_1409 L xs k18 _ _ _ _ hk18 h0 h1 h2 _
      · refine zS_iconst 263 rfl (0 : Int32) (by decide) dL_law_262 ?_
        exact zS_retb dL_law_263 rfl
    refine zSw_in (c0 := (2 : Int32)) 2 264 dL_law_33 (by decide) (by decide) rfl (by decide) ?_ ?_
    · refine zS_aload_n 265 rfl 1 rfl dL_law_264 ?_
      refine zS_aload_n 266 rfl 0 rfl dL_law_265 ?_
      refine zS_iload_n 267 rfl 3 rfl dL_law_266 ?_
      refine zS_iconst 268 rfl (1 : Int32) (by decide) dL_law_267 ?_
      refine zS_iadd 269 rfl dL_law_268 ?_
      refine zS_sald 270 rfl h0 dL_law_269 ?_
      refine zS_aload_n 271 rfl 0 rfl dL_law_270 ?_
      refine zS_iload_n 272 rfl 3 rfl dL_law_271 ?_
      refine zS_iconst 273 rfl (2 : Int32) (by decide) dL_law_272 ?_
      refine zS_iadd 274 rfl dL_law_273 ?_
      refine zS_sald 275 rfl h0 dL_law_274 ?_
      refine zS_aload_n 276 rfl 0 rfl dL_law_275 ?_
      refine zS_iload_n 277 rfl 3 rfl dL_law_276 ?_
      refine zS_iconst 278 rfl (3 : Int32) (by decide) dL_law_277 ?_
      refine zS_iadd 279 rfl dL_law_278 ?_
      refine zS_sald 280 rfl h0 dL_law_279 ?_
      refine zS_aload_n 281 rfl 0 rfl dL_law_280 ?_
      refine zS_iload_n 282 rfl 3 rfl dL_law_281 ?_
      refine zS_iconst 283 rfl (4 : Int32) (by decide) dL_law_282 ?_
      refine zS_iadd 284 rfl dL_law_283 ?_
      refine zS_sald 285 rfl h0 dL_law_284 ?_
      refine zS_cVi (as := [.int _, .int _, .int _, .int _]) (st := []) (g' := gX11_tap) 288 rfl (okX11_tap _ _ _ _ _ _ h1) dL_law_285 zC11 h1 zw511 cbX11_tap rfl rfl ⟨(by show 7 + 1 ≤ 1000; decide), (by decide)⟩ (Nat.le_of_ble_eq_true rfl) (fun r9 w10 => ?_)
      refine zS_aload_n 289 rfl 2 rfl dL_law_288 ?_
      refine zS_aload_n 290 rfl 0 rfl dL_law_289 ?_
      refine zS_iload_n 291 rfl 3 rfl dL_law_290 ?_
      refine zS_iconst 292 rfl (1 : Int32) (by decide) dL_law_291 ?_
      refine zS_iadd 293 rfl dL_law_292 ?_
      refine zS_sald 294 rfl h0 dL_law_293 ?_
      refine zS_aload_n 295 rfl 0 rfl dL_law_294 ?_
      refine zS_iload_n 296 rfl 3 rfl dL_law_295 ?_
      refine zS_iconst 297 rfl (2 : Int32) (by decide) dL_law_296 ?_
      refine zS_iadd 298 rfl dL_law_297 ?_
      refine zS_sald 299 rfl h0 dL_law_298 ?_
      refine zS_aload_n 300 rfl 0 rfl dL_law_299 ?_
      refine zS_iload_n 301 rfl 3 rfl dL_law_300 ?_
      refine zS_iconst 302 rfl (3 : Int32) (by decide) dL_law_301 ?_
      refine zS_iadd 303 rfl dL_law_302 ?_
      refine zS_sald 304 rfl h0 dL_law_303 ?_
      refine zS_aload_n 305 rfl 0 rfl dL_law_304 ?_
      refine zS_iload_n 306 rfl 3 rfl dL_law_305 ?_
      refine zS_iconst 307 rfl (4 : Int32) (by decide) dL_law_306 ?_
      refine zS_iadd 308 rfl dL_law_307 ?_
      refine zS_sald 309 rfl h0 dL_law_308 ?_
      refine zS_cVi (as := [.int _, .int _, .int _, .int _]) (st := [.int _]) (g' := gX12_tap) 312 rfl (okX12_tap _ _ _ _ _ _ h2) dL_law_309 zC12 h2 zw1203 cbX12_tap rfl rfl ⟨(by show 49 + 1 ≤ 1000; decide), (by decide)⟩ (Nat.le_of_ble_eq_true rfl) (fun r11 w12 => ?_)
      refine zS_icmp_eq 1409 315 rfl dL_law_312 (by decide) ?_ ?_
      · exact sL_law_1409 L xs k18 _ _ _ _ hk18 h0 h1 h2 _
      · refine zS_iconst 316 rfl (0 : Int32) (by decide) dL_law_315 ?_
        exact zS_retb dL_law_316 rfl
    refine zSw_in (c0 := (3 : Int32)) 3 317 dL_law_33 (by decide) (by decide) rfl (by decide) ?_ ?_
    · refine zS_aload_n 318 rfl 1 rfl dL_law_317 ?_
      refine zS_aload_n 319 rfl 0 rfl dL_law_318 ?_
      refine zS_iload_n 320 rfl 3 rfl dL_law_319 ?_
      refine zS_iconst 321 rfl (1 : Int32) (by decide) dL_law_320 ?_
      refine zS_iadd 322 rfl dL_law_321 ?_
      refine zS_sald 323 rfl h0 dL_law_322 ?_
      refine zS_aload_n 324 rfl 0 rfl dL_law_323 ?_
      refine zS_iload_n 325 rfl 3 rfl dL_law_324 ?_
      refine zS_iconst 326 rfl (2 : Int32) (by decide) dL_law_325 ?_
      refine zS_iadd 327 rfl dL_law_326 ?_
      refine zS_sald 328 rfl h0 dL_law_327 ?_
      refine zS_if_eq 335 331 rfl dL_law_328 (by decide) ?_ ?_
      · refine zS_iconst 336 rfl (0 : Int32) (by decide) dL_law_335 ?_
        exact sL_law_336 L xs k18 _ _ _ _ _ _ _ hk18 h0 h1 h2 h1 _
      · refine zS_iconst 332 rfl (1 : Int32) (by decide) dL_law_331 ?_
        refine zS_goto 336 dL_law_332 (by decide) ?_
        exact sL_law_336 L xs k18 _ _ _ _ _ _ _ hk18 h0 h1 h2 h1 _
    refine zSw_in (c0 := (4 : Int32)) 4 366 dL_law_33 (by decide) (by decide) rfl (by decide) ?_ ?_
    · refine zS_aload_n 367 rfl 1 rfl dL_law_366 ?_
      refine zS_aload_n 368 rfl 0 rfl dL_law_367 ?_
      refine zS_iload_n 369 rfl 3 rfl dL_law_368 ?_
      refine zS_iconst 370 rfl (1 : Int32) (by decide) dL_law_369 ?_
      refine zS_iadd 371 rfl dL_law_370 ?_
      refine zS_sald 372 rfl h0 dL_law_371 ?_
      refine zS_cVi (as := [.int _]) (st := []) (g' := gX11_dawn) 375 rfl (okX11_dawn _ _ _ h1) dL_law_372 zC11 h1 zw571 cbX11_dawn rfl rfl ⟨(by show 4 + 1 ≤ 1000; decide), (by decide)⟩ (Nat.le_of_ble_eq_true rfl) (fun r17 w18 => ?_)
      refine zS_aload_n 376 rfl 2 rfl dL_law_375 ?_
      refine zS_aload_n 377 rfl 0 rfl dL_law_376 ?_
      refine zS_iload_n 378 rfl 3 rfl dL_law_377 ?_
      refine zS_iconst 379 rfl (1 : Int32) (by decide) dL_law_378 ?_
      refine zS_iadd 380 rfl dL_law_379 ?_
      refine zS_sald 381 rfl h0 dL_law_380 ?_
      refine zS_cVi (as := [.int _]) (st := [.int _]) (g' := gX12_dawn) 384 rfl (okX12_dawn _ _ _ h2) dL_law_381 zC12 h2 zw1273 cbX12_dawn rfl rfl ⟨(by show 5 + 1 ≤ 1000; decide), (by decide)⟩ (Nat.le_of_ble_eq_true rfl) (fun r19 w20 => ?_)
      refine zS_icmp_eq 1409 387 rfl dL_law_384 (by decide) ?_ ?_
      · exact sL_law_1409 L xs k18 _ _ _ _ hk18 h0 h1 h2 _
      · refine zS_iconst 388 rfl (0 : Int32) (by decide) dL_law_387 ?_
        exact zS_retb dL_law_388 rfl
    refine zSw_in (c0 := (5 : Int32)) 5 389 dL_law_33 (by decide) (by decide) rfl (by decide) ?_ ?_
    · refine zS_aload_n 390 rfl 1 rfl dL_law_389 ?_
      refine zS_aload_n 391 rfl 0 rfl dL_law_390 ?_
      refine zS_iload_n 392 rfl 3 rfl dL_law_391 ?_
      refine zS_iconst 393 rfl (1 : Int32) (by decide) dL_law_392 ?_
      refine zS_iadd 394 rfl dL_law_393 ?_
      refine zS_sald 395 rfl h0 dL_law_394 ?_
      refine zS_aload_n 396 rfl 0 rfl dL_law_395 ?_
      refine zS_iload_n 397 rfl 3 rfl dL_law_396 ?_
      refine zS_iconst 398 rfl (2 : Int32) (by decide) dL_law_397 ?_
      refine zS_iadd 399 rfl dL_law_398 ?_
      refine zS_sald 400 rfl h0 dL_law_399 ?_
      refine zS_aload_n 401 rfl 0 rfl dL_law_400 ?_
      refine zS_iload_n 402 rfl 3 rfl dL_law_401 ?_
      refine zS_iconst 403 rfl (3 : Int32) (by decide) dL_law_402 ?_
      refine zS_iadd 404 rfl dL_law_403 ?_
      refine zS_sald 405 rfl h0 dL_law_404 ?_
      refine zS_cVi (as := [.int _, .int _, .int _]) (st := []) (g' := gX11_flow) 408 rfl (okX11_flow _ _ _ _ _ h1) dL_law_405 zC11 h1 zw612 cbX11_flow rfl rfl ⟨(by show 3 + 1 ≤ 1000; decide), (by decide)⟩ (Nat.le_of_ble_eq_true rfl) (fun r21 w22 => ?_)
      refine zS_aload_n 409 rfl 2 rfl dL_law_408 ?_
      refine zS_aload_n 410 rfl 0 rfl dL_law_409 ?_
      refine zS_iload_n 411 rfl 3 rfl dL_law_410 ?_
      refine zS_iconst 412 rfl (1 : Int32) (by decide) dL_law_411 ?_
      refine zS_iadd 413 rfl dL_law_412 ?_
      refine zS_sald 414 rfl h0 dL_law_413 ?_
      refine zS_aload_n 415 rfl 0 rfl dL_law_414 ?_
      refine zS_iload_n 416 rfl 3 rfl dL_law_415 ?_
      refine zS_iconst 417 rfl (2 : Int32) (by decide) dL_law_416 ?_
      refine zS_iadd 418 rfl dL_law_417 ?_
      refine zS_sald 419 rfl h0 dL_law_418 ?_
      refine zS_aload_n 420 rfl 0 rfl dL_law_419 ?_
      refine zS_iload_n 421 rfl 3 rfl dL_law_420 ?_
      refine zS_iconst 422 rfl (3 : Int32) (by decide) dL_law_421 ?_
      refine zS_iadd 423 rfl dL_law_422 ?_
      refine zS_sald 424 rfl h0 dL_law_423 ?_
      refine zS_cVi (as := [.int _, .int _, .int _]) (st := [.int _]) (g' := gX12_flow) 427 rfl (okX12_flow _ _ _ _ _ h2) dL_law_424 zC12 h2 zw1289 cbX12_flow rfl rfl ⟨(by show 3 + 1 ≤ 1000; decide), (by decide)⟩ (Nat.le_of_ble_eq_true rfl) (fun r23 w24 => ?_)
      refine zS_icmp_eq 1409 430 rfl dL_law_427 (by decide) ?_ ?_
      · exact sL_law_1409 L xs k18 _ _ _ _ hk18 h0 h1 h2 _
      · refine zS_iconst 431 rfl (0 : Int32) (by decide) dL_law_430 ?_
        exact zS_retb dL_law_431 rfl
    refine zSw_in (c0 := (6 : Int32)) 6 432 dL_law_33 (by decide) (by decide) rfl (by decide) ?_ ?_
    · refine zS_aload_n 433 rfl 1 rfl dL_law_432 ?_
      refine zS_aload_n 434 rfl 0 rfl dL_law_433 ?_
      refine zS_iload_n 435 rfl 3 rfl dL_law_434 ?_
      refine zS_iconst 436 rfl (1 : Int32) (by decide) dL_law_435 ?_
      refine zS_iadd 437 rfl dL_law_436 ?_
      refine zS_sald 438 rfl h0 dL_law_437 ?_
      refine zS_aload_n 439 rfl 0 rfl dL_law_438 ?_
      refine zS_iload_n 440 rfl 3 rfl dL_law_439 ?_
      refine zS_iconst 441 rfl (2 : Int32) (by decide) dL_law_440 ?_
      refine zS_iadd 442 rfl dL_law_441 ?_
      refine zS_sald 443 rfl h0 dL_law_442 ?_
      refine zS_cVi (as := [.int _, .int _]) (st := []) (g' := gX11_pipe) 446 rfl (okX11_pipe _ _ _ _ h1) dL_law_443 zC11 h1 zw624 cbX11_pipe rfl rfl ⟨(by show 3 + 1 ≤ 1000; decide), (by decide)⟩ (Nat.le_of_ble_eq_true rfl) (fun r25 w26 => ?_)
      refine zS_aload_n 447 rfl 2 rfl dL_law_446 ?_
      refine zS_aload_n 448 rfl 0 rfl dL_law_447 ?_
      refine zS_iload_n 449 rfl 3 rfl dL_law_448 ?_
      refine zS_iconst 450 rfl (1 : Int32) (by decide) dL_law_449 ?_
      refine zS_iadd 451 rfl dL_law_450 ?_
      refine zS_sald 452 rfl h0 dL_law_451 ?_
      refine zS_aload_n 453 rfl 0 rfl dL_law_452 ?_
      refine zS_iload_n 454 rfl 3 rfl dL_law_453 ?_
      refine zS_iconst 455 rfl (2 : Int32) (by decide) dL_law_454 ?_
      refine zS_iadd 456 rfl dL_law_455 ?_
      refine zS_sald 457 rfl h0 dL_law_456 ?_
      refine zS_cVi (as := [.int _, .int _]) (st := [.int _]) (g' := gX12_pipe) 460 rfl (okX12_pipe _ _ _ _ h2) dL_law_457 zC12 h2 zw1301 cbX12_pipe rfl rfl ⟨(by show 3 + 1 ≤ 1000; decide), (by decide)⟩ (Nat.le_of_ble_eq_true rfl) (fun r27 w28 => ?_)
      refine zS_icmp_eq 1409 463 rfl dL_law_460 (by decide) ?_ ?_
      · exact sL_law_1409 L xs k18 _ _ _ _ hk18 h0 h1 h2 _
      · refine zS_iconst 464 rfl (0 : Int32) (by decide) dL_law_463 ?_
        exact zS_retb dL_law_464 rfl
    refine zSw_in (c0 := (7 : Int32)) 7 465 dL_law_33 (by decide) (by decide) rfl (by decide) ?_ ?_
    · refine zS_aload_n 466 rfl 1 rfl dL_law_465 ?_
      refine zS_aload_n 467 rfl 0 rfl dL_law_466 ?_
      refine zS_iload_n 468 rfl 3 rfl dL_law_467 ?_
      refine zS_iconst 469 rfl (1 : Int32) (by decide) dL_law_468 ?_
      refine zS_iadd 470 rfl dL_law_469 ?_
      refine zS_sald 471 rfl h0 dL_law_470 ?_
      refine zS_cVi (as := [.int _]) (st := []) (g' := gX11_scale) 474 rfl (okX11_scale _ _ _ h1) dL_law_471 zC11 h1 zw628 cbX11_scale rfl rfl ⟨(by show 3 + 1 ≤ 1000; decide), (by decide)⟩ (Nat.le_of_ble_eq_true rfl) (fun r29 w30 => ?_)
      refine zS_aload_n 475 rfl 2 rfl dL_law_474 ?_
      refine zS_aload_n 476 rfl 0 rfl dL_law_475 ?_
      refine zS_iload_n 477 rfl 3 rfl dL_law_476 ?_
      refine zS_iconst 478 rfl (1 : Int32) (by decide) dL_law_477 ?_
      refine zS_iadd 479 rfl dL_law_478 ?_
      refine zS_sald 480 rfl h0 dL_law_479 ?_
      refine zS_cVi (as := [.int _]) (st := [.int _]) (g' := gX12_scale) 483 rfl (okX12_scale _ _ _ h2) dL_law_480 zC12 h2 zw1305 cbX12_scale rfl rfl ⟨(by show 3 + 1 ≤ 1000; decide), (by decide)⟩ (Nat.le_of_ble_eq_true rfl) (fun r31 w32 => ?_)
      refine zS_icmp_eq 1409 486 rfl dL_law_483 (by decide) ?_ ?_
      · exact sL_law_1409 L xs k18 _ _ _ _ hk18 h0 h1 h2 _
      · refine zS_iconst 487 rfl (0 : Int32) (by decide) dL_law_486 ?_
        exact zS_retb dL_law_487 rfl
    refine zSw_in (c0 := (8 : Int32)) 8 488 dL_law_33 (by decide) (by decide) rfl (by decide) ?_ ?_
    · refine zS_aload_n 489 rfl 1 rfl dL_law_488 ?_
      refine zS_aload_n 490 rfl 0 rfl dL_law_489 ?_
      refine zS_iload_n 491 rfl 3 rfl dL_law_490 ?_
      refine zS_iconst 492 rfl (1 : Int32) (by decide) dL_law_491 ?_
      refine zS_iadd 493 rfl dL_law_492 ?_
      refine zS_sald 494 rfl h0 dL_law_493 ?_
      refine zS_i2l 495 rfl dL_law_494 ?_
      refine zS_bipush 497 rfl (32 : Int32) (by decide) dL_law_495 ?_
      refine zS_lshl 498 rfl dL_law_497 ?_
      refine zS_aload_n 499 rfl 0 rfl dL_law_498 ?_
      refine zS_iload_n 500 rfl 3 rfl dL_law_499 ?_
      refine zS_iconst 501 rfl (2 : Int32) (by decide) dL_law_500 ?_
      refine zS_iadd 502 rfl dL_law_501 ?_
      refine zS_sald 503 rfl h0 dL_law_502 ?_
      refine zS_i2l 504 rfl dL_law_503 ?_
      refine zS_ldc2 507 rfl (4294967295 : Int64) zw1511 dL_law_504 ?_
      refine zS_land 508 rfl dL_law_507 ?_
      refine zS_lor 509 rfl dL_law_508 ?_
      refine zS_aload_n 510 rfl 0 rfl dL_law_509 ?_
      refine zS_iload_n 511 rfl 3 rfl dL_law_510 ?_
      refine zS_iconst 512 rfl (3 : Int32) (by decide) dL_law_511 ?_
      refine zS_iadd 513 rfl dL_law_512 ?_
      refine zS_sald 514 rfl h0 dL_law_513 ?_
      refine zS_cVi (as := [.long _, .int _]) (st := []) (g' := gX11_feed) 517 rfl (okX11_feed _ _ _ _ h1) dL_law_514 zC11 h1 zw632 cbX11_feed rfl rfl ⟨(by show 2 + 1 ≤ 1000; decide), (by decide)⟩ (Nat.le_of_ble_eq_true rfl) (fun r33 w34 => ?_)
      refine zS_aload_n 518 rfl 2 rfl dL_law_517 ?_
      refine zS_aload_n 519 rfl 0 rfl dL_law_518 ?_
      refine zS_iload_n 520 rfl 3 rfl dL_law_519 ?_
      refine zS_iconst 521 rfl (1 : Int32) (by decide) dL_law_520 ?_
      refine zS_iadd 522 rfl dL_law_521 ?_
      refine zS_sald 523 rfl h0 dL_law_522 ?_
      refine zS_i2l 524 rfl dL_law_523 ?_
      refine zS_bipush 526 rfl (32 : Int32) (by decide) dL_law_524 ?_
      refine zS_lshl 527 rfl dL_law_526 ?_
      refine zS_aload_n 528 rfl 0 rfl dL_law_527 ?_
      refine zS_iload_n 529 rfl 3 rfl dL_law_528 ?_
      refine zS_iconst 530 rfl (2 : Int32) (by decide) dL_law_529 ?_
      refine zS_iadd 531 rfl dL_law_530 ?_
      refine zS_sald 532 rfl h0 dL_law_531 ?_
      refine zS_i2l 533 rfl dL_law_532 ?_
      refine zS_ldc2 536 rfl (4294967295 : Int64) zw1511 dL_law_533 ?_
      refine zS_land 537 rfl dL_law_536 ?_
      refine zS_lor 538 rfl dL_law_537 ?_
      refine zS_aload_n 539 rfl 0 rfl dL_law_538 ?_
      refine zS_iload_n 540 rfl 3 rfl dL_law_539 ?_
      refine zS_iconst 541 rfl (3 : Int32) (by decide) dL_law_540 ?_
      refine zS_iadd 542 rfl dL_law_541 ?_
      refine zS_sald 543 rfl h0 dL_law_542 ?_
      refine zS_cVi (as := [.long _, .int _]) (st := [.int _]) (g' := gX12_feed) 546 rfl (okX12_feed _ _ _ _ h2) dL_law_543 zC12 h2 zw1309 cbX12_feed rfl rfl ⟨(by show 2 + 1 ≤ 1000; decide), (by decide)⟩ (Nat.le_of_ble_eq_true rfl) (fun r35 w36 => ?_)
      refine zS_icmp_eq 1409 549 rfl dL_law_546 (by decide) ?_ ?_
      · exact sL_law_1409 L xs k18 _ _ _ _ hk18 h0 h1 h2 _
      · refine zS_iconst 550 rfl (0 : Int32) (by decide) dL_law_549 ?_
        exact zS_retb dL_law_550 rfl
    refine zSw_in (c0 := (9 : Int32)) 9 551 dL_law_33 (by decide) (by decide) rfl (by decide) ?_ ?_
    · refine zS_aload_n 552 rfl 1 rfl dL_law_551 ?_
      refine zS_aload_n 553 rfl 0 rfl dL_law_552 ?_
      refine zS_iload_n 554 rfl 3 rfl dL_law_553 ?_
      refine zS_iconst 555 rfl (1 : Int32) (by decide) dL_law_554 ?_
      refine zS_iadd 556 rfl dL_law_555 ?_
      refine zS_sald 557 rfl h0 dL_law_556 ?_
      refine zS_cVi (as := [.int _]) (st := []) (g' := gX11_text) 560 rfl (okX11_text _ _ _ h1) dL_law_557 zC11 h1 zw640 cbX11_text rfl rfl ⟨(by show 46 + 1 ≤ 1000; decide), (by decide)⟩ (Nat.le_of_ble_eq_true rfl) (fun r37 w38 => ?_)
      refine zS_aload_n 561 rfl 2 rfl dL_law_560 ?_
      refine zS_aload_n 562 rfl 0 rfl dL_law_561 ?_
      refine zS_iload_n 563 rfl 3 rfl dL_law_562 ?_
      refine zS_iconst 564 rfl (1 : Int32) (by decide) dL_law_563 ?_
      refine zS_iadd 565 rfl dL_law_564 ?_
      refine zS_sald 566 rfl h0 dL_law_565 ?_
      refine zS_cVi (as := [.int _]) (st := [.int _]) (g' := gX12_text) 569 rfl (okX12_text _ _ _ h2) dL_law_566 zC12 h2 zw1314 cbX12_text rfl rfl ⟨(by show 46 + 1 ≤ 1000; decide), (by decide)⟩ (Nat.le_of_ble_eq_true rfl) (fun r39 w40 => ?_)
      refine zS_icmp_eq 1409 572 rfl dL_law_569 (by decide) ?_ ?_
      · exact sL_law_1409 L xs k18 _ _ _ _ hk18 h0 h1 h2 _
      · refine zS_iconst 573 rfl (0 : Int32) (by decide) dL_law_572 ?_
        exact zS_retb dL_law_573 rfl
    refine zSw_in (c0 := (10 : Int32)) 10 574 dL_law_33 (by decide) (by decide) rfl (by decide) ?_ ?_
    · refine zS_aload_n 575 rfl 1 rfl dL_law_574 ?_
      refine zS_aload_n 576 rfl 0 rfl dL_law_575 ?_
      refine zS_iload_n 577 rfl 3 rfl dL_law_576 ?_
      refine zS_iconst 578 rfl (1 : Int32) (by decide) dL_law_577 ?_
      refine zS_iadd 579 rfl dL_law_578 ?_
      refine zS_sald 580 rfl h0 dL_law_579 ?_
      refine zS_aload_n 581 rfl 0 rfl dL_law_580 ?_
      refine zS_iload_n 582 rfl 3 rfl dL_law_581 ?_
      refine zS_iconst 583 rfl (2 : Int32) (by decide) dL_law_582 ?_
      refine zS_iadd 584 rfl dL_law_583 ?_
      refine zS_sald 585 rfl h0 dL_law_584 ?_
      refine zS_aload_n 586 rfl 0 rfl dL_law_585 ?_
      refine zS_iload_n 587 rfl 3 rfl dL_law_586 ?_
      refine zS_iconst 588 rfl (3 : Int32) (by decide) dL_law_587 ?_
      refine zS_iadd 589 rfl dL_law_588 ?_
      refine zS_sald 590 rfl h0 dL_law_589 ?_
      refine zS_cVi (as := [.int _, .int _, .int _]) (st := []) (g' := gX11_force) 593 rfl (okX11_force _ _ _ _ _ h1) dL_law_590 zC11 h1 zw771 cbX11_force rfl rfl ⟨(by show 5 + 1 ≤ 1000; decide), (by decide)⟩ (Nat.le_of_ble_eq_true rfl) (fun r41 w42 => ?_)
      refine zS_aload_n 594 rfl 2 rfl dL_law_593 ?_
      refine zS_aload_n 595 rfl 0 rfl dL_law_594 ?_
      refine zS_iload_n 596 rfl 3 rfl dL_law_595 ?_
      refine zS_iconst 597 rfl (1 : Int32) (by decide) dL_law_596 ?_
      refine zS_iadd 598 rfl dL_law_597 ?_
      refine zS_sald 599 rfl h0 dL_law_598 ?_
      refine zS_aload_n 600 rfl 0 rfl dL_law_599 ?_
      refine zS_iload_n 601 rfl 3 rfl dL_law_600 ?_
      refine zS_iconst 602 rfl (2 : Int32) (by decide) dL_law_601 ?_
      refine zS_iadd 603 rfl dL_law_602 ?_
      refine zS_sald 604 rfl h0 dL_law_603 ?_
      refine zS_aload_n 605 rfl 0 rfl dL_law_604 ?_
      refine zS_iload_n 606 rfl 3 rfl dL_law_605 ?_
      refine zS_iconst 607 rfl (3 : Int32) (by decide) dL_law_606 ?_
      refine zS_iadd 608 rfl dL_law_607 ?_
      refine zS_sald 609 rfl h0 dL_law_608 ?_
      refine zS_cVi (as := [.int _, .int _, .int _]) (st := [.int _]) (g' := gX12_force) 612 rfl (okX12_force _ _ _ _ _ h2) dL_law_609 zC12 h2 zw1345 cbX12_force rfl rfl ⟨(by show 47 + 1 ≤ 1000; decide), (by decide)⟩ (Nat.le_of_ble_eq_true rfl) (fun r43 w44 => ?_)
      refine zS_icmp_eq 1409 615 rfl dL_law_612 (by decide) ?_ ?_
      · exact sL_law_1409 L xs k18 _ _ _ _ hk18 h0 h1 h2 _
      · refine zS_iconst 616 rfl (0 : Int32) (by decide) dL_law_615 ?_
        exact zS_retb dL_law_616 rfl
    refine zSw_in (c0 := (11 : Int32)) 11 617 dL_law_33 (by decide) (by decide) rfl (by decide) ?_ ?_
    · refine zS_aload_n 618 rfl 1 rfl dL_law_617 ?_
      refine zS_aload_n 619 rfl 0 rfl dL_law_618 ?_
      refine zS_iload_n 620 rfl 3 rfl dL_law_619 ?_
      refine zS_iconst 621 rfl (1 : Int32) (by decide) dL_law_620 ?_
      refine zS_iadd 622 rfl dL_law_621 ?_
      refine zS_sald 623 rfl h0 dL_law_622 ?_
      refine zS_aload_n 624 rfl 0 rfl dL_law_623 ?_
      refine zS_iload_n 625 rfl 3 rfl dL_law_624 ?_
      refine zS_iconst 626 rfl (2 : Int32) (by decide) dL_law_625 ?_
      refine zS_iadd 627 rfl dL_law_626 ?_
      refine zS_sald 628 rfl h0 dL_law_627 ?_
      refine zS_aload_n 629 rfl 0 rfl dL_law_628 ?_
      refine zS_iload_n 630 rfl 3 rfl dL_law_629 ?_
      refine zS_iconst 631 rfl (3 : Int32) (by decide) dL_law_630 ?_
      refine zS_iadd 632 rfl dL_law_631 ?_
      refine zS_sald 633 rfl h0 dL_law_632 ?_
      refine zS_cVi (as := [.int _, .int _, .int _]) (st := []) (g' := gX11_why) 636 rfl (okX11_why _ _ _ _ _ h1) dL_law_633 zC11 h1 zw785 cbX11_why rfl rfl ⟨(by show 5 + 1 ≤ 1000; decide), (by decide)⟩ (Nat.le_of_ble_eq_true rfl) (fun r45 w46 => ?_)
      refine zS_aload_n 637 rfl 2 rfl dL_law_636 ?_
      refine zS_aload_n 638 rfl 0 rfl dL_law_637 ?_
      refine zS_iload_n 639 rfl 3 rfl dL_law_638 ?_
      refine zS_iconst 640 rfl (1 : Int32) (by decide) dL_law_639 ?_
      refine zS_iadd 641 rfl dL_law_640 ?_
      refine zS_sald 642 rfl h0 dL_law_641 ?_
      refine zS_aload_n 643 rfl 0 rfl dL_law_642 ?_
      refine zS_iload_n 644 rfl 3 rfl dL_law_643 ?_
      refine zS_iconst 645 rfl (2 : Int32) (by decide) dL_law_644 ?_
      refine zS_iadd 646 rfl dL_law_645 ?_
      refine zS_sald 647 rfl h0 dL_law_646 ?_
      refine zS_aload_n 648 rfl 0 rfl dL_law_647 ?_
      refine zS_iload_n 649 rfl 3 rfl dL_law_648 ?_
      refine zS_iconst 650 rfl (3 : Int32) (by decide) dL_law_649 ?_
      refine zS_iadd 651 rfl dL_law_650 ?_
      refine zS_sald 652 rfl h0 dL_law_651 ?_
      refine zS_cVi (as := [.int _, .int _, .int _]) (st := [.int _]) (g' := gX12_why) 655 rfl (okX12_why _ _ _ _ _ h2) dL_law_652 zC12 h2 zw1353 cbX12_why rfl rfl ⟨(by show 46 + 1 ≤ 1000; decide), (by decide)⟩ (Nat.le_of_ble_eq_true rfl) (fun r47 w48 => ?_)
      refine zS_icmp_eq 1409 658 rfl dL_law_655 (by decide) ?_ ?_
      · exact sL_law_1409 L xs k18 _ _ _ _ hk18 h0 h1 h2 _
      · refine zS_iconst 659 rfl (0 : Int32) (by decide) dL_law_658 ?_
        exact zS_retb dL_law_659 rfl
    refine zSw_in (c0 := (12 : Int32)) 12 660 dL_law_33 (by decide) (by decide) rfl (by decide) ?_ ?_
    · refine zS_aload_n 661 rfl 1 rfl dL_law_660 ?_
      refine zS_aload_n 662 rfl 0 rfl dL_law_661 ?_
      refine zS_iload_n 663 rfl 3 rfl dL_law_662 ?_
      refine zS_iconst 664 rfl (1 : Int32) (by decide) dL_law_663 ?_
      refine zS_iadd 665 rfl dL_law_664 ?_
      refine zS_sald 666 rfl h0 dL_law_665 ?_
      refine zS_aload_n 667 rfl 0 rfl dL_law_666 ?_
      refine zS_iload_n 668 rfl 3 rfl dL_law_667 ?_
      refine zS_iconst 669 rfl (2 : Int32) (by decide) dL_law_668 ?_
      refine zS_iadd 670 rfl dL_law_669 ?_
      refine zS_sald 671 rfl h0 dL_law_670 ?_
      refine zS_aload_n 672 rfl 0 rfl dL_law_671 ?_
      refine zS_iload_n 673 rfl 3 rfl dL_law_672 ?_
      refine zS_iconst 674 rfl (3 : Int32) (by decide) dL_law_673 ?_
      refine zS_iadd 675 rfl dL_law_674 ?_
      refine zS_sald 676 rfl h0 dL_law_675 ?_
      refine zS_aload_n 677 rfl 0 rfl dL_law_676 ?_
      refine zS_iload_n 678 rfl 3 rfl dL_law_677 ?_
      refine zS_iconst 679 rfl (4 : Int32) (by decide) dL_law_678 ?_
      refine zS_iadd 680 rfl dL_law_679 ?_
      refine zS_sald 681 rfl h0 dL_law_680 ?_
      refine zS_aload_n 682 rfl 0 rfl dL_law_681 ?_
      refine zS_iload_n 683 rfl 3 rfl dL_law_682 ?_
      refine zS_iconst 684 rfl (5 : Int32) (by decide) dL_law_683 ?_
      refine zS_iadd 685 rfl dL_law_684 ?_
      refine zS_sald 686 rfl h0 dL_law_685 ?_
      refine zS_cVi (as := [.int _, .int _, .int _, .int _, .int _]) (st := []) (g' := gX11_taker) 689 rfl (okX11_taker _ _ _ _ _ _ _ h1) dL_law_686 zC11 h1 zw789 cbX11_taker rfl rfl ⟨(by show 2 + 1 ≤ 1000; decide), (by decide)⟩ (Nat.le_of_ble_eq_true rfl) (fun r49 w50 => ?_)
      refine zS_aload_n 690 rfl 2 rfl dL_law_689 ?_
      refine zS_aload_n 691 rfl 0 rfl dL_law_690 ?_
      refine zS_iload_n 692 rfl 3 rfl dL_law_691 ?_
      refine zS_iconst 693 rfl (1 : Int32) (by decide) dL_law_692 ?_
      refine zS_iadd 694 rfl dL_law_693 ?_
      refine zS_sald 695 rfl h0 dL_law_694 ?_
      refine zS_aload_n 696 rfl 0 rfl dL_law_695 ?_
      refine zS_iload_n 697 rfl 3 rfl dL_law_696 ?_
      refine zS_iconst 698 rfl (2 : Int32) (by decide) dL_law_697 ?_
      refine zS_iadd 699 rfl dL_law_698 ?_
      refine zS_sald 700 rfl h0 dL_law_699 ?_
      refine zS_aload_n 701 rfl 0 rfl dL_law_700 ?_
      refine zS_iload_n 702 rfl 3 rfl dL_law_701 ?_
      refine zS_iconst 703 rfl (3 : Int32) (by decide) dL_law_702 ?_
      refine zS_iadd 704 rfl dL_law_703 ?_
      refine zS_sald 705 rfl h0 dL_law_704 ?_
      refine zS_aload_n 706 rfl 0 rfl dL_law_705 ?_
      refine zS_iload_n 707 rfl 3 rfl dL_law_706 ?_
      refine zS_iconst 708 rfl (4 : Int32) (by decide) dL_law_707 ?_
      refine zS_iadd 709 rfl dL_law_708 ?_
      refine zS_sald 710 rfl h0 dL_law_709 ?_
      refine zS_aload_n 711 rfl 0 rfl dL_law_710 ?_
      refine zS_iload_n 712 rfl 3 rfl dL_law_711 ?_
      refine zS_iconst 713 rfl (5 : Int32) (by decide) dL_law_712 ?_
      refine zS_iadd 714 rfl dL_law_713 ?_
      refine zS_sald 715 rfl h0 dL_law_714 ?_
      refine zS_cVi (as := [.int _, .int _, .int _, .int _, .int _]) (st := [.int _]) (g' := gX12_taker) 718 rfl (okX12_taker _ _ _ _ _ _ _ h2) dL_law_715 zC12 h2 zw1357 cbX12_taker rfl rfl ⟨(by show 2 + 1 ≤ 1000; decide), (by decide)⟩ (Nat.le_of_ble_eq_true rfl) (fun r51 w52 => ?_)
      refine zS_icmp_eq 1409 721 rfl dL_law_718 (by decide) ?_ ?_
      · exact sL_law_1409 L xs k18 _ _ _ _ hk18 h0 h1 h2 _
      · refine zS_iconst 722 rfl (0 : Int32) (by decide) dL_law_721 ?_
        exact zS_retb dL_law_722 rfl
    refine zSw_in (c0 := (13 : Int32)) 13 723 dL_law_33 (by decide) (by decide) rfl (by decide) ?_ ?_
    · refine zS_aload_n 724 rfl 1 rfl dL_law_723 ?_
      refine zS_aload_n 725 rfl 0 rfl dL_law_724 ?_
      refine zS_iload_n 726 rfl 3 rfl dL_law_725 ?_
      refine zS_iconst 727 rfl (1 : Int32) (by decide) dL_law_726 ?_
      refine zS_iadd 728 rfl dL_law_727 ?_
      refine zS_sald 729 rfl h0 dL_law_728 ?_
      refine zS_aload_n 730 rfl 0 rfl dL_law_729 ?_
      refine zS_iload_n 731 rfl 3 rfl dL_law_730 ?_
      refine zS_iconst 732 rfl (2 : Int32) (by decide) dL_law_731 ?_
      refine zS_iadd 733 rfl dL_law_732 ?_
      refine zS_sald 734 rfl h0 dL_law_733 ?_
      refine zS_cVi (as := [.int _, .int _]) (st := []) (g' := gX11_of) 737 rfl (okX11_of _ _ _ _ h1) dL_law_734 zC11 h1 zw797 cbX11_of rfl rfl ⟨(by show 6 + 1 ≤ 1000; decide), (by decide)⟩ (Nat.le_of_ble_eq_true rfl) (fun r53 w54 => ?_)
      refine zS_aload_n 738 rfl 2 rfl dL_law_737 ?_
      refine zS_aload_n 739 rfl 0 rfl dL_law_738 ?_
      refine zS_iload_n 740 rfl 3 rfl dL_law_739 ?_
      refine zS_iconst 741 rfl (1 : Int32) (by decide) dL_law_740 ?_
      refine zS_iadd 742 rfl dL_law_741 ?_
      refine zS_sald 743 rfl h0 dL_law_742 ?_
      refine zS_aload_n 744 rfl 0 rfl dL_law_743 ?_
      refine zS_iload_n 745 rfl 3 rfl dL_law_744 ?_
      refine zS_iconst 746 rfl (2 : Int32) (by decide) dL_law_745 ?_
      refine zS_iadd 747 rfl dL_law_746 ?_
      refine zS_sald 748 rfl h0 dL_law_747 ?_
      refine zS_cVi (as := [.int _, .int _]) (st := [.int _]) (g' := gX12_of) 751 rfl (okX12_of _ _ _ _ h2) dL_law_748 zC12 h2 zw1361 cbX12_of rfl rfl ⟨(by show 49 + 1 ≤ 1000; decide), (by decide)⟩ (Nat.le_of_ble_eq_true rfl) (fun r55 w56 => ?_)
      refine zS_icmp_eq 1409 754 rfl dL_law_751 (by decide) ?_ ?_
      · exact sL_law_1409 L xs k18 _ _ _ _ hk18 h0 h1 h2 _
      · refine zS_iconst 755 rfl (0 : Int32) (by decide) dL_law_754 ?_
        exact zS_retb dL_law_755 rfl
    refine zSw_in (c0 := (14 : Int32)) 14 756 dL_law_33 (by decide) (by decide) rfl (by decide) ?_ ?_
    · refine zS_aload_n 757 rfl 1 rfl dL_law_756 ?_
      refine zS_aload_n 758 rfl 0 rfl dL_law_757 ?_
      refine zS_iload_n 759 rfl 3 rfl dL_law_758 ?_
      refine zS_iconst 760 rfl (1 : Int32) (by decide) dL_law_759 ?_
      refine zS_iadd 761 rfl dL_law_760 ?_
      refine zS_sald 762 rfl h0 dL_law_761 ?_
      refine zS_aload_n 763 rfl 0 rfl dL_law_762 ?_
      refine zS_iload_n 764 rfl 3 rfl dL_law_763 ?_
      refine zS_iconst 765 rfl (2 : Int32) (by decide) dL_law_764 ?_
      refine zS_iadd 766 rfl dL_law_765 ?_
      refine zS_sald 767 rfl h0 dL_law_766 ?_
      refine zS_cVi (as := [.int _, .int _]) (st := []) (g' := gX11_as) 770 rfl (okX11_as _ _ _ _ h1) dL_law_767 zC11 h1 zw824 cbX11_as rfl rfl ⟨(by show 3 + 1 ≤ 1000; decide), (by decide)⟩ (Nat.le_of_ble_eq_true rfl) (fun r57 w58 => ?_)
      refine zS_aload_n 771 rfl 2 rfl dL_law_770 ?_
      refine zS_aload_n 772 rfl 0 rfl dL_law_771 ?_
      refine zS_iload_n 773 rfl 3 rfl dL_law_772 ?_
      refine zS_iconst 774 rfl (1 : Int32) (by decide) dL_law_773 ?_
      refine zS_iadd 775 rfl dL_law_774 ?_
      refine zS_sald 776 rfl h0 dL_law_775 ?_
      refine zS_aload_n 777 rfl 0 rfl dL_law_776 ?_
      refine zS_iload_n 778 rfl 3 rfl dL_law_777 ?_
      refine zS_iconst 779 rfl (2 : Int32) (by decide) dL_law_778 ?_
      refine zS_iadd 780 rfl dL_law_779 ?_
      refine zS_sald 781 rfl h0 dL_law_780 ?_
      refine zS_cVi (as := [.int _, .int _]) (st := [.int _]) (g' := gX12_as) 784 rfl (okX12_as _ _ _ _ h2) dL_law_781 zC12 h2 zw1377 cbX12_as rfl rfl ⟨(by show 3 + 1 ≤ 1000; decide), (by decide)⟩ (Nat.le_of_ble_eq_true rfl) (fun r59 w60 => ?_)
      refine zS_icmp_eq 1409 787 rfl dL_law_784 (by decide) ?_ ?_
      · exact sL_law_1409 L xs k18 _ _ _ _ hk18 h0 h1 h2 _
      · refine zS_iconst 788 rfl (0 : Int32) (by decide) dL_law_787 ?_
        exact zS_retb dL_law_788 rfl
    refine zSw_in (c0 := (15 : Int32)) 15 789 dL_law_33 (by decide) (by decide) rfl (by decide) ?_ ?_
    · refine zS_aload_n 790 rfl 1 rfl dL_law_789 ?_
      refine zS_aload_n 791 rfl 0 rfl dL_law_790 ?_
      refine zS_iload_n 792 rfl 3 rfl dL_law_791 ?_
      refine zS_iconst 793 rfl (1 : Int32) (by decide) dL_law_792 ?_
      refine zS_iadd 794 rfl dL_law_793 ?_
      refine zS_sald 795 rfl h0 dL_law_794 ?_
      refine zS_aload_n 796 rfl 0 rfl dL_law_795 ?_
      refine zS_iload_n 797 rfl 3 rfl dL_law_796 ?_
      refine zS_iconst 798 rfl (2 : Int32) (by decide) dL_law_797 ?_
      refine zS_iadd 799 rfl dL_law_798 ?_
      refine zS_sald 800 rfl h0 dL_law_799 ?_
      refine zS_cVi (as := [.int _, .int _]) (st := []) (g' := gX11_row) 803 rfl (okX11_row _ _ _ _ h1) dL_law_800 zC11 h1 zw833 cbX11_row rfl rfl ⟨(by show 6 + 1 ≤ 1000; decide), (by decide)⟩ (Nat.le_of_ble_eq_true rfl) (fun r61 w62 => ?_)
      refine zS_aload_n 804 rfl 2 rfl dL_law_803 ?_
      refine zS_aload_n 805 rfl 0 rfl dL_law_804 ?_
      refine zS_iload_n 806 rfl 3 rfl dL_law_805 ?_
      refine zS_iconst 807 rfl (1 : Int32) (by decide) dL_law_806 ?_
      refine zS_iadd 808 rfl dL_law_807 ?_
      refine zS_sald 809 rfl h0 dL_law_808 ?_
      refine zS_aload_n 810 rfl 0 rfl dL_law_809 ?_
      refine zS_iload_n 811 rfl 3 rfl dL_law_810 ?_
      refine zS_iconst 812 rfl (2 : Int32) (by decide) dL_law_811 ?_
      refine zS_iadd 813 rfl dL_law_812 ?_
      refine zS_sald 814 rfl h0 dL_law_813 ?_
      refine zS_cVi (as := [.int _, .int _]) (st := [.int _]) (g' := gX12_row) 817 rfl (okX12_row _ _ _ _ h2) dL_law_814 zC12 h2 zw1381 cbX12_row rfl rfl ⟨(by show 49 + 1 ≤ 1000; decide), (by decide)⟩ (Nat.le_of_ble_eq_true rfl) (fun r63 w64 => ?_)
      refine zS_icmp_eq 1409 820 rfl dL_law_817 (by decide) ?_ ?_
      · exact sL_law_1409 L xs k18 _ _ _ _ hk18 h0 h1 h2 _
      · refine zS_iconst 821 rfl (0 : Int32) (by decide) dL_law_820 ?_
        exact zS_retb dL_law_821 rfl
    refine zSw_in (c0 := (16 : Int32)) 16 822 dL_law_33 (by decide) (by decide) rfl (by decide) ?_ ?_
    · refine zS_aload_n 823 rfl 1 rfl dL_law_822 ?_
      refine zS_aload_n 824 rfl 0 rfl dL_law_823 ?_
      refine zS_iload_n 825 rfl 3 rfl dL_law_824 ?_
      refine zS_iconst 826 rfl (1 : Int32) (by decide) dL_law_825 ?_
      refine zS_iadd 827 rfl dL_law_826 ?_
      refine zS_sald 828 rfl h0 dL_law_827 ?_
      refine zS_aload_n 829 rfl 0 rfl dL_law_828 ?_
      refine zS_iload_n 830 rfl 3 rfl dL_law_829 ?_
      refine zS_iconst 831 rfl (2 : Int32) (by decide) dL_law_830 ?_
      refine zS_iadd 832 rfl dL_law_831 ?_
      refine zS_sald 833 rfl h0 dL_law_832 ?_
      refine zS_aload_n 834 rfl 0 rfl dL_law_833 ?_
      refine zS_iload_n 835 rfl 3 rfl dL_law_834 ?_
      refine zS_iconst 836 rfl (3 : Int32) (by decide) dL_law_835 ?_
      refine zS_iadd 837 rfl dL_law_836 ?_
      refine zS_sald 838 rfl h0 dL_law_837 ?_
      refine zS_aload_n 839 rfl 0 rfl dL_law_838 ?_
      refine zS_iload_n 840 rfl 3 rfl dL_law_839 ?_
      refine zS_iconst 841 rfl (4 : Int32) (by decide) dL_law_840 ?_
      refine zS_iadd 842 rfl dL_law_841 ?_
      refine zS_sald 843 rfl h0 dL_law_842 ?_
      refine zS_cVi (as := [.int _, .int _, .int _, .int _]) (st := []) (g' := gX11_sell) 846 rfl (okX11_sell _ _ _ _ _ _ h1) dL_law_843 zC11 h1 zw837 cbX11_sell rfl rfl ⟨(by show 3 + 1 ≤ 1000; decide), (by decide)⟩ (Nat.le_of_ble_eq_true rfl) (fun r65 w66 => ?_)
      refine zS_aload_n 847 rfl 2 rfl dL_law_846 ?_
      refine zS_aload_n 848 rfl 0 rfl dL_law_847 ?_
      refine zS_iload_n 849 rfl 3 rfl dL_law_848 ?_
      refine zS_iconst 850 rfl (1 : Int32) (by decide) dL_law_849 ?_
      refine zS_iadd 851 rfl dL_law_850 ?_
      refine zS_sald 852 rfl h0 dL_law_851 ?_
      refine zS_aload_n 853 rfl 0 rfl dL_law_852 ?_
      refine zS_iload_n 854 rfl 3 rfl dL_law_853 ?_
      refine zS_iconst 855 rfl (2 : Int32) (by decide) dL_law_854 ?_
      refine zS_iadd 856 rfl dL_law_855 ?_
      refine zS_sald 857 rfl h0 dL_law_856 ?_
      refine zS_aload_n 858 rfl 0 rfl dL_law_857 ?_
      refine zS_iload_n 859 rfl 3 rfl dL_law_858 ?_
      refine zS_iconst 860 rfl (3 : Int32) (by decide) dL_law_859 ?_
      refine zS_iadd 861 rfl dL_law_860 ?_
      refine zS_sald 862 rfl h0 dL_law_861 ?_
      refine zS_aload_n 863 rfl 0 rfl dL_law_862 ?_
      refine zS_iload_n 864 rfl 3 rfl dL_law_863 ?_
      refine zS_iconst 865 rfl (4 : Int32) (by decide) dL_law_864 ?_
      refine zS_iadd 866 rfl dL_law_865 ?_
      refine zS_sald 867 rfl h0 dL_law_866 ?_
      refine zS_cVi (as := [.int _, .int _, .int _, .int _]) (st := [.int _]) (g' := gX12_sell) 870 rfl (okX12_sell _ _ _ _ _ _ h2) dL_law_867 zC12 h2 zw1385 cbX12_sell rfl rfl ⟨(by show 3 + 1 ≤ 1000; decide), (by decide)⟩ (Nat.le_of_ble_eq_true rfl) (fun r67 w68 => ?_)
      refine zS_icmp_eq 1409 873 rfl dL_law_870 (by decide) ?_ ?_
      · exact sL_law_1409 L xs k18 _ _ _ _ hk18 h0 h1 h2 _
      · refine zS_iconst 874 rfl (0 : Int32) (by decide) dL_law_873 ?_
        exact zS_retb dL_law_874 rfl
    refine zSw_in (c0 := (17 : Int32)) 17 875 dL_law_33 (by decide) (by decide) rfl (by decide) ?_ ?_
    · refine zS_aload_n 876 rfl 1 rfl dL_law_875 ?_
      refine zS_aload_n 877 rfl 0 rfl dL_law_876 ?_
      refine zS_iload_n 878 rfl 3 rfl dL_law_877 ?_
      refine zS_iconst 879 rfl (1 : Int32) (by decide) dL_law_878 ?_
      refine zS_iadd 880 rfl dL_law_879 ?_
      refine zS_sald 881 rfl h0 dL_law_880 ?_
      refine zS_aload_n 882 rfl 0 rfl dL_law_881 ?_
      refine zS_iload_n 883 rfl 3 rfl dL_law_882 ?_
      refine zS_iconst 884 rfl (2 : Int32) (by decide) dL_law_883 ?_
      refine zS_iadd 885 rfl dL_law_884 ?_
      refine zS_sald 886 rfl h0 dL_law_885 ?_
      refine zS_aload_n 887 rfl 0 rfl dL_law_886 ?_
      refine zS_iload_n 888 rfl 3 rfl dL_law_887 ?_
      refine zS_iconst 889 rfl (3 : Int32) (by decide) dL_law_888 ?_
      refine zS_iadd 890 rfl dL_law_889 ?_
      refine zS_sald 891 rfl h0 dL_law_890 ?_
      refine zS_cVi (as := [.int _, .int _, .int _]) (st := []) (g' := gX11_whose) 894 rfl (okX11_whose _ _ _ _ _ h1) dL_law_891 zC11 h1 zw845 cbX11_whose rfl rfl ⟨(by show 3 + 1 ≤ 1000; decide), (by decide)⟩ (Nat.le_of_ble_eq_true rfl) (fun r69 w70 => ?_)
      refine zS_aload_n 895 rfl 2 rfl dL_law_894 ?_
      refine zS_aload_n 896 rfl 0 rfl dL_law_895 ?_
      refine zS_iload_n 897 rfl 3 rfl dL_law_896 ?_
      refine zS_iconst 898 rfl (1 : Int32) (by decide) dL_law_897 ?_
      refine zS_iadd 899 rfl dL_law_898 ?_
      refine zS_sald 900 rfl h0 dL_law_899 ?_
      refine zS_aload_n 901 rfl 0 rfl dL_law_900 ?_
      refine zS_iload_n 902 rfl 3 rfl dL_law_901 ?_
      refine zS_iconst 903 rfl (2 : Int32) (by decide) dL_law_902 ?_
      refine zS_iadd 904 rfl dL_law_903 ?_
      refine zS_sald 905 rfl h0 dL_law_904 ?_
      refine zS_aload_n 906 rfl 0 rfl dL_law_905 ?_
      refine zS_iload_n 907 rfl 3 rfl dL_law_906 ?_
      refine zS_iconst 908 rfl (3 : Int32) (by decide) dL_law_907 ?_
      refine zS_iadd 909 rfl dL_law_908 ?_
      refine zS_sald 910 rfl h0 dL_law_909 ?_
      refine zS_cVi (as := [.int _, .int _, .int _]) (st := [.int _]) (g' := gX12_whose) 913 rfl (okX12_whose _ _ _ _ _ h2) dL_law_910 zC12 h2 zw1392 cbX12_whose rfl rfl ⟨(by show 3 + 1 ≤ 1000; decide), (by decide)⟩ (Nat.le_of_ble_eq_true rfl) (fun r71 w72 => ?_)
      refine zS_icmp_eq 1409 916 rfl dL_law_913 (by decide) ?_ ?_
      · exact sL_law_1409 L xs k18 _ _ _ _ hk18 h0 h1 h2 _
      · refine zS_iconst 917 rfl (0 : Int32) (by decide) dL_law_916 ?_
        exact zS_retb dL_law_917 rfl
    refine zSw_in (c0 := (18 : Int32)) 18 918 dL_law_33 (by decide) (by decide) rfl (by decide) ?_ ?_
    · refine zS_aload_n 919 rfl 1 rfl dL_law_918 ?_
      refine zS_aload_n 920 rfl 0 rfl dL_law_919 ?_
      refine zS_iload_n 921 rfl 3 rfl dL_law_920 ?_
      refine zS_iconst 922 rfl (1 : Int32) (by decide) dL_law_921 ?_
      refine zS_iadd 923 rfl dL_law_922 ?_
      refine zS_sald 924 rfl h0 dL_law_923 ?_
      refine zS_aload_n 925 rfl 0 rfl dL_law_924 ?_
      refine zS_iload_n 926 rfl 3 rfl dL_law_925 ?_
      refine zS_iconst 927 rfl (2 : Int32) (by decide) dL_law_926 ?_
      refine zS_iadd 928 rfl dL_law_927 ?_
      refine zS_sald 929 rfl h0 dL_law_928 ?_
      refine zS_cVi (as := [.int _, .int _]) (st := []) (g' := gX11_used) 932 rfl (okX11_used _ _ _ _ h1) dL_law_929 zC11 h1 zw857 cbX11_used rfl rfl ⟨(by show 3 + 1 ≤ 1000; decide), (by decide)⟩ (Nat.le_of_ble_eq_true rfl) (fun r73 w74 => ?_)
      refine zS_aload_n 933 rfl 2 rfl dL_law_932 ?_
      refine zS_aload_n 934 rfl 0 rfl dL_law_933 ?_
      refine zS_iload_n 935 rfl 3 rfl dL_law_934 ?_
      refine zS_iconst 936 rfl (1 : Int32) (by decide) dL_law_935 ?_
      refine zS_iadd 937 rfl dL_law_936 ?_
      refine zS_sald 938 rfl h0 dL_law_937 ?_
      refine zS_aload_n 939 rfl 0 rfl dL_law_938 ?_
      refine zS_iload_n 940 rfl 3 rfl dL_law_939 ?_
      refine zS_iconst 941 rfl (2 : Int32) (by decide) dL_law_940 ?_
      refine zS_iadd 942 rfl dL_law_941 ?_
      refine zS_sald 943 rfl h0 dL_law_942 ?_
      refine zS_cVi (as := [.int _, .int _]) (st := [.int _]) (g' := gX12_used) 946 rfl (okX12_used _ _ _ _ h2) dL_law_943 zC12 h2 zw1396 cbX12_used rfl rfl ⟨(by show 3 + 1 ≤ 1000; decide), (by decide)⟩ (Nat.le_of_ble_eq_true rfl) (fun r75 w76 => ?_)
      refine zS_icmp_eq 1409 949 rfl dL_law_946 (by decide) ?_ ?_
      · exact sL_law_1409 L xs k18 _ _ _ _ hk18 h0 h1 h2 _
      · refine zS_iconst 950 rfl (0 : Int32) (by decide) dL_law_949 ?_
        exact zS_retb dL_law_950 rfl
    refine zSw_in (c0 := (19 : Int32)) 19 951 dL_law_33 (by decide) (by decide) rfl (by decide) ?_ ?_
    · refine zS_aload_n 952 rfl 1 rfl dL_law_951 ?_
      refine zS_aload_n 953 rfl 0 rfl dL_law_952 ?_
      refine zS_iload_n 954 rfl 3 rfl dL_law_953 ?_
      refine zS_iconst 955 rfl (1 : Int32) (by decide) dL_law_954 ?_
      refine zS_iadd 956 rfl dL_law_955 ?_
      refine zS_sald 957 rfl h0 dL_law_956 ?_
      refine zS_aload_n 958 rfl 0 rfl dL_law_957 ?_
      refine zS_iload_n 959 rfl 3 rfl dL_law_958 ?_
      refine zS_iconst 960 rfl (2 : Int32) (by decide) dL_law_959 ?_
      refine zS_iadd 961 rfl dL_law_960 ?_
      refine zS_sald 962 rfl h0 dL_law_961 ?_
      refine zS_cVi (as := [.int _, .int _]) (st := []) (g' := gX11_lapsed) 965 rfl (okX11_lapsed _ _ _ _ h1) dL_law_962 zC11 h1 zw869 cbX11_lapsed rfl rfl ⟨(by show 6 + 1 ≤ 1000; decide), (by decide)⟩ (Nat.le_of_ble_eq_true rfl) (fun r77 w78 => ?_)
      refine zS_aload_n 966 rfl 2 rfl dL_law_965 ?_
      refine zS_aload_n 967 rfl 0 rfl dL_law_966 ?_
      refine zS_iload_n 968 rfl 3 rfl dL_law_967 ?_
      refine zS_iconst 969 rfl (1 : Int32) (by decide) dL_law_968 ?_
      refine zS_iadd 970 rfl dL_law_969 ?_
      refine zS_sald 971 rfl h0 dL_law_970 ?_
      refine zS_aload_n 972 rfl 0 rfl dL_law_971 ?_
      refine zS_iload_n 973 rfl 3 rfl dL_law_972 ?_
      refine zS_iconst 974 rfl (2 : Int32) (by decide) dL_law_973 ?_
      refine zS_iadd 975 rfl dL_law_974 ?_
      refine zS_sald 976 rfl h0 dL_law_975 ?_
      refine zS_cVi (as := [.int _, .int _]) (st := [.int _]) (g' := gX12_lapsed) 979 rfl (okX12_lapsed _ _ _ _ h2) dL_law_976 zC12 h2 zw1400 cbX12_lapsed rfl rfl ⟨(by show 48 + 1 ≤ 1000; decide), (by decide)⟩ (Nat.le_of_ble_eq_true rfl) (fun r79 w80 => ?_)
      refine zS_icmp_eq 1409 982 rfl dL_law_979 (by decide) ?_ ?_
      · exact sL_law_1409 L xs k18 _ _ _ _ hk18 h0 h1 h2 _
      · refine zS_iconst 983 rfl (0 : Int32) (by decide) dL_law_982 ?_
        exact zS_retb dL_law_983 rfl
    refine zSw_in (c0 := (20 : Int32)) 20 984 dL_law_33 (by decide) (by decide) rfl (by decide) ?_ ?_
    · refine zS_aload_n 985 rfl 1 rfl dL_law_984 ?_
      refine zS_aload_n 986 rfl 0 rfl dL_law_985 ?_
      refine zS_iload_n 987 rfl 3 rfl dL_law_986 ?_
      refine zS_iconst 988 rfl (1 : Int32) (by decide) dL_law_987 ?_
      refine zS_iadd 989 rfl dL_law_988 ?_
      refine zS_sald 990 rfl h0 dL_law_989 ?_
      refine zS_cVi (as := [.int _]) (st := []) (g' := gX11_mix) 993 rfl (okX11_mix _ _ _ h1) dL_law_990 zC11 h1 zw878 cbX11_mix rfl rfl ⟨(by show 7 + 1 ≤ 1000; decide), (by decide)⟩ (Nat.le_of_ble_eq_true rfl) (fun r81 w82 => ?_)
      refine zS_aload_n 994 rfl 2 rfl dL_law_993 ?_
      refine zS_aload_n 995 rfl 0 rfl dL_law_994 ?_
      refine zS_iload_n 996 rfl 3 rfl dL_law_995 ?_
      refine zS_iconst 997 rfl (1 : Int32) (by decide) dL_law_996 ?_
      refine zS_iadd 998 rfl dL_law_997 ?_
      refine zS_sald 999 rfl h0 dL_law_998 ?_
      refine zS_cVi (as := [.int _]) (st := [.int _]) (g' := gX12_mix) 1002 rfl (okX12_mix _ _ _ h2) dL_law_999 zC12 h2 zw1404 cbX12_mix rfl rfl ⟨(by show 50 + 1 ≤ 1000; decide), (by decide)⟩ (Nat.le_of_ble_eq_true rfl) (fun r83 w84 => ?_)
      refine zS_icmp_eq 1409 1005 rfl dL_law_1002 (by decide) ?_ ?_
      · exact sL_law_1409 L xs k18 _ _ _ _ hk18 h0 h1 h2 _
      · refine zS_iconst 1006 rfl (0 : Int32) (by decide) dL_law_1005 ?_
        exact zS_retb dL_law_1006 rfl
    refine zSw_in (c0 := (21 : Int32)) 21 1007 dL_law_33 (by decide) (by decide) rfl (by decide) ?_ ?_
    · refine zS_aload_n 1008 rfl 1 rfl dL_law_1007 ?_
      refine zS_aload_n 1009 rfl 0 rfl dL_law_1008 ?_
      refine zS_iload_n 1010 rfl 3 rfl dL_law_1009 ?_
      refine zS_iconst 1011 rfl (1 : Int32) (by decide) dL_law_1010 ?_
      refine zS_iadd 1012 rfl dL_law_1011 ?_
      refine zS_sald 1013 rfl h0 dL_law_1012 ?_
      refine zS_aload_n 1014 rfl 0 rfl dL_law_1013 ?_
      refine zS_iload_n 1015 rfl 3 rfl dL_law_1014 ?_
      refine zS_iconst 1016 rfl (2 : Int32) (by decide) dL_law_1015 ?_
      refine zS_iadd 1017 rfl dL_law_1016 ?_
      refine zS_sald 1018 rfl h0 dL_law_1017 ?_
      refine zS_cVi (as := [.int _, .int _]) (st := []) (g' := gX11_want) 1021 rfl (okX11_want _ _ _ _ h1) dL_law_1018 zC11 h1 zw909 cbX11_want rfl rfl ⟨(by show 6 + 1 ≤ 1000; decide), (by decide)⟩ (Nat.le_of_ble_eq_true rfl) (fun r85 w86 => ?_)
      refine zS_aload_n 1022 rfl 2 rfl dL_law_1021 ?_
      refine zS_aload_n 1023 rfl 0 rfl dL_law_1022 ?_
      refine zS_iload_n 1024 rfl 3 rfl dL_law_1023 ?_
      refine zS_iconst 1025 rfl (1 : Int32) (by decide) dL_law_1024 ?_
      refine zS_iadd 1026 rfl dL_law_1025 ?_
      refine zS_sald 1027 rfl h0 dL_law_1026 ?_
      refine zS_aload_n 1028 rfl 0 rfl dL_law_1027 ?_
      refine zS_iload_n 1029 rfl 3 rfl dL_law_1028 ?_
      refine zS_iconst 1030 rfl (2 : Int32) (by decide) dL_law_1029 ?_
      refine zS_iadd 1031 rfl dL_law_1030 ?_
      refine zS_sald 1032 rfl h0 dL_law_1031 ?_
      refine zS_cVi (as := [.int _, .int _]) (st := [.int _]) (g' := gX12_want) 1035 rfl (okX12_want _ _ _ _ h2) dL_law_1032 zC12 h2 zw1424 cbX12_want rfl rfl ⟨(by show 49 + 1 ≤ 1000; decide), (by decide)⟩ (Nat.le_of_ble_eq_true rfl) (fun r87 w88 => ?_)
      refine zS_icmp_eq 1409 1038 rfl dL_law_1035 (by decide) ?_ ?_
      · exact sL_law_1409 L xs k18 _ _ _ _ hk18 h0 h1 h2 _
      · refine zS_iconst 1039 rfl (0 : Int32) (by decide) dL_law_1038 ?_
        exact zS_retb dL_law_1039 rfl
    refine zSw_in (c0 := (22 : Int32)) 22 1040 dL_law_33 (by decide) (by decide) rfl (by decide) ?_ ?_
    · refine zS_aload_n 1041 rfl 1 rfl dL_law_1040 ?_
      refine zS_aload_n 1042 rfl 0 rfl dL_law_1041 ?_
      refine zS_iload_n 1043 rfl 3 rfl dL_law_1042 ?_
      refine zS_iconst 1044 rfl (1 : Int32) (by decide) dL_law_1043 ?_
      refine zS_iadd 1045 rfl dL_law_1044 ?_
      refine zS_sald 1046 rfl h0 dL_law_1045 ?_
      refine zS_aload_n 1047 rfl 0 rfl dL_law_1046 ?_
      refine zS_iload_n 1048 rfl 3 rfl dL_law_1047 ?_
      refine zS_iconst 1049 rfl (2 : Int32) (by decide) dL_law_1048 ?_
      refine zS_iadd 1050 rfl dL_law_1049 ?_
      refine zS_sald 1051 rfl h0 dL_law_1050 ?_
      refine zS_aload_n 1052 rfl 0 rfl dL_law_1051 ?_
      refine zS_iload_n 1053 rfl 3 rfl dL_law_1052 ?_
      refine zS_iconst 1054 rfl (3 : Int32) (by decide) dL_law_1053 ?_
      refine zS_iadd 1055 rfl dL_law_1054 ?_
      refine zS_sald 1056 rfl h0 dL_law_1055 ?_
      refine zS_aload_n 1057 rfl 0 rfl dL_law_1056 ?_
      refine zS_iload_n 1058 rfl 3 rfl dL_law_1057 ?_
      refine zS_iconst 1059 rfl (4 : Int32) (by decide) dL_law_1058 ?_
      refine zS_iadd 1060 rfl dL_law_1059 ?_
      refine zS_sald 1061 rfl h0 dL_law_1060 ?_
      refine zS_cVi (as := [.int _, .int _, .int _, .int _]) (st := []) (g' := gX11_look) 1064 rfl (okX11_look _ _ _ _ _ _ h1) dL_law_1061 zC11 h1 zw926 cbX11_look rfl rfl ⟨(by show 3 + 1 ≤ 1000; decide), (by decide)⟩ (Nat.le_of_ble_eq_true rfl) (fun r89 w90 => ?_)
      refine zS_aload_n 1065 rfl 2 rfl dL_law_1064 ?_
      refine zS_aload_n 1066 rfl 0 rfl dL_law_1065 ?_
      refine zS_iload_n 1067 rfl 3 rfl dL_law_1066 ?_
      refine zS_iconst 1068 rfl (1 : Int32) (by decide) dL_law_1067 ?_
      refine zS_iadd 1069 rfl dL_law_1068 ?_
      refine zS_sald 1070 rfl h0 dL_law_1069 ?_
      refine zS_aload_n 1071 rfl 0 rfl dL_law_1070 ?_
      refine zS_iload_n 1072 rfl 3 rfl dL_law_1071 ?_
      refine zS_iconst 1073 rfl (2 : Int32) (by decide) dL_law_1072 ?_
      refine zS_iadd 1074 rfl dL_law_1073 ?_
      refine zS_sald 1075 rfl h0 dL_law_1074 ?_
      refine zS_aload_n 1076 rfl 0 rfl dL_law_1075 ?_
      refine zS_iload_n 1077 rfl 3 rfl dL_law_1076 ?_
      refine zS_iconst 1078 rfl (3 : Int32) (by decide) dL_law_1077 ?_
      refine zS_iadd 1079 rfl dL_law_1078 ?_
      refine zS_sald 1080 rfl h0 dL_law_1079 ?_
      refine zS_aload_n 1081 rfl 0 rfl dL_law_1080 ?_
      refine zS_iload_n 1082 rfl 3 rfl dL_law_1081 ?_
      refine zS_iconst 1083 rfl (4 : Int32) (by decide) dL_law_1082 ?_
      refine zS_iadd 1084 rfl dL_law_1083 ?_
      refine zS_sald 1085 rfl h0 dL_law_1084 ?_
      refine zS_cVi (as := [.int _, .int _, .int _, .int _]) (st := [.int _]) (g' := gX12_look) 1088 rfl (okX12_look _ _ _ _ _ _ h2) dL_law_1085 zC12 h2 zw1428 cbX12_look rfl rfl ⟨(by show 3 + 1 ≤ 1000; decide), (by decide)⟩ (Nat.le_of_ble_eq_true rfl) (fun r91 w92 => ?_)
      refine zS_icmp_eq 1409 1091 rfl dL_law_1088 (by decide) ?_ ?_
      · exact sL_law_1409 L xs k18 _ _ _ _ hk18 h0 h1 h2 _
      · refine zS_iconst 1092 rfl (0 : Int32) (by decide) dL_law_1091 ?_
        exact zS_retb dL_law_1092 rfl
    refine zSw_in (c0 := (23 : Int32)) 23 1093 dL_law_33 (by decide) (by decide) rfl (by decide) ?_ ?_
    · refine zS_aload_n 1094 rfl 1 rfl dL_law_1093 ?_
      refine zS_aload_n 1095 rfl 0 rfl dL_law_1094 ?_
      refine zS_iload_n 1096 rfl 3 rfl dL_law_1095 ?_
      refine zS_iconst 1097 rfl (1 : Int32) (by decide) dL_law_1096 ?_
      refine zS_iadd 1098 rfl dL_law_1097 ?_
      refine zS_sald 1099 rfl h0 dL_law_1098 ?_
      refine zS_cVi (as := [.int _]) (st := []) (g' := gX11_off) 1102 rfl (okX11_off _ _ _ h1) dL_law_1099 zC11 h1 zw934 cbX11_off rfl rfl ⟨(by show 7 + 1 ≤ 1000; decide), (by decide)⟩ (Nat.le_of_ble_eq_true rfl) (fun r93 w94 => ?_)
      refine zS_aload_n 1103 rfl 2 rfl dL_law_1102 ?_
      refine zS_aload_n 1104 rfl 0 rfl dL_law_1103 ?_
      refine zS_iload_n 1105 rfl 3 rfl dL_law_1104 ?_
      refine zS_iconst 1106 rfl (1 : Int32) (by decide) dL_law_1105 ?_
      refine zS_iadd 1107 rfl dL_law_1106 ?_
      refine zS_sald 1108 rfl h0 dL_law_1107 ?_
      refine zS_cVi (as := [.int _]) (st := [.int _]) (g' := gX12_off) 1111 rfl (okX12_off _ _ _ h2) dL_law_1108 zC12 h2 zw1432 cbX12_off rfl rfl ⟨(by show 48 + 1 ≤ 1000; decide), (by decide)⟩ (Nat.le_of_ble_eq_true rfl) (fun r95 w96 => ?_)
      refine zS_icmp_eq 1409 1114 rfl dL_law_1111 (by decide) ?_ ?_
      · exact sL_law_1409 L xs k18 _ _ _ _ hk18 h0 h1 h2 _
      · refine zS_iconst 1115 rfl (0 : Int32) (by decide) dL_law_1114 ?_
        exact zS_retb dL_law_1115 rfl
    refine zSw_in (c0 := (24 : Int32)) 24 1116 dL_law_33 (by decide) (by decide) rfl (by decide) ?_ ?_
    · refine zS_aload_n 1117 rfl 1 rfl dL_law_1116 ?_
      refine zS_aload_n 1118 rfl 0 rfl dL_law_1117 ?_
      refine zS_iload_n 1119 rfl 3 rfl dL_law_1118 ?_
      refine zS_iconst 1120 rfl (1 : Int32) (by decide) dL_law_1119 ?_
      refine zS_iadd 1121 rfl dL_law_1120 ?_
      refine zS_sald 1122 rfl h0 dL_law_1121 ?_
      refine zS_aload_n 1123 rfl 0 rfl dL_law_1122 ?_
      refine zS_iload_n 1124 rfl 3 rfl dL_law_1123 ?_
      refine zS_iconst 1125 rfl (2 : Int32) (by decide) dL_law_1124 ?_
      refine zS_iadd 1126 rfl dL_law_1125 ?_
      refine zS_sald 1127 rfl h0 dL_law_1126 ?_
      refine zS_cVi (as := [.int _, .int _]) (st := []) (g' := gX11_drop) 1130 rfl (okX11_drop _ _ _ _ h1) dL_law_1127 zC11 h1 zw942 cbX11_drop rfl rfl ⟨(by show 4 + 1 ≤ 1000; decide), (by decide)⟩ (Nat.le_of_ble_eq_true rfl) (fun r97 w98 => ?_)
      refine zS_aload_n 1131 rfl 2 rfl dL_law_1130 ?_
      refine zS_aload_n 1132 rfl 0 rfl dL_law_1131 ?_
      refine zS_iload_n 1133 rfl 3 rfl dL_law_1132 ?_
      refine zS_iconst 1134 rfl (1 : Int32) (by decide) dL_law_1133 ?_
      refine zS_iadd 1135 rfl dL_law_1134 ?_
      refine zS_sald 1136 rfl h0 dL_law_1135 ?_
      refine zS_aload_n 1137 rfl 0 rfl dL_law_1136 ?_
      refine zS_iload_n 1138 rfl 3 rfl dL_law_1137 ?_
      refine zS_iconst 1139 rfl (2 : Int32) (by decide) dL_law_1138 ?_
      refine zS_iadd 1140 rfl dL_law_1139 ?_
      refine zS_sald 1141 rfl h0 dL_law_1140 ?_
      refine zS_cVi (as := [.int _, .int _]) (st := [.int _]) (g' := gX12_drop) 1144 rfl (okX12_drop _ _ _ _ h2) dL_law_1141 zC12 h2 zw1436 cbX12_drop rfl rfl ⟨(by show 3 + 1 ≤ 1000; decide), (by decide)⟩ (Nat.le_of_ble_eq_true rfl) (fun r99 w100 => ?_)
      refine zS_icmp_eq 1409 1147 rfl dL_law_1144 (by decide) ?_ ?_
      · exact sL_law_1409 L xs k18 _ _ _ _ hk18 h0 h1 h2 _
      · refine zS_iconst 1148 rfl (0 : Int32) (by decide) dL_law_1147 ?_
        exact zS_retb dL_law_1148 rfl
    refine zSw_in (c0 := (25 : Int32)) 25 1149 dL_law_33 (by decide) (by decide) rfl (by decide) ?_ ?_
    · refine zS_aload_n 1150 rfl 1 rfl dL_law_1149 ?_
      refine zS_aload_n 1151 rfl 0 rfl dL_law_1150 ?_
      refine zS_iload_n 1152 rfl 3 rfl dL_law_1151 ?_
      refine zS_iconst 1153 rfl (1 : Int32) (by decide) dL_law_1152 ?_
      refine zS_iadd 1154 rfl dL_law_1153 ?_
      refine zS_sald 1155 rfl h0 dL_law_1154 ?_
      refine zS_aload_n 1156 rfl 0 rfl dL_law_1155 ?_
      refine zS_iload_n 1157 rfl 3 rfl dL_law_1156 ?_
      refine zS_iconst 1158 rfl (2 : Int32) (by decide) dL_law_1157 ?_
      refine zS_iadd 1159 rfl dL_law_1158 ?_
      refine zS_sald 1160 rfl h0 dL_law_1159 ?_
      refine zS_cVi (as := [.int _, .int _]) (st := []) (g' := gX11_cause) 1163 rfl (okX11_cause _ _ _ _ h1) dL_law_1160 zC11 h1 zw965 cbX11_cause rfl rfl ⟨(by show 4 + 1 ≤ 1000; decide), (by decide)⟩ (Nat.le_of_ble_eq_true rfl) (fun r101 w102 => ?_)
      refine zS_aload_n 1164 rfl 2 rfl dL_law_1163 ?_
      refine zS_aload_n 1165 rfl 0 rfl dL_law_1164 ?_
      refine zS_iload_n 1166 rfl 3 rfl dL_law_1165 ?_
      refine zS_iconst 1167 rfl (1 : Int32) (by decide) dL_law_1166 ?_
      refine zS_iadd 1168 rfl dL_law_1167 ?_
      refine zS_sald 1169 rfl h0 dL_law_1168 ?_
      refine zS_aload_n 1170 rfl 0 rfl dL_law_1169 ?_
      refine zS_iload_n 1171 rfl 3 rfl dL_law_1170 ?_
      refine zS_iconst 1172 rfl (2 : Int32) (by decide) dL_law_1171 ?_
      refine zS_iadd 1173 rfl dL_law_1172 ?_
      refine zS_sald 1174 rfl h0 dL_law_1173 ?_
      refine zS_cVi (as := [.int _, .int _]) (st := [.int _]) (g' := gX12_cause) 1177 rfl (okX12_cause _ _ _ _ h2) dL_law_1174 zC12 h2 zw1444 cbX12_cause rfl rfl ⟨(by show 4 + 1 ≤ 1000; decide), (by decide)⟩ (Nat.le_of_ble_eq_true rfl) (fun r103 w104 => ?_)
      refine zS_icmp_eq 1409 1180 rfl dL_law_1177 (by decide) ?_ ?_
      · exact sL_law_1409 L xs k18 _ _ _ _ hk18 h0 h1 h2 _
      · refine zS_iconst 1181 rfl (0 : Int32) (by decide) dL_law_1180 ?_
        exact zS_retb dL_law_1181 rfl
    refine zSw_in (c0 := (26 : Int32)) 26 1182 dL_law_33 (by decide) (by decide) rfl (by decide) ?_ ?_
    · refine zS_aload_n 1183 rfl 1 rfl dL_law_1182 ?_
      refine zS_aload_n 1184 rfl 0 rfl dL_law_1183 ?_
      refine zS_iload_n 1185 rfl 3 rfl dL_law_1184 ?_
      refine zS_iconst 1186 rfl (1 : Int32) (by decide) dL_law_1185 ?_
      refine zS_iadd 1187 rfl dL_law_1186 ?_
      refine zS_sald 1188 rfl h0 dL_law_1187 ?_
      refine zS_aload_n 1189 rfl 0 rfl dL_law_1188 ?_
      refine zS_iload_n 1190 rfl 3 rfl dL_law_1189 ?_
      refine zS_iconst 1191 rfl (2 : Int32) (by decide) dL_law_1190 ?_
      refine zS_iadd 1192 rfl dL_law_1191 ?_
      refine zS_sald 1193 rfl h0 dL_law_1192 ?_
      refine zS_cVi (as := [.int _, .int _]) (st := []) (g' := gX11_tire) 1196 rfl (okX11_tire _ _ _ _ h1) dL_law_1193 zC11 h1 zw1002 cbX11_tire rfl rfl ⟨(by show 4 + 1 ≤ 1000; decide), (by decide)⟩ (Nat.le_of_ble_eq_true rfl) (fun r105 w106 => ?_)
      refine zS_aload_n 1197 rfl 2 rfl dL_law_1196 ?_
      refine zS_aload_n 1198 rfl 0 rfl dL_law_1197 ?_
      refine zS_iload_n 1199 rfl 3 rfl dL_law_1198 ?_
      refine zS_iconst 1200 rfl (1 : Int32) (by decide) dL_law_1199 ?_
      refine zS_iadd 1201 rfl dL_law_1200 ?_
      refine zS_sald 1202 rfl h0 dL_law_1201 ?_
      refine zS_aload_n 1203 rfl 0 rfl dL_law_1202 ?_
      refine zS_iload_n 1204 rfl 3 rfl dL_law_1203 ?_
      refine zS_iconst 1205 rfl (2 : Int32) (by decide) dL_law_1204 ?_
      refine zS_iadd 1206 rfl dL_law_1205 ?_
      refine zS_sald 1207 rfl h0 dL_law_1206 ?_
      refine zS_cVi (as := [.int _, .int _]) (st := [.int _]) (g' := gX12_tire) 1210 rfl (okX12_tire _ _ _ _ h2) dL_law_1207 zC12 h2 zw1455 cbX12_tire rfl rfl ⟨(by show 4 + 1 ≤ 1000; decide), (by decide)⟩ (Nat.le_of_ble_eq_true rfl) (fun r107 w108 => ?_)
      refine zS_icmp_eq 1409 1213 rfl dL_law_1210 (by decide) ?_ ?_
      · exact sL_law_1409 L xs k18 _ _ _ _ hk18 h0 h1 h2 _
      · refine zS_iconst 1214 rfl (0 : Int32) (by decide) dL_law_1213 ?_
        exact zS_retb dL_law_1214 rfl
    refine zSw_in (c0 := (27 : Int32)) 27 1215 dL_law_33 (by decide) (by decide) rfl (by decide) ?_ ?_
    · refine zS_aload_n 1216 rfl 1 rfl dL_law_1215 ?_
      refine zS_aload_n 1217 rfl 0 rfl dL_law_1216 ?_
      refine zS_iload_n 1218 rfl 3 rfl dL_law_1217 ?_
      refine zS_iconst 1219 rfl (1 : Int32) (by decide) dL_law_1218 ?_
      refine zS_iadd 1220 rfl dL_law_1219 ?_
      refine zS_sald 1221 rfl h0 dL_law_1220 ?_
      refine zS_aload_n 1222 rfl 0 rfl dL_law_1221 ?_
      refine zS_iload_n 1223 rfl 3 rfl dL_law_1222 ?_
      refine zS_iconst 1224 rfl (2 : Int32) (by decide) dL_law_1223 ?_
      refine zS_iadd 1225 rfl dL_law_1224 ?_
      refine zS_sald 1226 rfl h0 dL_law_1225 ?_
      refine zS_cVi (as := [.int _, .int _]) (st := []) (g' := gX11_shake) 1229 rfl (okX11_shake _ _ _ _ h1) dL_law_1226 zC11 h1 zw1011 cbX11_shake rfl rfl ⟨(by show 4 + 1 ≤ 1000; decide), (by decide)⟩ (Nat.le_of_ble_eq_true rfl) (fun r109 w110 => ?_)
      refine zS_aload_n 1230 rfl 2 rfl dL_law_1229 ?_
      refine zS_aload_n 1231 rfl 0 rfl dL_law_1230 ?_
      refine zS_iload_n 1232 rfl 3 rfl dL_law_1231 ?_
      refine zS_iconst 1233 rfl (1 : Int32) (by decide) dL_law_1232 ?_
      refine zS_iadd 1234 rfl dL_law_1233 ?_
      refine zS_sald 1235 rfl h0 dL_law_1234 ?_
      refine zS_aload_n 1236 rfl 0 rfl dL_law_1235 ?_
      refine zS_iload_n 1237 rfl 3 rfl dL_law_1236 ?_
      refine zS_iconst 1238 rfl (2 : Int32) (by decide) dL_law_1237 ?_
      refine zS_iadd 1239 rfl dL_law_1238 ?_
      refine zS_sald 1240 rfl h0 dL_law_1239 ?_
      refine zS_cVi (as := [.int _, .int _]) (st := [.int _]) (g' := gX12_shake) 1243 rfl (okX12_shake _ _ _ _ h2) dL_law_1240 zC12 h2 zw1467 cbX12_shake rfl rfl ⟨(by show 3 + 1 ≤ 1000; decide), (by decide)⟩ (Nat.le_of_ble_eq_true rfl) (fun r111 w112 => ?_)
      refine zS_icmp_eq 1409 1246 rfl dL_law_1243 (by decide) ?_ ?_
      · exact sL_law_1409 L xs k18 _ _ _ _ hk18 h0 h1 h2 _
      · refine zS_iconst 1247 rfl (0 : Int32) (by decide) dL_law_1246 ?_
        exact zS_retb dL_law_1247 rfl
    refine zSw_in (c0 := (28 : Int32)) 28 1248 dL_law_33 (by decide) (by decide) rfl (by decide) ?_ ?_
    · refine zS_aload_n 1249 rfl 1 rfl dL_law_1248 ?_
      refine zS_aload_n 1250 rfl 0 rfl dL_law_1249 ?_
      refine zS_iload_n 1251 rfl 3 rfl dL_law_1250 ?_
      refine zS_iconst 1252 rfl (1 : Int32) (by decide) dL_law_1251 ?_
      refine zS_iadd 1253 rfl dL_law_1252 ?_
      refine zS_sald 1254 rfl h0 dL_law_1253 ?_
      refine zS_aload_n 1255 rfl 0 rfl dL_law_1254 ?_
      refine zS_iload_n 1256 rfl 3 rfl dL_law_1255 ?_
      refine zS_iconst 1257 rfl (2 : Int32) (by decide) dL_law_1256 ?_
      refine zS_iadd 1258 rfl dL_law_1257 ?_
      refine zS_sald 1259 rfl h0 dL_law_1258 ?_
      refine zS_cVi (as := [.int _, .int _]) (st := []) (g' := gX11_push) 1262 rfl (okX11_push _ _ _ _ h1) dL_law_1259 zC11 h1 zw1028 cbX11_push rfl rfl ⟨(by show 2 + 1 ≤ 1000; decide), (by decide)⟩ (Nat.le_of_ble_eq_true rfl) (fun r113 w114 => ?_)
      refine zS_aload_n 1263 rfl 2 rfl dL_law_1262 ?_
      refine zS_aload_n 1264 rfl 0 rfl dL_law_1263 ?_
      refine zS_iload_n 1265 rfl 3 rfl dL_law_1264 ?_
      refine zS_iconst 1266 rfl (1 : Int32) (by decide) dL_law_1265 ?_
      refine zS_iadd 1267 rfl dL_law_1266 ?_
      refine zS_sald 1268 rfl h0 dL_law_1267 ?_
      refine zS_aload_n 1269 rfl 0 rfl dL_law_1268 ?_
      refine zS_iload_n 1270 rfl 3 rfl dL_law_1269 ?_
      refine zS_iconst 1271 rfl (2 : Int32) (by decide) dL_law_1270 ?_
      refine zS_iadd 1272 rfl dL_law_1271 ?_
      refine zS_sald 1273 rfl h0 dL_law_1272 ?_
      refine zS_cVi (as := [.int _, .int _]) (st := [.int _]) (g' := gX12_push) 1276 rfl (okX12_push _ _ _ _ h2) dL_law_1273 zC12 h2 zw1475 cbX12_push rfl rfl ⟨(by show 3 + 1 ≤ 1000; decide), (by decide)⟩ (Nat.le_of_ble_eq_true rfl) (fun r115 w116 => ?_)
      refine zS_icmp_eq 1409 1279 rfl dL_law_1276 (by decide) ?_ ?_
      · exact sL_law_1409 L xs k18 _ _ _ _ hk18 h0 h1 h2 _
      · refine zS_iconst 1280 rfl (0 : Int32) (by decide) dL_law_1279 ?_
        exact zS_retb dL_law_1280 rfl
    refine zSw_in (c0 := (29 : Int32)) 29 1281 dL_law_33 (by decide) (by decide) rfl (by decide) ?_ ?_
    · refine zS_aload_n 1282 rfl 1 rfl dL_law_1281 ?_
      refine zS_aload_n 1283 rfl 0 rfl dL_law_1282 ?_
      refine zS_iload_n 1284 rfl 3 rfl dL_law_1283 ?_
      refine zS_iconst 1285 rfl (1 : Int32) (by decide) dL_law_1284 ?_
      refine zS_iadd 1286 rfl dL_law_1285 ?_
      refine zS_sald 1287 rfl h0 dL_law_1286 ?_
      refine zS_cVi (as := [.int _]) (st := []) (g' := gX11_shift) 1290 rfl (okX11_shift _ _ _ h1) dL_law_1287 zC11 h1 zw1036 cbX11_shift rfl rfl ⟨(by show 4 + 1 ≤ 1000; decide), (by decide)⟩ (Nat.le_of_ble_eq_true rfl) (fun r117 w118 => ?_)
      refine zS_aload_n 1291 rfl 2 rfl dL_law_1290 ?_
      refine zS_aload_n 1292 rfl 0 rfl dL_law_1291 ?_
      refine zS_iload_n 1293 rfl 3 rfl dL_law_1292 ?_
      refine zS_iconst 1294 rfl (1 : Int32) (by decide) dL_law_1293 ?_
      refine zS_iadd 1295 rfl dL_law_1294 ?_
      refine zS_sald 1296 rfl h0 dL_law_1295 ?_
      refine zS_cVi (as := [.int _]) (st := [.int _]) (g' := gX12_shift) 1299 rfl (okX12_shift _ _ _ h2) dL_law_1296 zC12 h2 zw1479 cbX12_shift rfl rfl ⟨(by show 4 + 1 ≤ 1000; decide), (by decide)⟩ (Nat.le_of_ble_eq_true rfl) (fun r119 w120 => ?_)
      refine zS_icmp_eq 1409 1302 rfl dL_law_1299 (by decide) ?_ ?_
      · exact sL_law_1409 L xs k18 _ _ _ _ hk18 h0 h1 h2 _
      · refine zS_iconst 1303 rfl (0 : Int32) (by decide) dL_law_1302 ?_
        exact zS_retb dL_law_1303 rfl
    refine zSw_in (c0 := (30 : Int32)) 30 1304 dL_law_33 (by decide) (by decide) rfl (by decide) ?_ ?_
    · refine zS_aload_n 1305 rfl 1 rfl dL_law_1304 ?_
      refine zS_aload_n 1306 rfl 0 rfl dL_law_1305 ?_
      refine zS_iload_n 1307 rfl 3 rfl dL_law_1306 ?_
      refine zS_iconst 1308 rfl (1 : Int32) (by decide) dL_law_1307 ?_
      refine zS_iadd 1309 rfl dL_law_1308 ?_
      refine zS_sald 1310 rfl h0 dL_law_1309 ?_
      refine zS_cVi (as := [.int _]) (st := []) (g' := gX11_place) 1313 rfl (okX11_place _ _ _ h1) dL_law_1310 zC11 h1 zw1044 cbX11_place rfl rfl ⟨(by show 7 + 1 ≤ 1000; decide), (by decide)⟩ (Nat.le_of_ble_eq_true rfl) (fun r121 w122 => ?_)
      refine zS_aload_n 1314 rfl 2 rfl dL_law_1313 ?_
      refine zS_aload_n 1315 rfl 0 rfl dL_law_1314 ?_
      refine zS_iload_n 1316 rfl 3 rfl dL_law_1315 ?_
      refine zS_iconst 1317 rfl (1 : Int32) (by decide) dL_law_1316 ?_
      refine zS_iadd 1318 rfl dL_law_1317 ?_
      refine zS_sald 1319 rfl h0 dL_law_1318 ?_
      refine zS_cVi (as := [.int _]) (st := [.int _]) (g' := gX12_place) 1322 rfl (okX12_place _ _ _ h2) dL_law_1319 zC12 h2 zw1487 cbX12_place rfl rfl ⟨(by show 49 + 1 ≤ 1000; decide), (by decide)⟩ (Nat.le_of_ble_eq_true rfl) (fun r123 w124 => ?_)
      refine zS_icmp_eq 1409 1325 rfl dL_law_1322 (by decide) ?_ ?_
      · exact sL_law_1409 L xs k18 _ _ _ _ hk18 h0 h1 h2 _
      · refine zS_iconst 1326 rfl (0 : Int32) (by decide) dL_law_1325 ?_
        exact zS_retb dL_law_1326 rfl
    refine zSw_in (c0 := (31 : Int32)) 31 1327 dL_law_33 (by decide) (by decide) rfl (by decide) ?_ ?_
    · refine zS_aload_n 1328 rfl 1 rfl dL_law_1327 ?_
      refine zS_aload_n 1329 rfl 0 rfl dL_law_1328 ?_
      refine zS_iload_n 1330 rfl 3 rfl dL_law_1329 ?_
      refine zS_iconst 1331 rfl (1 : Int32) (by decide) dL_law_1330 ?_
      refine zS_iadd 1332 rfl dL_law_1331 ?_
      refine zS_sald 1333 rfl h0 dL_law_1332 ?_
      refine zS_aload_n 1334 rfl 0 rfl dL_law_1333 ?_
      refine zS_iload_n 1335 rfl 3 rfl dL_law_1334 ?_
      refine zS_iconst 1336 rfl (2 : Int32) (by decide) dL_law_1335 ?_
      refine zS_iadd 1337 rfl dL_law_1336 ?_
      refine zS_sald 1338 rfl h0 dL_law_1337 ?_
      refine zS_cVi (as := [.int _, .int _]) (st := []) (g' := gX11_tried) 1341 rfl (okX11_tried _ _ _ _ h1) dL_law_1338 zC11 h1 zw1052 cbX11_tried rfl rfl ⟨(by show 46 + 1 ≤ 1000; decide), (by decide)⟩ (Nat.le_of_ble_eq_true rfl) (fun r125 w126 => ?_)
      refine zS_aload_n 1342 rfl 2 rfl dL_law_1341 ?_
      refine zS_aload_n 1343 rfl 0 rfl dL_law_1342 ?_
      refine zS_iload_n 1344 rfl 3 rfl dL_law_1343 ?_
      refine zS_iconst 1345 rfl (1 : Int32) (by decide) dL_law_1344 ?_
      refine zS_iadd 1346 rfl dL_law_1345 ?_
      refine zS_sald 1347 rfl h0 dL_law_1346 ?_
      refine zS_aload_n 1348 rfl 0 rfl dL_law_1347 ?_
      refine zS_iload_n 1349 rfl 3 rfl dL_law_1348 ?_
      refine zS_iconst 1350 rfl (2 : Int32) (by decide) dL_law_1349 ?_
      refine zS_iadd 1351 rfl dL_law_1350 ?_
      refine zS_sald 1352 rfl h0 dL_law_1351 ?_
      refine zS_cVi (as := [.int _, .int _]) (st := [.int _]) (g' := gX12_tried) 1355 rfl (okX12_tried _ _ _ _ h2) dL_law_1352 zC12 h2 zw1495 cbX12_tried rfl rfl ⟨(by show 50 + 1 ≤ 1000; decide), (by decide)⟩ (Nat.le_of_ble_eq_true rfl) (fun r127 w128 => ?_)
      refine zS_icmp_eq 1409 1358 rfl dL_law_1355 (by decide) ?_ ?_
      · exact sL_law_1409 L xs k18 _ _ _ _ hk18 h0 h1 h2 _
      · refine zS_iconst 1359 rfl (0 : Int32) (by decide) dL_law_1358 ?_
        exact zS_retb dL_law_1359 rfl
    refine zSw_in (c0 := (32 : Int32)) 32 1360 dL_law_33 (by decide) (by decide) rfl (by decide) ?_ ?_
    · refine zS_aload_n 1361 rfl 1 rfl dL_law_1360 ?_
      refine zS_cVi (as := []) (st := []) (g' := gX11_image) 1364 rfl (okX11_image _ _ h1) dL_law_1361 zC11 h1 zw1062 cbX11_image rfl rfl ⟨(by show 4 + 1 ≤ 1000; decide), (by decide)⟩ (Nat.le_of_ble_eq_true rfl) (fun r129 w130 => ?_)
      refine zS_aload_n 1365 rfl 2 rfl dL_law_1364 ?_
      refine zS_cVi (as := []) (st := [.int _]) (g' := gX12_image) 1368 rfl (okX12_image _ _ h2) dL_law_1365 zC12 h2 zw1499 cbX12_image rfl rfl ⟨(by show 1 + 1 ≤ 1000; decide), (by decide)⟩ (Nat.le_of_ble_eq_true rfl) (fun r131 w132 => ?_)
      refine zS_icmp_eq 1409 1371 rfl dL_law_1368 (by decide) ?_ ?_
      · exact sL_law_1409 L xs k18 _ _ _ _ hk18 h0 h1 h2 _
      · refine zS_iconst 1372 rfl (0 : Int32) (by decide) dL_law_1371 ?_
        exact zS_retb dL_law_1372 rfl
    refine zSw_in (c0 := (33 : Int32)) 33 1373 dL_law_33 (by decide) (by decide) rfl (by decide) ?_ ?_
    · refine zS_aload_n 1374 rfl 1 rfl dL_law_1373 ?_
      refine zS_cVi (as := []) (st := []) (g' := gX11_undo) 1377 rfl (okX11_undo _ _ h1) dL_law_1374 zC11 h1 zw1095 cbX11_undo rfl rfl ⟨(by show 4 + 1 ≤ 1000; decide), (by decide)⟩ (Nat.le_of_ble_eq_true rfl) (fun r133 w134 => ?_)
      refine zS_aload_n 1378 rfl 2 rfl dL_law_1377 ?_
      refine zS_cVi (as := []) (st := [.int _]) (g' := gX12_undo) 1381 rfl (okX12_undo _ _ h2) dL_law_1378 zC12 h2 zw1503 cbX12_undo rfl rfl ⟨(by show 1 + 1 ≤ 1000; decide), (by decide)⟩ (Nat.le_of_ble_eq_true rfl) (fun r135 w136 => ?_)
      refine zS_icmp_eq 1409 1384 rfl dL_law_1381 (by decide) ?_ ?_
      · exact sL_law_1409 L xs k18 _ _ _ _ hk18 h0 h1 h2 _
      · refine zS_iconst 1385 rfl (0 : Int32) (by decide) dL_law_1384 ?_
        exact zS_retb dL_law_1385 rfl
    refine zSw_in (c0 := (34 : Int32)) 34 1386 dL_law_33 (by decide) (by decide) rfl (by decide) ?_ ?_
    · refine zS_aload_n 1387 rfl 1 rfl dL_law_1386 ?_
      refine zS_aload_n 1388 rfl 0 rfl dL_law_1387 ?_
      refine zS_iload_n 1389 rfl 3 rfl dL_law_1388 ?_
      refine zS_iconst 1390 rfl (1 : Int32) (by decide) dL_law_1389 ?_
      refine zS_iadd 1391 rfl dL_law_1390 ?_
      refine zS_sald 1392 rfl h0 dL_law_1391 ?_
      refine zS_cVi (as := [.int _]) (st := []) (g' := gX11_count) 1395 rfl (okX11_count _ _ _ h1) dL_law_1392 zC11 h1 zw1099 cbX11_count rfl rfl ⟨(by show 2 + 1 ≤ 1000; decide), (by decide)⟩ (Nat.le_of_ble_eq_true rfl) (fun r137 w138 => ?_)
      refine zS_aload_n 1396 rfl 2 rfl dL_law_1395 ?_
      refine zS_aload_n 1397 rfl 0 rfl dL_law_1396 ?_
      refine zS_iload_n 1398 rfl 3 rfl dL_law_1397 ?_
      refine zS_iconst 1399 rfl (1 : Int32) (by decide) dL_law_1398 ?_
      refine zS_iadd 1400 rfl dL_law_1399 ?_
      refine zS_sald 1401 rfl h0 dL_law_1400 ?_
      refine zS_cVi (as := [.int _]) (st := [.int _]) (g' := gX12_count) 1404 rfl (okX12_count _ _ _ h2) dL_law_1401 zC12 h2 zw1507 cbX12_count rfl rfl ⟨(by show 1 + 1 ≤ 1000; decide), (by decide)⟩ (Nat.le_of_ble_eq_true rfl) (fun r139 w140 => ?_)
      refine zS_icmp_eq 1409 1407 rfl dL_law_1404 (by decide) ?_ ?_
      · exact sL_law_1409 L xs k18 _ _ _ _ hk18 h0 h1 h2 _
      · refine zS_iconst 1408 rfl (0 : Int32) (by decide) dL_law_1407 ?_
        exact zS_retb dL_law_1408 rfl
    refine zSw_out 1409 dL_law_33 (by decide) (by decide) ?_
    · exact sL_law_1409 L xs k18 _ _ _ _ hk18 h0 h1 h2 _

theorem sL_law_18 (L : Nat) (xs : Nat → Int32) (v0 : Nat) (v1 : Nat) (v2 : Nat) (v3 : Int32) (h0 : v0 = 290) (h1 : zShp v1 = (11, 11)) (h2 : zShp v2 = (12, 25)) (w : zWd) : zS (gL_law L xs) zEi 18 [(0, .ref v0), (1, .ref v1), (2, .ref v2), (3, .int v3)] [] w (mL_law_18 L xs v0 v1 v2 v3 w) :=
  zS_loop (L := fun q : Int32 × zWd => [(0, .ref v0), (1, .ref v1), (2, .ref v2), (3, .int q.1)]) (V := fun q => q.2) (T := fun _ => []) (F := fun k q => mL_law_18b L xs v0 v1 v2 k q.1 q.2) (fun k hk q => sL_law_18b L xs v0 v1 v2 k q.1 (fun a3 w => hk (a3, w)) h0 h1 h2 q.2) zFU (v3, w)
