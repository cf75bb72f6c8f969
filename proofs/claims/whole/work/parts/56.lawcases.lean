section GLC
variable {Φ : gF} {l : Launch} {D : va_G} {base : Nat} {ad0 : Nat → Nat} {b L : Nat} {xs : Nat → Int32} {cells slots : Nat} {ad : Nat → Nat} {cA : Nat → ClassId} {nf n : Nat} {M : gM}
theorem gEv_s {X : gX} : gEv X (.ref (gad 60 1)) := fun a e => by cases e; exact ⟨60, 1, rfl, Or.inr ⟨by decide, by decide⟩⟩
theorem lcmp_self (x : Int64) : lg_cmp x x = 0 := by
  unfold lg_cmp
  rw [if_neg (fun h => Int64.lt_irrefl h)]
  simp
theorem lc_0 {r : Int32} {M1 : gM} {M2 : gM} (Z : gLD Φ l D base ad0 b L xs) (hst : l.stackTraces = false) (hb : ad (gad 60 1) = b) (had : ∀ k, k < 2 → ad (gad 62 k) = ad0 (gad 62 k)) (hn : n + 6 ≤ L) (hL : L ≤ 3072) (h1 : X10_feed (xs (n + 1)) (xs (n + 2)) (xs (n + 3)) (xs (n + 4)) (xs (n + 5)) M = some (r, M1)) (h2 : X11_feed (xs (n + 1)) (xs (n + 2)) (xs (n + 3)) (xs (n + 4)) (xs (n + 5)) M1 = some (r, M2)) (hroom : cells + 1 ≤ 601024 ∧ slots + 6 ≤ 7293033) (k : Φ (cells + 1) (slots + 6) ad cA (gXn nf) M2 1765 [(0, .ref (gad 60 1)), (1, .ref (gad 0 0)), (2, .ref (gad 50 0)), (3, .ref (gad 53 0)), (4, .int (Int32.ofNat n))] []) : Φ cells slots ad cA (gXn nf) M 220 [(0, .ref (gad 60 1)), (1, .ref (gad 0 0)), (2, .ref (gad 50 0)), (3, .ref (gad 53 0)), (4, .int (Int32.ofNat n))] [] := by
  have C := Z.D.elim fun _ Z => Z.C (cells := cells) (slots := slots) (by omega) (by omega) cA (gXn nf) had none none M
  refine r_aload_n (pc := 220) C dL_law_220 rfl 1 rfl ?_
  refine r_aload_n (pc := 221) C dL_law_221 rfl 0 rfl ?_
  refine r_iload (pc := 222) C dL_law_222 4 rfl ?_
  refine r_iconst (pc := 224) C dL_law_224 ki1 ?_
  refine r_iadd (pc := 225) C dL_law_225 ?_
  refine l_sld (pc := 226) Z hb dL_law_226 (j := n + 1) (lxi hn hL (j := 1) (by decide)) ?_
  refine r_aload_n (pc := 227) C dL_law_227 rfl 0 rfl ?_
  refine r_iload (pc := 228) C dL_law_228 4 rfl ?_
  refine r_iconst (pc := 230) C dL_law_230 ki2 ?_
  refine r_iadd (pc := 231) C dL_law_231 ?_
  refine l_sld (pc := 232) Z hb dL_law_232 (j := n + 2) (lxi hn hL (j := 2) (by decide)) ?_
  refine r_aload_n (pc := 233) C dL_law_233 rfl 0 rfl ?_
  refine r_iload (pc := 234) C dL_law_234 4 rfl ?_
  refine r_iconst (pc := 236) C dL_law_236 ki3 ?_
  refine r_iadd (pc := 237) C dL_law_237 ?_
  refine l_sld (pc := 238) Z hb dL_law_238 (j := n + 3) (lxi hn hL (j := 3) (by decide)) ?_
  refine r_aload_n (pc := 239) C dL_law_239 rfl 0 rfl ?_
  refine r_iload (pc := 240) C dL_law_240 4 rfl ?_
  refine r_iconst (pc := 242) C dL_law_242 ki4 ?_
  refine r_iadd (pc := 243) C dL_law_243 ?_
  refine l_sld (pc := 244) Z hb dL_law_244 (j := n + 4) (lxi hn hL (j := 4) (by decide)) ?_
  refine r_aload_n (pc := 245) C dL_law_245 rfl 0 rfl ?_
  refine r_iload (pc := 246) C dL_law_246 4 rfl ?_
  refine r_iconst (pc := 248) C dL_law_248 ki5 ?_
  refine r_iadd (pc := 249) C dL_law_249 ?_
  refine l_sld (pc := 250) Z hb dL_law_250 (j := n + 5) (lxi hn hL (j := 5) (by decide)) ?_
  refine c_X10_feed (pc := 251) C dL_law_251 q583 ⟨Nat.le_of_ble_eq_true rfl, Nat.le_of_ble_eq_true rfl⟩ h1 (Nat.le_of_ble_eq_true rfl) ?_
  refine r_aload_n (pc := 254) C dL_law_254 rfl 2 rfl ?_
  refine r_aload_n (pc := 255) C dL_law_255 rfl 0 rfl ?_
  refine r_iload (pc := 256) C dL_law_256 4 rfl ?_
  refine r_iconst (pc := 258) C dL_law_258 ki1 ?_
  refine r_iadd (pc := 259) C dL_law_259 ?_
  refine l_sld (pc := 260) Z hb dL_law_260 (j := n + 1) (lxi hn hL (j := 1) (by decide)) ?_
  refine r_aload_n (pc := 261) C dL_law_261 rfl 0 rfl ?_
  refine r_iload (pc := 262) C dL_law_262 4 rfl ?_
  refine r_iconst (pc := 264) C dL_law_264 ki2 ?_
  refine r_iadd (pc := 265) C dL_law_265 ?_
  refine l_sld (pc := 266) Z hb dL_law_266 (j := n + 2) (lxi hn hL (j := 2) (by decide)) ?_
  refine r_aload_n (pc := 267) C dL_law_267 rfl 0 rfl ?_
  refine r_iload (pc := 268) C dL_law_268 4 rfl ?_
  refine r_iconst (pc := 270) C dL_law_270 ki3 ?_
  refine r_iadd (pc := 271) C dL_law_271 ?_
  refine l_sld (pc := 272) Z hb dL_law_272 (j := n + 3) (lxi hn hL (j := 3) (by decide)) ?_
  refine r_aload_n (pc := 273) C dL_law_273 rfl 0 rfl ?_
  refine r_iload (pc := 274) C dL_law_274 4 rfl ?_
  refine r_iconst (pc := 276) C dL_law_276 ki4 ?_
  refine r_iadd (pc := 277) C dL_law_277 ?_
  refine l_sld (pc := 278) Z hb dL_law_278 (j := n + 4) (lxi hn hL (j := 4) (by decide)) ?_
  refine r_aload_n (pc := 279) C dL_law_279 rfl 0 rfl ?_
  refine r_iload (pc := 280) C dL_law_280 4 rfl ?_
  refine r_iconst (pc := 282) C dL_law_282 ki5 ?_
  refine r_iadd (pc := 283) C dL_law_283 ?_
  refine l_sld (pc := 284) Z hb dL_law_284 (j := n + 5) (lxi hn hL (j := 5) (by decide)) ?_
  refine c_X11_feed (pc := 285) C dL_law_285 q1519 ⟨Nat.le_of_ble_eq_true rfl, Nat.le_of_ble_eq_true rfl⟩ h2 (Nat.le_of_ble_eq_true rfl) ?_
  refine r_icmp_eq (pc := 288) (tgt := 1765) C dL_law_288 rfl (fun _ => ?_) (fun c => absurd rfl c)
  exact l_widen Z (by omega) (by omega) k
theorem lc_1 {r : Int32} {M1 : gM} {M2 : gM} (Z : gLD Φ l D base ad0 b L xs) (hst : l.stackTraces = false) (hb : ad (gad 60 1) = b) (had : ∀ k, k < 2 → ad (gad 62 k) = ad0 (gad 62 k)) (hn : n + 6 ≤ L) (hL : L ≤ 3072) (h1 : X10_end (xs (n + 1)) M = some (r, M1)) (h2 : X11_end (xs (n + 1)) M1 = some (r, M2)) (hroom : cells + 1 ≤ 601024 ∧ slots + 6 ≤ 7293033) (k : Φ (cells + 1) (slots + 6) ad cA (gXn nf) M2 1765 [(0, .ref (gad 60 1)), (1, .ref (gad 0 0)), (2, .ref (gad 50 0)), (3, .ref (gad 53 0)), (4, .int (Int32.ofNat n))] []) : Φ cells slots ad cA (gXn nf) M 293 [(0, .ref (gad 60 1)), (1, .ref (gad 0 0)), (2, .ref (gad 50 0)), (3, .ref (gad 53 0)), (4, .int (Int32.ofNat n))] [] := by
  have C := Z.D.elim fun _ Z => Z.C (cells := cells) (slots := slots) (by omega) (by omega) cA (gXn nf) had none none M
  refine r_aload_n (pc := 293) C dL_law_293 rfl 1 rfl ?_
  refine r_aload_n (pc := 294) C dL_law_294 rfl 0 rfl ?_
  refine r_iload (pc := 295) C dL_law_295 4 rfl ?_
  refine r_iconst (pc := 297) C dL_law_297 ki1 ?_
  refine r_iadd (pc := 298) C dL_law_298 ?_
  refine l_sld (pc := 299) Z hb dL_law_299 (j := n + 1) (lxi hn hL (j := 1) (by decide)) ?_
  refine c_X10_end (pc := 300) C dL_law_300 q594 ⟨Nat.le_of_ble_eq_true rfl, Nat.le_of_ble_eq_true rfl⟩ h1 (Nat.le_of_ble_eq_true rfl) ?_
  refine r_aload_n (pc := 303) C dL_law_303 rfl 2 rfl ?_
  refine r_aload_n (pc := 304) C dL_law_304 rfl 0 rfl ?_
  refine r_iload (pc := 305) C dL_law_305 4 rfl ?_
  refine r_iconst (pc := 307) C dL_law_307 ki1 ?_
  refine r_iadd (pc := 308) C dL_law_308 ?_
  refine l_sld (pc := 309) Z hb dL_law_309 (j := n + 1) (lxi hn hL (j := 1) (by decide)) ?_
  refine c_X11_end (pc := 310) C dL_law_310 q1530 ⟨Nat.le_of_ble_eq_true rfl, Nat.le_of_ble_eq_true rfl⟩ h2 (Nat.le_of_ble_eq_true rfl) ?_
  refine r_icmp_eq (pc := 313) (tgt := 1765) C dL_law_313 rfl (fun _ => ?_) (fun c => absurd rfl c)
  exact l_widen Z (by omega) (by omega) k
theorem lc_2 {r : Int32} {M1 : gM} {M2 : gM} (Z : gLD Φ l D base ad0 b L xs) (hst : l.stackTraces = false) (hb : ad (gad 60 1) = b) (had : ∀ k, k < 2 → ad (gad 62 k) = ad0 (gad 62 k)) (hn : n + 6 ≤ L) (hL : L ≤ 3072) (h1 : X10_fault (xs (n + 1)) M = some (r, M1)) (h2 : X11_fault (xs (n + 1)) M1 = some (r, M2)) (hroom : cells + 1 ≤ 601024 ∧ slots + 6 ≤ 7293033) (k : Φ (cells + 1) (slots + 6) ad cA (gXn nf) M2 1765 [(0, .ref (gad 60 1)), (1, .ref (gad 0 0)), (2, .ref (gad 50 0)), (3, .ref (gad 53 0)), (4, .int (Int32.ofNat n))] []) : Φ cells slots ad cA (gXn nf) M 318 [(0, .ref (gad 60 1)), (1, .ref (gad 0 0)), (2, .ref (gad 50 0)), (3, .ref (gad 53 0)), (4, .int (Int32.ofNat n))] [] := by
  have C := Z.D.elim fun _ Z => Z.C (cells := cells) (slots := slots) (by omega) (by omega) cA (gXn nf) had none none M
  refine r_aload_n (pc := 318) C dL_law_318 rfl 1 rfl ?_
  refine r_aload_n (pc := 319) C dL_law_319 rfl 0 rfl ?_
  refine r_iload (pc := 320) C dL_law_320 4 rfl ?_
  refine r_iconst (pc := 322) C dL_law_322 ki1 ?_
  refine r_iadd (pc := 323) C dL_law_323 ?_
  refine l_sld (pc := 324) Z hb dL_law_324 (j := n + 1) (lxi hn hL (j := 1) (by decide)) ?_
  refine c_X10_fault (pc := 325) C dL_law_325 q598 ⟨Nat.le_of_ble_eq_true rfl, Nat.le_of_ble_eq_true rfl⟩ h1 (Nat.le_of_ble_eq_true rfl) ?_
  refine r_aload_n (pc := 328) C dL_law_328 rfl 2 rfl ?_
  refine r_aload_n (pc := 329) C dL_law_329 rfl 0 rfl ?_
  refine r_iload (pc := 330) C dL_law_330 4 rfl ?_
  refine r_iconst (pc := 332) C dL_law_332 ki1 ?_
  refine r_iadd (pc := 333) C dL_law_333 ?_
  refine l_sld (pc := 334) Z hb dL_law_334 (j := n + 1) (lxi hn hL (j := 1) (by decide)) ?_
  refine c_X11_fault (pc := 335) C dL_law_335 q1534 ⟨Nat.le_of_ble_eq_true rfl, Nat.le_of_ble_eq_true rfl⟩ h2 (Nat.le_of_ble_eq_true rfl) ?_
  refine r_icmp_eq (pc := 338) (tgt := 1765) C dL_law_338 rfl (fun _ => ?_) (fun c => absurd rfl c)
  exact l_widen Z (by omega) (by omega) k
theorem lc_3 {r : Int32} {M1 : gM} {M2 : gM} (Z : gLD Φ l D base ad0 b L xs) (hst : l.stackTraces = false) (hb : ad (gad 60 1) = b) (had : ∀ k, k < 2 → ad (gad 62 k) = ad0 (gad 62 k)) (hn : n + 6 ≤ L) (hL : L ≤ 3072) (h1 : X10_text (xs (n + 1)) M = some (r, M1)) (h2 : X11_text (xs (n + 1)) M1 = some (r, M2)) (hroom : cells + 1 ≤ 601024 ∧ slots + 6 ≤ 7293033) (k : Φ (cells + 1) (slots + 6) ad cA (gXn nf) M2 1765 [(0, .ref (gad 60 1)), (1, .ref (gad 0 0)), (2, .ref (gad 50 0)), (3, .ref (gad 53 0)), (4, .int (Int32.ofNat n))] []) : Φ cells slots ad cA (gXn nf) M 343 [(0, .ref (gad 60 1)), (1, .ref (gad 0 0)), (2, .ref (gad 50 0)), (3, .ref (gad 53 0)), (4, .int (Int32.ofNat n))] [] := by
  have C := Z.D.elim fun _ Z => Z.C (cells := cells) (slots := slots) (by omega) (by omega) cA (gXn nf) had none none M
  refine r_aload_n (pc := 343) C dL_law_343 rfl 1 rfl ?_
  refine r_aload_n (pc := 344) C dL_law_344 rfl 0 rfl ?_
  refine r_iload (pc := 345) C dL_law_345 4 rfl ?_
  refine r_iconst (pc := 347) C dL_law_347 ki1 ?_
  refine r_iadd (pc := 348) C dL_law_348 ?_
  refine l_sld (pc := 349) Z hb dL_law_349 (j := n + 1) (lxi hn hL (j := 1) (by decide)) ?_
  refine c_X10_text (pc := 350) C dL_law_350 q721 ⟨Nat.le_of_ble_eq_true rfl, Nat.le_of_ble_eq_true rfl⟩ h1 (Nat.le_of_ble_eq_true rfl) ?_
  refine r_aload_n (pc := 353) C dL_law_353 rfl 2 rfl ?_
  refine r_aload_n (pc := 354) C dL_law_354 rfl 0 rfl ?_
  refine r_iload (pc := 355) C dL_law_355 4 rfl ?_
  refine r_iconst (pc := 357) C dL_law_357 ki1 ?_
  refine r_iadd (pc := 358) C dL_law_358 ?_
  refine l_sld (pc := 359) Z hb dL_law_359 (j := n + 1) (lxi hn hL (j := 1) (by decide)) ?_
  refine c_X11_text (pc := 360) C dL_law_360 q1627 ⟨Nat.le_of_ble_eq_true rfl, Nat.le_of_ble_eq_true rfl⟩ h2 (Nat.le_of_ble_eq_true rfl) ?_
  refine r_icmp_eq (pc := 363) (tgt := 1765) C dL_law_363 rfl (fun _ => ?_) (fun c => absurd rfl c)
  exact l_widen Z (by omega) (by omega) k
theorem lc_4 {r : Int32} {M2 : gM} (Z : gLD Φ l D base ad0 b L xs) (hst : l.stackTraces = false) (hb : ad (gad 60 1) = b) (had : ∀ k, k < 2 → ad (gad 62 k) = ad0 (gad 62 k)) (hn : n + 6 ≤ L) (hL : L ≤ 3072) (h1 : X10_rule (xs (n + 1)) M = some r) (h2 : X11_rule (xs (n + 1)) M = some (r, M2)) (hroom : cells + 1 ≤ 601024 ∧ slots + 6 ≤ 7293033) (k : Φ (cells + 1) (slots + 6) ad cA (gXn nf) M2 1765 [(0, .ref (gad 60 1)), (1, .ref (gad 0 0)), (2, .ref (gad 50 0)), (3, .ref (gad 53 0)), (4, .int (Int32.ofNat n))] []) : Φ cells slots ad cA (gXn nf) M 368 [(0, .ref (gad 60 1)), (1, .ref (gad 0 0)), (2, .ref (gad 50 0)), (3, .ref (gad 53 0)), (4, .int (Int32.ofNat n))] [] := by
  have C := Z.D.elim fun _ Z => Z.C (cells := cells) (slots := slots) (by omega) (by omega) cA (gXn nf) had none none M
  refine r_aload_n (pc := 368) C dL_law_368 rfl 1 rfl ?_
  refine r_aload_n (pc := 369) C dL_law_369 rfl 0 rfl ?_
  refine r_iload (pc := 370) C dL_law_370 4 rfl ?_
  refine r_iconst (pc := 372) C dL_law_372 ki1 ?_
  refine r_iadd (pc := 373) C dL_law_373 ?_
  refine l_sld (pc := 374) Z hb dL_law_374 (j := n + 1) (lxi hn hL (j := 1) (by decide)) ?_
  refine c_X10_rule (pc := 375) C dL_law_375 q855 ⟨Nat.le_of_ble_eq_true rfl, Nat.le_of_ble_eq_true rfl⟩ h1 (Nat.le_of_ble_eq_true rfl) ?_
  refine r_aload_n (pc := 378) C dL_law_378 rfl 2 rfl ?_
  refine r_aload_n (pc := 379) C dL_law_379 rfl 0 rfl ?_
  refine r_iload (pc := 380) C dL_law_380 4 rfl ?_
  refine r_iconst (pc := 382) C dL_law_382 ki1 ?_
  refine r_iadd (pc := 383) C dL_law_383 ?_
  refine l_sld (pc := 384) Z hb dL_law_384 (j := n + 1) (lxi hn hL (j := 1) (by decide)) ?_
  refine c_X11_rule (pc := 385) C dL_law_385 q1882 ⟨Nat.le_of_ble_eq_true rfl, Nat.le_of_ble_eq_true rfl⟩ h2 (Nat.le_of_ble_eq_true rfl) ?_
  refine r_icmp_eq (pc := 388) (tgt := 1765) C dL_law_388 rfl (fun _ => ?_) (fun c => absurd rfl c)
  exact l_widen Z (by omega) (by omega) k
theorem lc_5 {r : Int32} {kk : Int32} {M1 : gM} {M2 : gM} (Z : gLD Φ l D base ad0 b L xs) (hst : l.stackTraces = false) (hb : ad (gad 60 1) = b) (had : ∀ k, k < 2 → ad (gad 62 k) = ad0 (gad 62 k)) (hn : n + 6 ≤ L) (hL : L ≤ 3072) (h1 : L_tri (xs (n + 1)) (xs (n + 2)) M = some (kk, M1)) (h2 : X11_triangle (xs (n + 1)) (xs (n + 2)) M1 = some (r, M2)) (h3 : X11_thrown M2 = some kk) (h4 : kk = 0 → M2.2 53 0 0 = Int32.toInt64 r) (hroom : cells + 1 ≤ 601024 ∧ slots + 6 ≤ 7293033) (k : Φ (cells + 1) (slots + 6) ad cA (gXn nf) M2 1765 [(0, .ref (gad 60 1)), (1, .ref (gad 0 0)), (2, .ref (gad 50 0)), (3, .ref (gad 53 0)), (4, .int (Int32.ofNat n))] []) : Φ cells slots ad cA (gXn nf) M 393 [(0, .ref (gad 60 1)), (1, .ref (gad 0 0)), (2, .ref (gad 50 0)), (3, .ref (gad 53 0)), (4, .int (Int32.ofNat n))] [] := by
  have C := Z.D.elim fun _ Z => Z.C (cells := cells) (slots := slots) (by omega) (by omega) cA (gXn nf) had none none M
  refine r_aload_n (pc := 393) C dL_law_393 rfl 1 rfl ?_
  refine r_aload_n (pc := 394) C dL_law_394 rfl 0 rfl ?_
  refine r_iload (pc := 395) C dL_law_395 4 rfl ?_
  refine r_iconst (pc := 397) C dL_law_397 ki1 ?_
  refine r_iadd (pc := 398) C dL_law_398 ?_
  refine l_sld (pc := 399) Z hb dL_law_399 (j := n + 1) (lxi hn hL (j := 1) (by decide)) ?_
  refine r_aload_n (pc := 400) C dL_law_400 rfl 0 rfl ?_
  refine r_iload (pc := 401) C dL_law_401 4 rfl ?_
  refine r_iconst (pc := 403) C dL_law_403 ki2 ?_
  refine r_iadd (pc := 404) C dL_law_404 ?_
  refine l_sld (pc := 405) Z hb dL_law_405 (j := n + 2) (lxi hn hL (j := 2) (by decide)) ?_
  refine r_aload_n (pc := 406) C dL_law_406 rfl 3 rfl ?_
  refine l_tri (pc := 407) Z hst had dL_law_407 h1 hroom (Nat.le_of_ble_eq_true rfl) ?_
  have C := Z.D.elim fun _ Z => Z.C (cells := cells + 1) (slots := slots + 6) hroom.1 hroom.2 cA (gXn nf) had none none M
  refine r_istore (pc := 410) C dL_law_410 (by decide) rfl (ls' := [(5, .int kk), (0, .ref (gad 60 1)), (1, .ref (gad 0 0)), (2, .ref (gad 50 0)), (3, .ref (gad 53 0)), (4, .int (Int32.ofNat n))]) rfl ?_
  refine r_aload_n (pc := 412) C dL_law_412 rfl 3 rfl ?_
  refine r_aload_n (pc := 413) C dL_law_413 rfl 1 rfl ?_
  refine r_iload (pc := 414) C dL_law_414 5 rfl ?_
  refine r_iconst (pc := 416) C dL_law_416 ki1 ?_
  refine r_iadd (pc := 417) C dL_law_417 ?_
  refine l_sld (pc := 418) Z hb dL_law_418 (j := n + 1) (lxi hn hL (j := 1) (by decide)) ?_
  refine r_aload_n (pc := 419) C dL_law_419 rfl 1 rfl ?_
  refine r_iload (pc := 420) C dL_law_420 5 rfl ?_
  refine r_iconst (pc := 422) C dL_law_422 ki2 ?_
  refine r_iadd (pc := 423) C dL_law_423 ?_
  refine l_sld (pc := 424) Z hb dL_law_424 (j := n + 2) (lxi hn hL (j := 2) (by decide)) ?_
  refine c_X11_triangle (pc := 425) C dL_law_425 q1886 ⟨Nat.le_of_ble_eq_true rfl, Nat.le_of_ble_eq_true rfl⟩ h2 (Nat.le_of_ble_eq_true rfl) ?_
  refine r_istore (pc := 428) C dL_law_428 (by decide) rfl (ls' := [(6, .int r), (5, .int kk), (0, .ref (gad 60 1)), (1, .ref (gad 0 0)), (2, .ref (gad 50 0)), (3, .ref (gad 53 0)), (4, .int (Int32.ofNat n))]) rfl ?_
  refine r_aload_n (pc := 430) C dL_law_430 rfl 4 rfl ?_
  refine c_X11_thrown (pc := 431) C dL_law_431 q1515 ⟨Nat.le_of_ble_eq_true rfl, Nat.le_of_ble_eq_true rfl⟩ h3 (Nat.le_of_ble_eq_true rfl) ?_
  refine r_iload (pc := 434) C dL_law_434 1 rfl ?_
  refine r_icmp_eq (pc := 436) (tgt := 441) C dL_law_436 rfl (fun _ => ?_) (fun c => absurd rfl c)
  refine r_iload (pc := 441) C dL_law_441 1 rfl ?_
  refine r_if_ne (pc := 443) (tgt := 458) C dL_law_443 rfl (fun ck => ?_) (fun ck => ?_)
  · refine r_sub C [2, 3, 4, 5, 6] (ls' := [(0, .ref (gad 60 1)), (1, .ref (gad 0 0)), (2, .ref (gad 50 0)), (3, .ref (gad 53 0)), (4, .int (Int32.ofNat n))]) rfl ?_
    refine r_goto (pc := 458) (tgt := 1765) C dL_law_458 rfl ?_
    exact k
  · skip
    refine r_aload_n (pc := 446) C dL_law_446 rfl 5 rfl ?_
    refine r_iconst (pc := 447) C dL_law_447 ki0 ?_
    refine r_laldN (pc := 448) C dL_law_448 rfl (e53 nf) (by decide : gin 0 1 = true) kc0 ?_
    refine r_iload (pc := 449) C dL_law_449 0 rfl ?_
    refine r_i2l (pc := 451) C dL_law_451 ?_
    refine r_lcmp (pc := 452) C dL_law_452 ?_
    refine r_if_eq (pc := 453) (tgt := 458) C dL_law_453 rfl (fun _ => ?_) (fun c => absurd (by rw [h4 ck]; exact lcmp_self _) c)
    refine r_goto (pc := 458) (tgt := 1765) C dL_law_458 rfl ?_
    refine r_sub C [2, 3, 4, 5, 6] (ls' := [(0, .ref (gad 60 1)), (1, .ref (gad 0 0)), (2, .ref (gad 50 0)), (3, .ref (gad 53 0)), (4, .int (Int32.ofNat n))]) rfl ?_
    exact k
theorem lc_6 {r : Int32} {M2 : gM} (Z : gLD Φ l D base ad0 b L xs) (hst : l.stackTraces = false) (hb : ad (gad 60 1) = b) (had : ∀ k, k < 2 → ad (gad 62 k) = ad0 (gad 62 k)) (hn : n + 6 ≤ L) (hL : L ≤ 3072) (h1 : X10_corner (xs (n + 1)) (xs (n + 2)) (xs (n + 3)) M = some r) (h2 : X11_corner (xs (n + 1)) (xs (n + 2)) (xs (n + 3)) M = some (r, M2)) (hroom : cells + 1 ≤ 601024 ∧ slots + 6 ≤ 7293033) (k : Φ (cells + 1) (slots + 6) ad cA (gXn nf) M2 1765 [(0, .ref (gad 60 1)), (1, .ref (gad 0 0)), (2, .ref (gad 50 0)), (3, .ref (gad 53 0)), (4, .int (Int32.ofNat n))] []) : Φ cells slots ad cA (gXn nf) M 461 [(0, .ref (gad 60 1)), (1, .ref (gad 0 0)), (2, .ref (gad 50 0)), (3, .ref (gad 53 0)), (4, .int (Int32.ofNat n))] [] := by
  have C := Z.D.elim fun _ Z => Z.C (cells := cells) (slots := slots) (by omega) (by omega) cA (gXn nf) had none none M
  refine r_aload_n (pc := 461) C dL_law_461 rfl 1 rfl ?_
  refine r_aload_n (pc := 462) C dL_law_462 rfl 0 rfl ?_
  refine r_iload (pc := 463) C dL_law_463 4 rfl ?_
  refine r_iconst (pc := 465) C dL_law_465 ki1 ?_
  refine r_iadd (pc := 466) C dL_law_466 ?_
  refine l_sld (pc := 467) Z hb dL_law_467 (j := n + 1) (lxi hn hL (j := 1) (by decide)) ?_
  refine r_aload_n (pc := 468) C dL_law_468 rfl 0 rfl ?_
  refine r_iload (pc := 469) C dL_law_469 4 rfl ?_
  refine r_iconst (pc := 471) C dL_law_471 ki2 ?_
  refine r_iadd (pc := 472) C dL_law_472 ?_
  refine l_sld (pc := 473) Z hb dL_law_473 (j := n + 2) (lxi hn hL (j := 2) (by decide)) ?_
  refine r_aload_n (pc := 474) C dL_law_474 rfl 0 rfl ?_
  refine r_iload (pc := 475) C dL_law_475 4 rfl ?_
  refine r_iconst (pc := 477) C dL_law_477 ki3 ?_
  refine r_iadd (pc := 478) C dL_law_478 ?_
  refine l_sld (pc := 479) Z hb dL_law_479 (j := n + 3) (lxi hn hL (j := 3) (by decide)) ?_
  refine c_X10_corner (pc := 480) C dL_law_480 q863 ⟨Nat.le_of_ble_eq_true rfl, Nat.le_of_ble_eq_true rfl⟩ h1 (Nat.le_of_ble_eq_true rfl) ?_
  refine r_aload_n (pc := 483) C dL_law_483 rfl 2 rfl ?_
  refine r_aload_n (pc := 484) C dL_law_484 rfl 0 rfl ?_
  refine r_iload (pc := 485) C dL_law_485 4 rfl ?_
  refine r_iconst (pc := 487) C dL_law_487 ki1 ?_
  refine r_iadd (pc := 488) C dL_law_488 ?_
  refine l_sld (pc := 489) Z hb dL_law_489 (j := n + 1) (lxi hn hL (j := 1) (by decide)) ?_
  refine r_aload_n (pc := 490) C dL_law_490 rfl 0 rfl ?_
  refine r_iload (pc := 491) C dL_law_491 4 rfl ?_
  refine r_iconst (pc := 493) C dL_law_493 ki2 ?_
  refine r_iadd (pc := 494) C dL_law_494 ?_
  refine l_sld (pc := 495) Z hb dL_law_495 (j := n + 2) (lxi hn hL (j := 2) (by decide)) ?_
  refine r_aload_n (pc := 496) C dL_law_496 rfl 0 rfl ?_
  refine r_iload (pc := 497) C dL_law_497 4 rfl ?_
  refine r_iconst (pc := 499) C dL_law_499 ki3 ?_
  refine r_iadd (pc := 500) C dL_law_500 ?_
  refine l_sld (pc := 501) Z hb dL_law_501 (j := n + 3) (lxi hn hL (j := 3) (by decide)) ?_
  refine c_X11_corner (pc := 502) C dL_law_502 q1915 ⟨Nat.le_of_ble_eq_true rfl, Nat.le_of_ble_eq_true rfl⟩ h2 (Nat.le_of_ble_eq_true rfl) ?_
  refine r_icmp_eq (pc := 505) (tgt := 1765) C dL_law_505 rfl (fun _ => ?_) (fun c => absurd rfl c)
  exact l_widen Z (by omega) (by omega) k
theorem lc_7 {r : Int32} {M2 : gM} (Z : gLD Φ l D base ad0 b L xs) (hst : l.stackTraces = false) (hb : ad (gad 60 1) = b) (had : ∀ k, k < 2 → ad (gad 62 k) = ad0 (gad 62 k)) (hn : n + 6 ≤ L) (hL : L ≤ 3072) (h1 : X10_edge (xs (n + 1)) (xs (n + 2)) (xs (n + 3)) (xs (n + 4)) M = some r) (h2 : X11_edge (xs (n + 1)) (xs (n + 2)) (xs (n + 3)) (xs (n + 4)) M = some (r, M2)) (hroom : cells + 1 ≤ 601024 ∧ slots + 6 ≤ 7293033) (k : Φ (cells + 1) (slots + 6) ad cA (gXn nf) M2 1765 [(0, .ref (gad 60 1)), (1, .ref (gad 0 0)), (2, .ref (gad 50 0)), (3, .ref (gad 53 0)), (4, .int (Int32.ofNat n))] []) : Φ cells slots ad cA (gXn nf) M 510 [(0, .ref (gad 60 1)), (1, .ref (gad 0 0)), (2, .ref (gad 50 0)), (3, .ref (gad 53 0)), (4, .int (Int32.ofNat n))] [] := by
  have C := Z.D.elim fun _ Z => Z.C (cells := cells) (slots := slots) (by omega) (by omega) cA (gXn nf) had none none M
  refine r_aload_n (pc := 510) C dL_law_510 rfl 1 rfl ?_
  refine r_aload_n (pc := 511) C dL_law_511 rfl 0 rfl ?_
  refine r_iload (pc := 512) C dL_law_512 4 rfl ?_
  refine r_iconst (pc := 514) C dL_law_514 ki1 ?_
  refine r_iadd (pc := 515) C dL_law_515 ?_
  refine l_sld (pc := 516) Z hb dL_law_516 (j := n + 1) (lxi hn hL (j := 1) (by decide)) ?_
  refine r_aload_n (pc := 517) C dL_law_517 rfl 0 rfl ?_
  refine r_iload (pc := 518) C dL_law_518 4 rfl ?_
  refine r_iconst (pc := 520) C dL_law_520 ki2 ?_
  refine r_iadd (pc := 521) C dL_law_521 ?_
  refine l_sld (pc := 522) Z hb dL_law_522 (j := n + 2) (lxi hn hL (j := 2) (by decide)) ?_
  refine r_aload_n (pc := 523) C dL_law_523 rfl 0 rfl ?_
  refine r_iload (pc := 524) C dL_law_524 4 rfl ?_
  refine r_iconst (pc := 526) C dL_law_526 ki3 ?_
  refine r_iadd (pc := 527) C dL_law_527 ?_
  refine l_sld (pc := 528) Z hb dL_law_528 (j := n + 3) (lxi hn hL (j := 3) (by decide)) ?_
  refine r_aload_n (pc := 529) C dL_law_529 rfl 0 rfl ?_
  refine r_iload (pc := 530) C dL_law_530 4 rfl ?_
  refine r_iconst (pc := 532) C dL_law_532 ki4 ?_
  refine r_iadd (pc := 533) C dL_law_533 ?_
  refine l_sld (pc := 534) Z hb dL_law_534 (j := n + 4) (lxi hn hL (j := 4) (by decide)) ?_
  refine c_X10_edge (pc := 535) C dL_law_535 q872 ⟨Nat.le_of_ble_eq_true rfl, Nat.le_of_ble_eq_true rfl⟩ h1 (Nat.le_of_ble_eq_true rfl) ?_
  refine r_aload_n (pc := 538) C dL_law_538 rfl 2 rfl ?_
  refine r_aload_n (pc := 539) C dL_law_539 rfl 0 rfl ?_
  refine r_iload (pc := 540) C dL_law_540 4 rfl ?_
  refine r_iconst (pc := 542) C dL_law_542 ki1 ?_
  refine r_iadd (pc := 543) C dL_law_543 ?_
  refine l_sld (pc := 544) Z hb dL_law_544 (j := n + 1) (lxi hn hL (j := 1) (by decide)) ?_
  refine r_aload_n (pc := 545) C dL_law_545 rfl 0 rfl ?_
  refine r_iload (pc := 546) C dL_law_546 4 rfl ?_
  refine r_iconst (pc := 548) C dL_law_548 ki2 ?_
  refine r_iadd (pc := 549) C dL_law_549 ?_
  refine l_sld (pc := 550) Z hb dL_law_550 (j := n + 2) (lxi hn hL (j := 2) (by decide)) ?_
  refine r_aload_n (pc := 551) C dL_law_551 rfl 0 rfl ?_
  refine r_iload (pc := 552) C dL_law_552 4 rfl ?_
  refine r_iconst (pc := 554) C dL_law_554 ki3 ?_
  refine r_iadd (pc := 555) C dL_law_555 ?_
  refine l_sld (pc := 556) Z hb dL_law_556 (j := n + 3) (lxi hn hL (j := 3) (by decide)) ?_
  refine r_aload_n (pc := 557) C dL_law_557 rfl 0 rfl ?_
  refine r_iload (pc := 558) C dL_law_558 4 rfl ?_
  refine r_iconst (pc := 560) C dL_law_560 ki4 ?_
  refine r_iadd (pc := 561) C dL_law_561 ?_
  refine l_sld (pc := 562) Z hb dL_law_562 (j := n + 4) (lxi hn hL (j := 4) (by decide)) ?_
  refine c_X11_edge (pc := 563) C dL_law_563 q1919 ⟨Nat.le_of_ble_eq_true rfl, Nat.le_of_ble_eq_true rfl⟩ h2 (Nat.le_of_ble_eq_true rfl) ?_
  refine r_icmp_eq (pc := 566) (tgt := 1765) C dL_law_566 rfl (fun _ => ?_) (fun c => absurd rfl c)
  exact l_widen Z (by omega) (by omega) k
theorem lc_8 {r : Int32} {M2 : gM} (Z : gLD Φ l D base ad0 b L xs) (hst : l.stackTraces = false) (hb : ad (gad 60 1) = b) (had : ∀ k, k < 2 → ad (gad 62 k) = ad0 (gad 62 k)) (hn : n + 6 ≤ L) (hL : L ≤ 3072) (h1 : X10_mask (xs (n + 1)) (xs (n + 2)) (xs (n + 3)) M = some r) (h2 : X11_mask (xs (n + 1)) (xs (n + 2)) (xs (n + 3)) M = some (r, M2)) (hroom : cells + 1 ≤ 601024 ∧ slots + 6 ≤ 7293033) (k : Φ (cells + 1) (slots + 6) ad cA (gXn nf) M2 1765 [(0, .ref (gad 60 1)), (1, .ref (gad 0 0)), (2, .ref (gad 50 0)), (3, .ref (gad 53 0)), (4, .int (Int32.ofNat n))] []) : Φ cells slots ad cA (gXn nf) M 571 [(0, .ref (gad 60 1)), (1, .ref (gad 0 0)), (2, .ref (gad 50 0)), (3, .ref (gad 53 0)), (4, .int (Int32.ofNat n))] [] := by
  have C := Z.D.elim fun _ Z => Z.C (cells := cells) (slots := slots) (by omega) (by omega) cA (gXn nf) had none none M
  refine r_aload_n (pc := 571) C dL_law_571 rfl 1 rfl ?_
  refine r_aload_n (pc := 572) C dL_law_572 rfl 0 rfl ?_
  refine r_iload (pc := 573) C dL_law_573 4 rfl ?_
  refine r_iconst (pc := 575) C dL_law_575 ki1 ?_
  refine r_iadd (pc := 576) C dL_law_576 ?_
  refine l_sld (pc := 577) Z hb dL_law_577 (j := n + 1) (lxi hn hL (j := 1) (by decide)) ?_
  refine r_aload_n (pc := 578) C dL_law_578 rfl 0 rfl ?_
  refine r_iload (pc := 579) C dL_law_579 4 rfl ?_
  refine r_iconst (pc := 581) C dL_law_581 ki2 ?_
  refine r_iadd (pc := 582) C dL_law_582 ?_
  refine l_sld (pc := 583) Z hb dL_law_583 (j := n + 2) (lxi hn hL (j := 2) (by decide)) ?_
  refine r_aload_n (pc := 584) C dL_law_584 rfl 0 rfl ?_
  refine r_iload (pc := 585) C dL_law_585 4 rfl ?_
  refine r_iconst (pc := 587) C dL_law_587 ki3 ?_
  refine r_iadd (pc := 588) C dL_law_588 ?_
  refine l_sld (pc := 589) Z hb dL_law_589 (j := n + 3) (lxi hn hL (j := 3) (by decide)) ?_
  refine c_X10_mask (pc := 590) C dL_law_590 q880 ⟨Nat.le_of_ble_eq_true rfl, Nat.le_of_ble_eq_true rfl⟩ h1 (Nat.le_of_ble_eq_true rfl) ?_
  refine r_aload_n (pc := 593) C dL_law_593 rfl 2 rfl ?_
  refine r_aload_n (pc := 594) C dL_law_594 rfl 0 rfl ?_
  refine r_iload (pc := 595) C dL_law_595 4 rfl ?_
  refine r_iconst (pc := 597) C dL_law_597 ki1 ?_
  refine r_iadd (pc := 598) C dL_law_598 ?_
  refine l_sld (pc := 599) Z hb dL_law_599 (j := n + 1) (lxi hn hL (j := 1) (by decide)) ?_
  refine r_aload_n (pc := 600) C dL_law_600 rfl 0 rfl ?_
  refine r_iload (pc := 601) C dL_law_601 4 rfl ?_
  refine r_iconst (pc := 603) C dL_law_603 ki2 ?_
  refine r_iadd (pc := 604) C dL_law_604 ?_
  refine l_sld (pc := 605) Z hb dL_law_605 (j := n + 2) (lxi hn hL (j := 2) (by decide)) ?_
  refine r_aload_n (pc := 606) C dL_law_606 rfl 0 rfl ?_
  refine r_iload (pc := 607) C dL_law_607 4 rfl ?_
  refine r_iconst (pc := 609) C dL_law_609 ki3 ?_
  refine r_iadd (pc := 610) C dL_law_610 ?_
  refine l_sld (pc := 611) Z hb dL_law_611 (j := n + 3) (lxi hn hL (j := 3) (by decide)) ?_
  refine c_X11_mask (pc := 612) C dL_law_612 q1923 ⟨Nat.le_of_ble_eq_true rfl, Nat.le_of_ble_eq_true rfl⟩ h2 (Nat.le_of_ble_eq_true rfl) ?_
  refine r_icmp_eq (pc := 615) (tgt := 1765) C dL_law_615 rfl (fun _ => ?_) (fun c => absurd rfl c)
  exact l_widen Z (by omega) (by omega) k
theorem lc_9 {r : Int32} {M2 : gM} (Z : gLD Φ l D base ad0 b L xs) (hst : l.stackTraces = false) (hb : ad (gad 60 1) = b) (had : ∀ k, k < 2 → ad (gad 62 k) = ad0 (gad 62 k)) (hn : n + 6 ≤ L) (hL : L ≤ 3072) (h1 : X10_depth (xs (n + 1)) (xs (n + 2)) (xs (n + 3)) (xs (n + 4)) M = some r) (h2 : X11_depth (xs (n + 1)) (xs (n + 2)) (xs (n + 3)) (xs (n + 4)) M = some (r, M2)) (hroom : cells + 1 ≤ 601024 ∧ slots + 6 ≤ 7293033) (k : Φ (cells + 1) (slots + 6) ad cA (gXn nf) M2 1765 [(0, .ref (gad 60 1)), (1, .ref (gad 0 0)), (2, .ref (gad 50 0)), (3, .ref (gad 53 0)), (4, .int (Int32.ofNat n))] []) : Φ cells slots ad cA (gXn nf) M 620 [(0, .ref (gad 60 1)), (1, .ref (gad 0 0)), (2, .ref (gad 50 0)), (3, .ref (gad 53 0)), (4, .int (Int32.ofNat n))] [] := by
  have C := Z.D.elim fun _ Z => Z.C (cells := cells) (slots := slots) (by omega) (by omega) cA (gXn nf) had none none M
  refine r_aload_n (pc := 620) C dL_law_620 rfl 1 rfl ?_
  refine r_aload_n (pc := 621) C dL_law_621 rfl 0 rfl ?_
  refine r_iload (pc := 622) C dL_law_622 4 rfl ?_
  refine r_iconst (pc := 624) C dL_law_624 ki1 ?_
  refine r_iadd (pc := 625) C dL_law_625 ?_
  refine l_sld (pc := 626) Z hb dL_law_626 (j := n + 1) (lxi hn hL (j := 1) (by decide)) ?_
  refine r_aload_n (pc := 627) C dL_law_627 rfl 0 rfl ?_
  refine r_iload (pc := 628) C dL_law_628 4 rfl ?_
  refine r_iconst (pc := 630) C dL_law_630 ki2 ?_
  refine r_iadd (pc := 631) C dL_law_631 ?_
  refine l_sld (pc := 632) Z hb dL_law_632 (j := n + 2) (lxi hn hL (j := 2) (by decide)) ?_
  refine r_aload_n (pc := 633) C dL_law_633 rfl 0 rfl ?_
  refine r_iload (pc := 634) C dL_law_634 4 rfl ?_
  refine r_iconst (pc := 636) C dL_law_636 ki3 ?_
  refine r_iadd (pc := 637) C dL_law_637 ?_
  refine l_sld (pc := 638) Z hb dL_law_638 (j := n + 3) (lxi hn hL (j := 3) (by decide)) ?_
  refine r_aload_n (pc := 639) C dL_law_639 rfl 0 rfl ?_
  refine r_iload (pc := 640) C dL_law_640 4 rfl ?_
  refine r_iconst (pc := 642) C dL_law_642 ki4 ?_
  refine r_iadd (pc := 643) C dL_law_643 ?_
  refine l_sld (pc := 644) Z hb dL_law_644 (j := n + 4) (lxi hn hL (j := 4) (by decide)) ?_
  refine c_X10_depth (pc := 645) C dL_law_645 q897 ⟨Nat.le_of_ble_eq_true rfl, Nat.le_of_ble_eq_true rfl⟩ h1 (Nat.le_of_ble_eq_true rfl) ?_
  refine r_aload_n (pc := 648) C dL_law_648 rfl 2 rfl ?_
  refine r_aload_n (pc := 649) C dL_law_649 rfl 0 rfl ?_
  refine r_iload (pc := 650) C dL_law_650 4 rfl ?_
  refine r_iconst (pc := 652) C dL_law_652 ki1 ?_
  refine r_iadd (pc := 653) C dL_law_653 ?_
  refine l_sld (pc := 654) Z hb dL_law_654 (j := n + 1) (lxi hn hL (j := 1) (by decide)) ?_
  refine r_aload_n (pc := 655) C dL_law_655 rfl 0 rfl ?_
  refine r_iload (pc := 656) C dL_law_656 4 rfl ?_
  refine r_iconst (pc := 658) C dL_law_658 ki2 ?_
  refine r_iadd (pc := 659) C dL_law_659 ?_
  refine l_sld (pc := 660) Z hb dL_law_660 (j := n + 2) (lxi hn hL (j := 2) (by decide)) ?_
  refine r_aload_n (pc := 661) C dL_law_661 rfl 0 rfl ?_
  refine r_iload (pc := 662) C dL_law_662 4 rfl ?_
  refine r_iconst (pc := 664) C dL_law_664 ki3 ?_
  refine r_iadd (pc := 665) C dL_law_665 ?_
  refine l_sld (pc := 666) Z hb dL_law_666 (j := n + 3) (lxi hn hL (j := 3) (by decide)) ?_
  refine r_aload_n (pc := 667) C dL_law_667 rfl 0 rfl ?_
  refine r_iload (pc := 668) C dL_law_668 4 rfl ?_
  refine r_iconst (pc := 670) C dL_law_670 ki4 ?_
  refine r_iadd (pc := 671) C dL_law_671 ?_
  refine l_sld (pc := 672) Z hb dL_law_672 (j := n + 4) (lxi hn hL (j := 4) (by decide)) ?_
  refine c_X11_depth (pc := 673) C dL_law_673 q1931 ⟨Nat.le_of_ble_eq_true rfl, Nat.le_of_ble_eq_true rfl⟩ h2 (Nat.le_of_ble_eq_true rfl) ?_
  refine r_icmp_eq (pc := 676) (tgt := 1765) C dL_law_676 rfl (fun _ => ?_) (fun c => absurd rfl c)
  exact l_widen Z (by omega) (by omega) k
theorem lc_10 {r : Int32} {M2 : gM} (Z : gLD Φ l D base ad0 b L xs) (hst : l.stackTraces = false) (hb : ad (gad 60 1) = b) (had : ∀ k, k < 2 → ad (gad 62 k) = ad0 (gad 62 k)) (hn : n + 6 ≤ L) (hL : L ≤ 3072) (h1 : X10_shade (xs (n + 1)) (xs (n + 2)) (xs (n + 3)) M = some r) (h2 : X11_shade (xs (n + 1)) (xs (n + 2)) (xs (n + 3)) M = some (r, M2)) (hroom : cells + 1 ≤ 601024 ∧ slots + 6 ≤ 7293033) (k : Φ (cells + 1) (slots + 6) ad cA (gXn nf) M2 1765 [(0, .ref (gad 60 1)), (1, .ref (gad 0 0)), (2, .ref (gad 50 0)), (3, .ref (gad 53 0)), (4, .int (Int32.ofNat n))] []) : Φ cells slots ad cA (gXn nf) M 681 [(0, .ref (gad 60 1)), (1, .ref (gad 0 0)), (2, .ref (gad 50 0)), (3, .ref (gad 53 0)), (4, .int (Int32.ofNat n))] [] := by
  have C := Z.D.elim fun _ Z => Z.C (cells := cells) (slots := slots) (by omega) (by omega) cA (gXn nf) had none none M
  refine r_aload_n (pc := 681) C dL_law_681 rfl 1 rfl ?_
  refine r_aload_n (pc := 682) C dL_law_682 rfl 0 rfl ?_
  refine r_iload (pc := 683) C dL_law_683 4 rfl ?_
  refine r_iconst (pc := 685) C dL_law_685 ki1 ?_
  refine r_iadd (pc := 686) C dL_law_686 ?_
  refine l_sld (pc := 687) Z hb dL_law_687 (j := n + 1) (lxi hn hL (j := 1) (by decide)) ?_
  refine r_aload_n (pc := 688) C dL_law_688 rfl 0 rfl ?_
  refine r_iload (pc := 689) C dL_law_689 4 rfl ?_
  refine r_iconst (pc := 691) C dL_law_691 ki2 ?_
  refine r_iadd (pc := 692) C dL_law_692 ?_
  refine l_sld (pc := 693) Z hb dL_law_693 (j := n + 2) (lxi hn hL (j := 2) (by decide)) ?_
  refine r_aload_n (pc := 694) C dL_law_694 rfl 0 rfl ?_
  refine r_iload (pc := 695) C dL_law_695 4 rfl ?_
  refine r_iconst (pc := 697) C dL_law_697 ki3 ?_
  refine r_iadd (pc := 698) C dL_law_698 ?_
  refine l_sld (pc := 699) Z hb dL_law_699 (j := n + 3) (lxi hn hL (j := 3) (by decide)) ?_
  refine c_X10_shade (pc := 700) C dL_law_700 q906 ⟨Nat.le_of_ble_eq_true rfl, Nat.le_of_ble_eq_true rfl⟩ h1 (Nat.le_of_ble_eq_true rfl) ?_
  refine r_aload_n (pc := 703) C dL_law_703 rfl 2 rfl ?_
  refine r_aload_n (pc := 704) C dL_law_704 rfl 0 rfl ?_
  refine r_iload (pc := 705) C dL_law_705 4 rfl ?_
  refine r_iconst (pc := 707) C dL_law_707 ki1 ?_
  refine r_iadd (pc := 708) C dL_law_708 ?_
  refine l_sld (pc := 709) Z hb dL_law_709 (j := n + 1) (lxi hn hL (j := 1) (by decide)) ?_
  refine r_aload_n (pc := 710) C dL_law_710 rfl 0 rfl ?_
  refine r_iload (pc := 711) C dL_law_711 4 rfl ?_
  refine r_iconst (pc := 713) C dL_law_713 ki2 ?_
  refine r_iadd (pc := 714) C dL_law_714 ?_
  refine l_sld (pc := 715) Z hb dL_law_715 (j := n + 2) (lxi hn hL (j := 2) (by decide)) ?_
  refine r_aload_n (pc := 716) C dL_law_716 rfl 0 rfl ?_
  refine r_iload (pc := 717) C dL_law_717 4 rfl ?_
  refine r_iconst (pc := 719) C dL_law_719 ki3 ?_
  refine r_iadd (pc := 720) C dL_law_720 ?_
  refine l_sld (pc := 721) Z hb dL_law_721 (j := n + 3) (lxi hn hL (j := 3) (by decide)) ?_
  refine c_X11_shade (pc := 722) C dL_law_722 q1939 ⟨Nat.le_of_ble_eq_true rfl, Nat.le_of_ble_eq_true rfl⟩ h2 (Nat.le_of_ble_eq_true rfl) ?_
  refine r_icmp_eq (pc := 725) (tgt := 1765) C dL_law_725 rfl (fun _ => ?_) (fun c => absurd rfl c)
  exact l_widen Z (by omega) (by omega) k
theorem lc_11 {r : Int32} {M2 : gM} (Z : gLD Φ l D base ad0 b L xs) (hst : l.stackTraces = false) (hb : ad (gad 60 1) = b) (had : ∀ k, k < 2 → ad (gad 62 k) = ad0 (gad 62 k)) (hn : n + 6 ≤ L) (hL : L ≤ 3072) (h1 : X10_sample (xs (n + 1)) (xs (n + 2)) (xs (n + 3)) (xs (n + 4)) M = some r) (h2 : X11_sample (xs (n + 1)) (xs (n + 2)) (xs (n + 3)) (xs (n + 4)) M = some (r, M2)) (hroom : cells + 1 ≤ 601024 ∧ slots + 6 ≤ 7293033) (k : Φ (cells + 1) (slots + 6) ad cA (gXn nf) M2 1765 [(0, .ref (gad 60 1)), (1, .ref (gad 0 0)), (2, .ref (gad 50 0)), (3, .ref (gad 53 0)), (4, .int (Int32.ofNat n))] []) : Φ cells slots ad cA (gXn nf) M 730 [(0, .ref (gad 60 1)), (1, .ref (gad 0 0)), (2, .ref (gad 50 0)), (3, .ref (gad 53 0)), (4, .int (Int32.ofNat n))] [] := by
  have C := Z.D.elim fun _ Z => Z.C (cells := cells) (slots := slots) (by omega) (by omega) cA (gXn nf) had none none M
  refine r_aload_n (pc := 730) C dL_law_730 rfl 1 rfl ?_
  refine r_aload_n (pc := 731) C dL_law_731 rfl 0 rfl ?_
  refine r_iload (pc := 732) C dL_law_732 4 rfl ?_
  refine r_iconst (pc := 734) C dL_law_734 ki1 ?_
  refine r_iadd (pc := 735) C dL_law_735 ?_
  refine l_sld (pc := 736) Z hb dL_law_736 (j := n + 1) (lxi hn hL (j := 1) (by decide)) ?_
  refine r_aload_n (pc := 737) C dL_law_737 rfl 0 rfl ?_
  refine r_iload (pc := 738) C dL_law_738 4 rfl ?_
  refine r_iconst (pc := 740) C dL_law_740 ki2 ?_
  refine r_iadd (pc := 741) C dL_law_741 ?_
  refine l_sld (pc := 742) Z hb dL_law_742 (j := n + 2) (lxi hn hL (j := 2) (by decide)) ?_
  refine r_aload_n (pc := 743) C dL_law_743 rfl 0 rfl ?_
  refine r_iload (pc := 744) C dL_law_744 4 rfl ?_
  refine r_iconst (pc := 746) C dL_law_746 ki3 ?_
  refine r_iadd (pc := 747) C dL_law_747 ?_
  refine l_sld (pc := 748) Z hb dL_law_748 (j := n + 3) (lxi hn hL (j := 3) (by decide)) ?_
  refine r_aload_n (pc := 749) C dL_law_749 rfl 0 rfl ?_
  refine r_iload (pc := 750) C dL_law_750 4 rfl ?_
  refine r_iconst (pc := 752) C dL_law_752 ki4 ?_
  refine r_iadd (pc := 753) C dL_law_753 ?_
  refine l_sld (pc := 754) Z hb dL_law_754 (j := n + 4) (lxi hn hL (j := 4) (by decide)) ?_
  refine c_X10_sample (pc := 755) C dL_law_755 q910 ⟨Nat.le_of_ble_eq_true rfl, Nat.le_of_ble_eq_true rfl⟩ h1 (Nat.le_of_ble_eq_true rfl) ?_
  refine r_aload_n (pc := 758) C dL_law_758 rfl 2 rfl ?_
  refine r_aload_n (pc := 759) C dL_law_759 rfl 0 rfl ?_
  refine r_iload (pc := 760) C dL_law_760 4 rfl ?_
  refine r_iconst (pc := 762) C dL_law_762 ki1 ?_
  refine r_iadd (pc := 763) C dL_law_763 ?_
  refine l_sld (pc := 764) Z hb dL_law_764 (j := n + 1) (lxi hn hL (j := 1) (by decide)) ?_
  refine r_aload_n (pc := 765) C dL_law_765 rfl 0 rfl ?_
  refine r_iload (pc := 766) C dL_law_766 4 rfl ?_
  refine r_iconst (pc := 768) C dL_law_768 ki2 ?_
  refine r_iadd (pc := 769) C dL_law_769 ?_
  refine l_sld (pc := 770) Z hb dL_law_770 (j := n + 2) (lxi hn hL (j := 2) (by decide)) ?_
  refine r_aload_n (pc := 771) C dL_law_771 rfl 0 rfl ?_
  refine r_iload (pc := 772) C dL_law_772 4 rfl ?_
  refine r_iconst (pc := 774) C dL_law_774 ki3 ?_
  refine r_iadd (pc := 775) C dL_law_775 ?_
  refine l_sld (pc := 776) Z hb dL_law_776 (j := n + 3) (lxi hn hL (j := 3) (by decide)) ?_
  refine r_aload_n (pc := 777) C dL_law_777 rfl 0 rfl ?_
  refine r_iload (pc := 778) C dL_law_778 4 rfl ?_
  refine r_iconst (pc := 780) C dL_law_780 ki4 ?_
  refine r_iadd (pc := 781) C dL_law_781 ?_
  refine l_sld (pc := 782) Z hb dL_law_782 (j := n + 4) (lxi hn hL (j := 4) (by decide)) ?_
  refine c_X11_sample (pc := 783) C dL_law_783 q1943 ⟨Nat.le_of_ble_eq_true rfl, Nat.le_of_ble_eq_true rfl⟩ h2 (Nat.le_of_ble_eq_true rfl) ?_
  refine r_icmp_eq (pc := 786) (tgt := 1765) C dL_law_786 rfl (fun _ => ?_) (fun c => absurd rfl c)
  exact l_widen Z (by omega) (by omega) k
theorem lc_12 {r : Int32} {M2 : gM} (Z : gLD Φ l D base ad0 b L xs) (hst : l.stackTraces = false) (hb : ad (gad 60 1) = b) (had : ∀ k, k < 2 → ad (gad 62 k) = ad0 (gad 62 k)) (hn : n + 6 ≤ L) (hL : L ≤ 3072) (h1 : X10_pixel (xs (n + 1)) (xs (n + 2)) M = some r) (h2 : X11_pixel (xs (n + 1)) (xs (n + 2)) M = some (r, M2)) (hroom : cells + 1 ≤ 601024 ∧ slots + 6 ≤ 7293033) (k : Φ (cells + 1) (slots + 6) ad cA (gXn nf) M2 1765 [(0, .ref (gad 60 1)), (1, .ref (gad 0 0)), (2, .ref (gad 50 0)), (3, .ref (gad 53 0)), (4, .int (Int32.ofNat n))] []) : Φ cells slots ad cA (gXn nf) M 791 [(0, .ref (gad 60 1)), (1, .ref (gad 0 0)), (2, .ref (gad 50 0)), (3, .ref (gad 53 0)), (4, .int (Int32.ofNat n))] [] := by
  have C := Z.D.elim fun _ Z => Z.C (cells := cells) (slots := slots) (by omega) (by omega) cA (gXn nf) had none none M
  refine r_aload_n (pc := 791) C dL_law_791 rfl 1 rfl ?_
  refine r_aload_n (pc := 792) C dL_law_792 rfl 0 rfl ?_
  refine r_iload (pc := 793) C dL_law_793 4 rfl ?_
  refine r_iconst (pc := 795) C dL_law_795 ki1 ?_
  refine r_iadd (pc := 796) C dL_law_796 ?_
  refine l_sld (pc := 797) Z hb dL_law_797 (j := n + 1) (lxi hn hL (j := 1) (by decide)) ?_
  refine r_aload_n (pc := 798) C dL_law_798 rfl 0 rfl ?_
  refine r_iload (pc := 799) C dL_law_799 4 rfl ?_
  refine r_iconst (pc := 801) C dL_law_801 ki2 ?_
  refine r_iadd (pc := 802) C dL_law_802 ?_
  refine l_sld (pc := 803) Z hb dL_law_803 (j := n + 2) (lxi hn hL (j := 2) (by decide)) ?_
  refine c_X10_pixel (pc := 804) C dL_law_804 q914 ⟨Nat.le_of_ble_eq_true rfl, Nat.le_of_ble_eq_true rfl⟩ h1 (Nat.le_of_ble_eq_true rfl) ?_
  refine r_aload_n (pc := 807) C dL_law_807 rfl 2 rfl ?_
  refine r_aload_n (pc := 808) C dL_law_808 rfl 0 rfl ?_
  refine r_iload (pc := 809) C dL_law_809 4 rfl ?_
  refine r_iconst (pc := 811) C dL_law_811 ki1 ?_
  refine r_iadd (pc := 812) C dL_law_812 ?_
  refine l_sld (pc := 813) Z hb dL_law_813 (j := n + 1) (lxi hn hL (j := 1) (by decide)) ?_
  refine r_aload_n (pc := 814) C dL_law_814 rfl 0 rfl ?_
  refine r_iload (pc := 815) C dL_law_815 4 rfl ?_
  refine r_iconst (pc := 817) C dL_law_817 ki2 ?_
  refine r_iadd (pc := 818) C dL_law_818 ?_
  refine l_sld (pc := 819) Z hb dL_law_819 (j := n + 2) (lxi hn hL (j := 2) (by decide)) ?_
  refine c_X11_pixel (pc := 820) C dL_law_820 q1947 ⟨Nat.le_of_ble_eq_true rfl, Nat.le_of_ble_eq_true rfl⟩ h2 (Nat.le_of_ble_eq_true rfl) ?_
  refine r_icmp_eq (pc := 823) (tgt := 1765) C dL_law_823 rfl (fun _ => ?_) (fun c => absurd rfl c)
  exact l_widen Z (by omega) (by omega) k
theorem lc_13 {r : Int32} {M2 : gM} (Z : gLD Φ l D base ad0 b L xs) (hst : l.stackTraces = false) (hb : ad (gad 60 1) = b) (had : ∀ k, k < 2 → ad (gad 62 k) = ad0 (gad 62 k)) (hn : n + 6 ≤ L) (hL : L ≤ 3072) (h1 : X10_tile (xs (n + 1)) (xs (n + 2)) M = some r) (h2 : X11_tile (xs (n + 1)) (xs (n + 2)) M = some (r, M2)) (hroom : cells + 1 ≤ 601024 ∧ slots + 6 ≤ 7293033) (k : Φ (cells + 1) (slots + 6) ad cA (gXn nf) M2 1765 [(0, .ref (gad 60 1)), (1, .ref (gad 0 0)), (2, .ref (gad 50 0)), (3, .ref (gad 53 0)), (4, .int (Int32.ofNat n))] []) : Φ cells slots ad cA (gXn nf) M 828 [(0, .ref (gad 60 1)), (1, .ref (gad 0 0)), (2, .ref (gad 50 0)), (3, .ref (gad 53 0)), (4, .int (Int32.ofNat n))] [] := by
  have C := Z.D.elim fun _ Z => Z.C (cells := cells) (slots := slots) (by omega) (by omega) cA (gXn nf) had none none M
  refine r_aload_n (pc := 828) C dL_law_828 rfl 1 rfl ?_
  refine r_aload_n (pc := 829) C dL_law_829 rfl 0 rfl ?_
  refine r_iload (pc := 830) C dL_law_830 4 rfl ?_
  refine r_iconst (pc := 832) C dL_law_832 ki1 ?_
  refine r_iadd (pc := 833) C dL_law_833 ?_
  refine l_sld (pc := 834) Z hb dL_law_834 (j := n + 1) (lxi hn hL (j := 1) (by decide)) ?_
  refine r_aload_n (pc := 835) C dL_law_835 rfl 0 rfl ?_
  refine r_iload (pc := 836) C dL_law_836 4 rfl ?_
  refine r_iconst (pc := 838) C dL_law_838 ki2 ?_
  refine r_iadd (pc := 839) C dL_law_839 ?_
  refine l_sld (pc := 840) Z hb dL_law_840 (j := n + 2) (lxi hn hL (j := 2) (by decide)) ?_
  refine c_X10_tile (pc := 841) C dL_law_841 q922 ⟨Nat.le_of_ble_eq_true rfl, Nat.le_of_ble_eq_true rfl⟩ h1 (Nat.le_of_ble_eq_true rfl) ?_
  refine r_aload_n (pc := 844) C dL_law_844 rfl 2 rfl ?_
  refine r_aload_n (pc := 845) C dL_law_845 rfl 0 rfl ?_
  refine r_iload (pc := 846) C dL_law_846 4 rfl ?_
  refine r_iconst (pc := 848) C dL_law_848 ki1 ?_
  refine r_iadd (pc := 849) C dL_law_849 ?_
  refine l_sld (pc := 850) Z hb dL_law_850 (j := n + 1) (lxi hn hL (j := 1) (by decide)) ?_
  refine r_aload_n (pc := 851) C dL_law_851 rfl 0 rfl ?_
  refine r_iload (pc := 852) C dL_law_852 4 rfl ?_
  refine r_iconst (pc := 854) C dL_law_854 ki2 ?_
  refine r_iadd (pc := 855) C dL_law_855 ?_
  refine l_sld (pc := 856) Z hb dL_law_856 (j := n + 2) (lxi hn hL (j := 2) (by decide)) ?_
  refine c_X11_tile (pc := 857) C dL_law_857 q1955 ⟨Nat.le_of_ble_eq_true rfl, Nat.le_of_ble_eq_true rfl⟩ h2 (Nat.le_of_ble_eq_true rfl) ?_
  refine r_icmp_eq (pc := 860) (tgt := 1765) C dL_law_860 rfl (fun _ => ?_) (fun c => absurd rfl c)
  exact l_widen Z (by omega) (by omega) k
theorem lc_14 {r : Int32} {M2 : gM} (Z : gLD Φ l D base ad0 b L xs) (hst : l.stackTraces = false) (hb : ad (gad 60 1) = b) (had : ∀ k, k < 2 → ad (gad 62 k) = ad0 (gad 62 k)) (hn : n + 6 ≤ L) (hL : L ≤ 3072) (h1 : X10_bin (xs (n + 1)) (xs (n + 2)) M = some r) (h2 : X11_bin (xs (n + 1)) (xs (n + 2)) M = some (r, M2)) (hroom : cells + 1 ≤ 601024 ∧ slots + 6 ≤ 7293033) (k : Φ (cells + 1) (slots + 6) ad cA (gXn nf) M2 1765 [(0, .ref (gad 60 1)), (1, .ref (gad 0 0)), (2, .ref (gad 50 0)), (3, .ref (gad 53 0)), (4, .int (Int32.ofNat n))] []) : Φ cells slots ad cA (gXn nf) M 865 [(0, .ref (gad 60 1)), (1, .ref (gad 0 0)), (2, .ref (gad 50 0)), (3, .ref (gad 53 0)), (4, .int (Int32.ofNat n))] [] := by
  have C := Z.D.elim fun _ Z => Z.C (cells := cells) (slots := slots) (by omega) (by omega) cA (gXn nf) had none none M
  refine r_aload_n (pc := 865) C dL_law_865 rfl 1 rfl ?_
  refine r_aload_n (pc := 866) C dL_law_866 rfl 0 rfl ?_
  refine r_iload (pc := 867) C dL_law_867 4 rfl ?_
  refine r_iconst (pc := 869) C dL_law_869 ki1 ?_
  refine r_iadd (pc := 870) C dL_law_870 ?_
  refine l_sld (pc := 871) Z hb dL_law_871 (j := n + 1) (lxi hn hL (j := 1) (by decide)) ?_
  refine r_aload_n (pc := 872) C dL_law_872 rfl 0 rfl ?_
  refine r_iload (pc := 873) C dL_law_873 4 rfl ?_
  refine r_iconst (pc := 875) C dL_law_875 ki2 ?_
  refine r_iadd (pc := 876) C dL_law_876 ?_
  refine l_sld (pc := 877) Z hb dL_law_877 (j := n + 2) (lxi hn hL (j := 2) (by decide)) ?_
  refine c_X10_bin (pc := 878) C dL_law_878 q946 ⟨Nat.le_of_ble_eq_true rfl, Nat.le_of_ble_eq_true rfl⟩ h1 (Nat.le_of_ble_eq_true rfl) ?_
  refine r_aload_n (pc := 881) C dL_law_881 rfl 2 rfl ?_
  refine r_aload_n (pc := 882) C dL_law_882 rfl 0 rfl ?_
  refine r_iload (pc := 883) C dL_law_883 4 rfl ?_
  refine r_iconst (pc := 885) C dL_law_885 ki1 ?_
  refine r_iadd (pc := 886) C dL_law_886 ?_
  refine l_sld (pc := 887) Z hb dL_law_887 (j := n + 1) (lxi hn hL (j := 1) (by decide)) ?_
  refine r_aload_n (pc := 888) C dL_law_888 rfl 0 rfl ?_
  refine r_iload (pc := 889) C dL_law_889 4 rfl ?_
  refine r_iconst (pc := 891) C dL_law_891 ki2 ?_
  refine r_iadd (pc := 892) C dL_law_892 ?_
  refine l_sld (pc := 893) Z hb dL_law_893 (j := n + 2) (lxi hn hL (j := 2) (by decide)) ?_
  refine c_X11_bin (pc := 894) C dL_law_894 q1959 ⟨Nat.le_of_ble_eq_true rfl, Nat.le_of_ble_eq_true rfl⟩ h2 (Nat.le_of_ble_eq_true rfl) ?_
  refine r_icmp_eq (pc := 897) (tgt := 1765) C dL_law_897 rfl (fun _ => ?_) (fun c => absurd rfl c)
  exact l_widen Z (by omega) (by omega) k
theorem lc_15 {r : Int64} {M2 : gM} (Z : gLD Φ l D base ad0 b L xs) (hst : l.stackTraces = false) (hb : ad (gad 60 1) = b) (had : ∀ k, k < 2 → ad (gad 62 k) = ad0 (gad 62 k)) (hn : n + 6 ≤ L) (hL : L ≤ 3072) (h1 : X10_shaded (xs (n + 1)) M = some r) (h2 : X11_shaded (xs (n + 1)) M = some (r, M2)) (hroom : cells + 1 ≤ 601024 ∧ slots + 6 ≤ 7293033) (k : Φ (cells + 1) (slots + 6) ad cA (gXn nf) M2 1765 [(0, .ref (gad 60 1)), (1, .ref (gad 0 0)), (2, .ref (gad 50 0)), (3, .ref (gad 53 0)), (4, .int (Int32.ofNat n))] []) : Φ cells slots ad cA (gXn nf) M 902 [(0, .ref (gad 60 1)), (1, .ref (gad 0 0)), (2, .ref (gad 50 0)), (3, .ref (gad 53 0)), (4, .int (Int32.ofNat n))] [] := by
  have C := Z.D.elim fun _ Z => Z.C (cells := cells) (slots := slots) (by omega) (by omega) cA (gXn nf) had none none M
  refine r_aload_n (pc := 902) C dL_law_902 rfl 1 rfl ?_
  refine r_aload_n (pc := 903) C dL_law_903 rfl 0 rfl ?_
  refine r_iload (pc := 904) C dL_law_904 4 rfl ?_
  refine r_iconst (pc := 906) C dL_law_906 ki1 ?_
  refine r_iadd (pc := 907) C dL_law_907 ?_
  refine l_sld (pc := 908) Z hb dL_law_908 (j := n + 1) (lxi hn hL (j := 1) (by decide)) ?_
  refine c_X10_shaded (pc := 909) C dL_law_909 q950 ⟨Nat.le_of_ble_eq_true rfl, Nat.le_of_ble_eq_true rfl⟩ h1 (Nat.le_of_ble_eq_true rfl) ?_
  refine r_aload_n (pc := 912) C dL_law_912 rfl 2 rfl ?_
  refine r_aload_n (pc := 913) C dL_law_913 rfl 0 rfl ?_
  refine r_iload (pc := 914) C dL_law_914 4 rfl ?_
  refine r_iconst (pc := 916) C dL_law_916 ki1 ?_
  refine r_iadd (pc := 917) C dL_law_917 ?_
  refine l_sld (pc := 918) Z hb dL_law_918 (j := n + 1) (lxi hn hL (j := 1) (by decide)) ?_
  refine c_X11_shaded (pc := 919) C dL_law_919 q1963 ⟨Nat.le_of_ble_eq_true rfl, Nat.le_of_ble_eq_true rfl⟩ h2 (Nat.le_of_ble_eq_true rfl) ?_
  refine r_lcmp (pc := 922) C dL_law_922 ?_
  refine r_if_eq (pc := 923) (tgt := 1765) C dL_law_923 rfl (fun _ => ?_) (fun c => absurd (lcmp_self _) c)
  exact l_widen Z (by omega) (by omega) k
theorem lc_16 {r : Int32} {nf1 : Nat} {M1 : gM} {M2 : gM} (Z : gLD Φ l D base ad0 b L xs) (hst : l.stackTraces = false) (hb : ad (gad 60 1) = b) (had : ∀ k, k < 2 → ad (gad 62 k) = ad0 (gad 62 k)) (hn : n + 6 ≤ L) (hL : L ≤ 3072) (h1 : X10_draw nf (xs (n + 1)) M = some (r, nf1, M1)) (h2 : X11_draw (xs (n + 1)) M1 = some (r, M2)) (hroom : cells + 10 * (nf1 - nf) + 1 ≤ 601024 ∧ slots + 1211 * (nf1 - nf) + 6 ≤ 7293033) (k : ∀ ad1 cA1, gAgr (gXn nf) ad ad1 → Φ (cells + 10 * (nf1 - nf) + 1) (slots + 1211 * (nf1 - nf) + 6) ad1 cA1 (gXn nf1) M2 1765 [(0, .ref (gad 60 1)), (1, .ref (gad 0 0)), (2, .ref (gad 50 0)), (3, .ref (gad 53 0)), (4, .int (Int32.ofNat n))] []) : Φ cells slots ad cA (gXn nf) M 928 [(0, .ref (gad 60 1)), (1, .ref (gad 0 0)), (2, .ref (gad 50 0)), (3, .ref (gad 53 0)), (4, .int (Int32.ofNat n))] [] := by
  have C := Z.D.elim fun _ Z => Z.C (cells := cells) (slots := slots) (by omega) (by omega) cA (gXn nf) had none none M
  refine r_aload_n (pc := 928) C dL_law_928 rfl 1 rfl ?_
  refine r_aload_n (pc := 929) C dL_law_929 rfl 0 rfl ?_
  refine r_iload (pc := 930) C dL_law_930 4 rfl ?_
  refine r_iconst (pc := 932) C dL_law_932 ki1 ?_
  refine r_iadd (pc := 933) C dL_law_933 ?_
  refine l_sld (pc := 934) Z hb dL_law_934 (j := n + 1) (lxi hn hL (j := 1) (by decide)) ?_
  obtain ⟨mn, Z1⟩ := Z.D
  refine d_callV (pc := 935) Z1 [.int (xs (n + 1))] [] dL_law_935 (n_X10_draw h1) had (fun w h => ⟨_, (Option.some.inj h).symm⟩) q954 q955 q956 q116 q957 hd_X10_draw ⟨Nat.le_of_ble_eq_true rfl, Nat.le_of_ble_eq_true rfl⟩ ⟨by omega, by omega⟩ rfl (by decide) (e0 nf) rfl (Nat.le_of_ble_eq_true rfl) (List.forall_mem_cons.mpr ⟨gEv_s, (List.forall_mem_cons.mpr ⟨gEv_r (e0 nf), (List.forall_mem_cons.mpr ⟨gEv_r (e50 nf), (List.forall_mem_cons.mpr ⟨gEv_r (e53 nf), (List.forall_mem_cons.mpr ⟨gEv_i _ _, (fun _ z => nomatch z)⟩)⟩)⟩)⟩)⟩) (fun _ z => nomatch z) (fun ad1 cA1 g1 => ?_)
  have had1 : ∀ k, k < 2 → ad1 (gad 62 k) = ad0 (gad 62 k) := fun k hk => (g1.str k hk).trans (had k hk)
  have hb1 : ad1 (gad 60 1) = b := (g1.2 60 1 (by decide) (by decide)).trans hb
  have C := Z1.C (cells := cells + 10 * (nf1 - nf)) (slots := slots + 1211 * (nf1 - nf)) (by omega) (by omega) cA1 (gXn nf1) had1 none none M
  refine r_aload_n (pc := 938) C dL_law_938 rfl 2 rfl ?_
  refine r_aload_n (pc := 939) C dL_law_939 rfl 0 rfl ?_
  refine r_iload (pc := 940) C dL_law_940 4 rfl ?_
  refine r_iconst (pc := 942) C dL_law_942 ki1 ?_
  refine r_iadd (pc := 943) C dL_law_943 ?_
  refine l_sld (pc := 944) Z hb1 dL_law_944 (j := n + 1) (lxi hn hL (j := 1) (by decide)) ?_
  refine c_X11_draw (pc := 945) C dL_law_945 q1636 ⟨Nat.le_of_ble_eq_true rfl, Nat.le_of_ble_eq_true rfl⟩ h2 (Nat.le_of_ble_eq_true rfl) ?_
  refine r_icmp_eq (pc := 948) (tgt := 1765) C dL_law_948 rfl (fun _ => ?_) (fun c => absurd rfl c)
  exact l_widen Z (by omega) (by omega) (k ad1 cA1 g1)
theorem lc_17 {r : Int32} {nf1 : Nat} {M1 : gM} {M2 : gM} (Z : gLD Φ l D base ad0 b L xs) (hst : l.stackTraces = false) (hb : ad (gad 60 1) = b) (had : ∀ k, k < 2 → ad (gad 62 k) = ad0 (gad 62 k)) (hn : n + 6 ≤ L) (hL : L ≤ 3072) (h1 : X10_flush nf (xs (n + 1)) M = some (r, nf1, M1)) (h2 : X11_flush (xs (n + 1)) M1 = some (r, M2)) (hroom : cells + 10 * (nf1 - nf) + 1 ≤ 601024 ∧ slots + 1211 * (nf1 - nf) + 6 ≤ 7293033) (k : ∀ ad1 cA1, gAgr (gXn nf) ad ad1 → Φ (cells + 10 * (nf1 - nf) + 1) (slots + 1211 * (nf1 - nf) + 6) ad1 cA1 (gXn nf1) M2 1765 [(0, .ref (gad 60 1)), (1, .ref (gad 0 0)), (2, .ref (gad 50 0)), (3, .ref (gad 53 0)), (4, .int (Int32.ofNat n))] []) : Φ cells slots ad cA (gXn nf) M 953 [(0, .ref (gad 60 1)), (1, .ref (gad 0 0)), (2, .ref (gad 50 0)), (3, .ref (gad 53 0)), (4, .int (Int32.ofNat n))] [] := by
  have C := Z.D.elim fun _ Z => Z.C (cells := cells) (slots := slots) (by omega) (by omega) cA (gXn nf) had none none M
  refine r_aload_n (pc := 953) C dL_law_953 rfl 1 rfl ?_
  refine r_aload_n (pc := 954) C dL_law_954 rfl 0 rfl ?_
  refine r_iload (pc := 955) C dL_law_955 4 rfl ?_
  refine r_iconst (pc := 957) C dL_law_957 ki1 ?_
  refine r_iadd (pc := 958) C dL_law_958 ?_
  refine l_sld (pc := 959) Z hb dL_law_959 (j := n + 1) (lxi hn hL (j := 1) (by decide)) ?_
  obtain ⟨mn, Z1⟩ := Z.D
  refine d_callV (pc := 960) Z1 [.int (xs (n + 1))] [] dL_law_960 (n_X10_flush h1) had (fun w h => ⟨_, (Option.some.inj h).symm⟩) q1074 q1075 q1076 q116 q1077 hd_X10_flush ⟨Nat.le_of_ble_eq_true rfl, Nat.le_of_ble_eq_true rfl⟩ ⟨by omega, by omega⟩ rfl (by decide) (e0 nf) rfl (Nat.le_of_ble_eq_true rfl) (List.forall_mem_cons.mpr ⟨gEv_s, (List.forall_mem_cons.mpr ⟨gEv_r (e0 nf), (List.forall_mem_cons.mpr ⟨gEv_r (e50 nf), (List.forall_mem_cons.mpr ⟨gEv_r (e53 nf), (List.forall_mem_cons.mpr ⟨gEv_i _ _, (fun _ z => nomatch z)⟩)⟩)⟩)⟩)⟩) (fun _ z => nomatch z) (fun ad1 cA1 g1 => ?_)
  have had1 : ∀ k, k < 2 → ad1 (gad 62 k) = ad0 (gad 62 k) := fun k hk => (g1.str k hk).trans (had k hk)
  have hb1 : ad1 (gad 60 1) = b := (g1.2 60 1 (by decide) (by decide)).trans hb
  have C := Z1.C (cells := cells + 10 * (nf1 - nf)) (slots := slots + 1211 * (nf1 - nf)) (by omega) (by omega) cA1 (gXn nf1) had1 none none M
  refine r_aload_n (pc := 963) C dL_law_963 rfl 2 rfl ?_
  refine r_aload_n (pc := 964) C dL_law_964 rfl 0 rfl ?_
  refine r_iload (pc := 965) C dL_law_965 4 rfl ?_
  refine r_iconst (pc := 967) C dL_law_967 ki1 ?_
  refine r_iadd (pc := 968) C dL_law_968 ?_
  refine l_sld (pc := 969) Z hb1 dL_law_969 (j := n + 1) (lxi hn hL (j := 1) (by decide)) ?_
  refine c_X11_flush (pc := 970) C dL_law_970 q1783 ⟨Nat.le_of_ble_eq_true rfl, Nat.le_of_ble_eq_true rfl⟩ h2 (Nat.le_of_ble_eq_true rfl) ?_
  refine r_icmp_eq (pc := 973) (tgt := 1765) C dL_law_973 rfl (fun _ => ?_) (fun c => absurd rfl c)
  exact l_widen Z (by omega) (by omega) (k ad1 cA1 g1)
theorem lc_18 {r : Int32} {nf1 : Nat} {M1 : gM} {M2 : gM} (Z : gLD Φ l D base ad0 b L xs) (hst : l.stackTraces = false) (hb : ad (gad 60 1) = b) (had : ∀ k, k < 2 → ad (gad 62 k) = ad0 (gad 62 k)) (hn : n + 6 ≤ L) (hL : L ≤ 3072) (h1 : X10_all nf M = some (r, nf1, M1)) (h2 : X11_all M1 = some (r, M2)) (hroom : cells + 10 * (nf1 - nf) + 1 ≤ 601024 ∧ slots + 1211 * (nf1 - nf) + 6 ≤ 7293033) (k : ∀ ad1 cA1, gAgr (gXn nf) ad ad1 → Φ (cells + 10 * (nf1 - nf) + 1) (slots + 1211 * (nf1 - nf) + 6) ad1 cA1 (gXn nf1) M2 1765 [(0, .ref (gad 60 1)), (1, .ref (gad 0 0)), (2, .ref (gad 50 0)), (3, .ref (gad 53 0)), (4, .int (Int32.ofNat n))] []) : Φ cells slots ad cA (gXn nf) M 978 [(0, .ref (gad 60 1)), (1, .ref (gad 0 0)), (2, .ref (gad 50 0)), (3, .ref (gad 53 0)), (4, .int (Int32.ofNat n))] [] := by
  have C := Z.D.elim fun _ Z => Z.C (cells := cells) (slots := slots) (by omega) (by omega) cA (gXn nf) had none none M
  refine r_aload_n (pc := 978) C dL_law_978 rfl 1 rfl ?_
  obtain ⟨mn, Z1⟩ := Z.D
  refine d_callV (pc := 979) Z1 [] [] dL_law_979 (n_X10_all h1) had (fun w h => ⟨_, (Option.some.inj h).symm⟩) q1078 q1079 q1080 q116 q1081 hd_X10_all ⟨Nat.le_of_ble_eq_true rfl, Nat.le_of_ble_eq_true rfl⟩ ⟨by omega, by omega⟩ rfl (by decide) (e0 nf) rfl (Nat.le_of_ble_eq_true rfl) (List.forall_mem_cons.mpr ⟨gEv_s, (List.forall_mem_cons.mpr ⟨gEv_r (e0 nf), (List.forall_mem_cons.mpr ⟨gEv_r (e50 nf), (List.forall_mem_cons.mpr ⟨gEv_r (e53 nf), (List.forall_mem_cons.mpr ⟨gEv_i _ _, (fun _ z => nomatch z)⟩)⟩)⟩)⟩)⟩) (fun _ z => nomatch z) (fun ad1 cA1 g1 => ?_)
  have had1 : ∀ k, k < 2 → ad1 (gad 62 k) = ad0 (gad 62 k) := fun k hk => (g1.str k hk).trans (had k hk)
  have hb1 : ad1 (gad 60 1) = b := (g1.2 60 1 (by decide) (by decide)).trans hb
  have C := Z1.C (cells := cells + 10 * (nf1 - nf)) (slots := slots + 1211 * (nf1 - nf)) (by omega) (by omega) cA1 (gXn nf1) had1 none none M
  refine r_aload_n (pc := 982) C dL_law_982 rfl 2 rfl ?_
  refine c_X11_all (pc := 983) C dL_law_983 q1799 ⟨Nat.le_of_ble_eq_true rfl, Nat.le_of_ble_eq_true rfl⟩ h2 (Nat.le_of_ble_eq_true rfl) ?_
  refine r_icmp_eq (pc := 986) (tgt := 1765) C dL_law_986 rfl (fun _ => ?_) (fun c => absurd rfl c)
  exact l_widen Z (by omega) (by omega) (k ad1 cA1 g1)
theorem lc_19 {r : Int32} {nf1 : Nat} {M1 : gM} {M2 : gM} (Z : gLD Φ l D base ad0 b L xs) (hst : l.stackTraces = false) (hb : ad (gad 60 1) = b) (had : ∀ k, k < 2 → ad (gad 62 k) = ad0 (gad 62 k)) (hn : n + 6 ≤ L) (hL : L ≤ 3072) (h1 : X10_clear nf M = some (r, nf1, M1)) (h2 : X11_clear M1 = some (r, M2)) (hroom : cells + 10 * (nf1 - nf) + 1 ≤ 601024 ∧ slots + 1211 * (nf1 - nf) + 6 ≤ 7293033) (k : ∀ ad1 cA1, gAgr (gXn nf) ad ad1 → Φ (cells + 10 * (nf1 - nf) + 1) (slots + 1211 * (nf1 - nf) + 6) ad1 cA1 (gXn nf1) M2 1765 [(0, .ref (gad 60 1)), (1, .ref (gad 0 0)), (2, .ref (gad 50 0)), (3, .ref (gad 53 0)), (4, .int (Int32.ofNat n))] []) : Φ cells slots ad cA (gXn nf) M 991 [(0, .ref (gad 60 1)), (1, .ref (gad 0 0)), (2, .ref (gad 50 0)), (3, .ref (gad 53 0)), (4, .int (Int32.ofNat n))] [] := by
  have C := Z.D.elim fun _ Z => Z.C (cells := cells) (slots := slots) (by omega) (by omega) cA (gXn nf) had none none M
  refine r_aload_n (pc := 991) C dL_law_991 rfl 1 rfl ?_
  obtain ⟨mn, Z1⟩ := Z.D
  refine d_callV (pc := 992) Z1 [] [] dL_law_992 (n_X10_clear h1) had (fun w h => ⟨_, (Option.some.inj h).symm⟩) q1082 q1083 q1084 q116 q1085 hd_X10_clear ⟨Nat.le_of_ble_eq_true rfl, Nat.le_of_ble_eq_true rfl⟩ ⟨by omega, by omega⟩ rfl (by decide) (e0 nf) rfl (Nat.le_of_ble_eq_true rfl) (List.forall_mem_cons.mpr ⟨gEv_s, (List.forall_mem_cons.mpr ⟨gEv_r (e0 nf), (List.forall_mem_cons.mpr ⟨gEv_r (e50 nf), (List.forall_mem_cons.mpr ⟨gEv_r (e53 nf), (List.forall_mem_cons.mpr ⟨gEv_i _ _, (fun _ z => nomatch z)⟩)⟩)⟩)⟩)⟩) (fun _ z => nomatch z) (fun ad1 cA1 g1 => ?_)
  have had1 : ∀ k, k < 2 → ad1 (gad 62 k) = ad0 (gad 62 k) := fun k hk => (g1.str k hk).trans (had k hk)
  have hb1 : ad1 (gad 60 1) = b := (g1.2 60 1 (by decide) (by decide)).trans hb
  have C := Z1.C (cells := cells + 10 * (nf1 - nf)) (slots := slots + 1211 * (nf1 - nf)) (by omega) (by omega) cA1 (gXn nf1) had1 none none M
  refine r_aload_n (pc := 995) C dL_law_995 rfl 2 rfl ?_
  refine c_X11_clear (pc := 996) C dL_law_996 q1807 ⟨Nat.le_of_ble_eq_true rfl, Nat.le_of_ble_eq_true rfl⟩ h2 (Nat.le_of_ble_eq_true rfl) ?_
  refine r_icmp_eq (pc := 999) (tgt := 1765) C dL_law_999 rfl (fun _ => ?_) (fun c => absurd rfl c)
  exact l_widen Z (by omega) (by omega) (k ad1 cA1 g1)
theorem lc_20 {r : Int32} {nf1 : Nat} {M1 : gM} {M2 : gM} (Z : gLD Φ l D base ad0 b L xs) (hst : l.stackTraces = false) (hb : ad (gad 60 1) = b) (had : ∀ k, k < 2 → ad (gad 62 k) = ad0 (gad 62 k)) (hn : n + 6 ≤ L) (hL : L ≤ 3072) (h1 : X10_set nf (xs (n + 1)) (xs (n + 2)) M = some (r, nf1, M1)) (h2 : X11_set (xs (n + 1)) (xs (n + 2)) M1 = some (r, M2)) (hroom : cells + 10 * (nf1 - nf) + 1 ≤ 601024 ∧ slots + 1211 * (nf1 - nf) + 6 ≤ 7293033) (k : ∀ ad1 cA1, gAgr (gXn nf) ad ad1 → Φ (cells + 10 * (nf1 - nf) + 1) (slots + 1211 * (nf1 - nf) + 6) ad1 cA1 (gXn nf1) M2 1765 [(0, .ref (gad 60 1)), (1, .ref (gad 0 0)), (2, .ref (gad 50 0)), (3, .ref (gad 53 0)), (4, .int (Int32.ofNat n))] []) : Φ cells slots ad cA (gXn nf) M 1004 [(0, .ref (gad 60 1)), (1, .ref (gad 0 0)), (2, .ref (gad 50 0)), (3, .ref (gad 53 0)), (4, .int (Int32.ofNat n))] [] := by
  have C := Z.D.elim fun _ Z => Z.C (cells := cells) (slots := slots) (by omega) (by omega) cA (gXn nf) had none none M
  refine r_aload_n (pc := 1004) C dL_law_1004 rfl 1 rfl ?_
  refine r_aload_n (pc := 1005) C dL_law_1005 rfl 0 rfl ?_
  refine r_iload (pc := 1006) C dL_law_1006 4 rfl ?_
  refine r_iconst (pc := 1008) C dL_law_1008 ki1 ?_
  refine r_iadd (pc := 1009) C dL_law_1009 ?_
  refine l_sld (pc := 1010) Z hb dL_law_1010 (j := n + 1) (lxi hn hL (j := 1) (by decide)) ?_
  refine r_aload_n (pc := 1011) C dL_law_1011 rfl 0 rfl ?_
  refine r_iload (pc := 1012) C dL_law_1012 4 rfl ?_
  refine r_iconst (pc := 1014) C dL_law_1014 ki2 ?_
  refine r_iadd (pc := 1015) C dL_law_1015 ?_
  refine l_sld (pc := 1016) Z hb dL_law_1016 (j := n + 2) (lxi hn hL (j := 2) (by decide)) ?_
  obtain ⟨mn, Z1⟩ := Z.D
  refine d_callV (pc := 1017) Z1 [.int (xs (n + 1)), .int (xs (n + 2))] [] dL_law_1017 (n_X10_set h1) had (fun w h => ⟨_, (Option.some.inj h).symm⟩) q1086 q1087 q1088 q116 q1089 hd_X10_set ⟨Nat.le_of_ble_eq_true rfl, Nat.le_of_ble_eq_true rfl⟩ ⟨by omega, by omega⟩ rfl (by decide) (e0 nf) rfl (Nat.le_of_ble_eq_true rfl) (List.forall_mem_cons.mpr ⟨gEv_s, (List.forall_mem_cons.mpr ⟨gEv_r (e0 nf), (List.forall_mem_cons.mpr ⟨gEv_r (e50 nf), (List.forall_mem_cons.mpr ⟨gEv_r (e53 nf), (List.forall_mem_cons.mpr ⟨gEv_i _ _, (fun _ z => nomatch z)⟩)⟩)⟩)⟩)⟩) (fun _ z => nomatch z) (fun ad1 cA1 g1 => ?_)
  have had1 : ∀ k, k < 2 → ad1 (gad 62 k) = ad0 (gad 62 k) := fun k hk => (g1.str k hk).trans (had k hk)
  have hb1 : ad1 (gad 60 1) = b := (g1.2 60 1 (by decide) (by decide)).trans hb
  have C := Z1.C (cells := cells + 10 * (nf1 - nf)) (slots := slots + 1211 * (nf1 - nf)) (by omega) (by omega) cA1 (gXn nf1) had1 none none M
  refine r_aload_n (pc := 1020) C dL_law_1020 rfl 2 rfl ?_
  refine r_aload_n (pc := 1021) C dL_law_1021 rfl 0 rfl ?_
  refine r_iload (pc := 1022) C dL_law_1022 4 rfl ?_
  refine r_iconst (pc := 1024) C dL_law_1024 ki1 ?_
  refine r_iadd (pc := 1025) C dL_law_1025 ?_
  refine l_sld (pc := 1026) Z hb1 dL_law_1026 (j := n + 1) (lxi hn hL (j := 1) (by decide)) ?_
  refine r_aload_n (pc := 1027) C dL_law_1027 rfl 0 rfl ?_
  refine r_iload (pc := 1028) C dL_law_1028 4 rfl ?_
  refine r_iconst (pc := 1030) C dL_law_1030 ki2 ?_
  refine r_iadd (pc := 1031) C dL_law_1031 ?_
  refine l_sld (pc := 1032) Z hb1 dL_law_1032 (j := n + 2) (lxi hn hL (j := 2) (by decide)) ?_
  refine c_X11_set (pc := 1033) C dL_law_1033 q1815 ⟨Nat.le_of_ble_eq_true rfl, Nat.le_of_ble_eq_true rfl⟩ h2 (Nat.le_of_ble_eq_true rfl) ?_
  refine r_icmp_eq (pc := 1036) (tgt := 1765) C dL_law_1036 rfl (fun _ => ?_) (fun c => absurd rfl c)
  exact l_widen Z (by omega) (by omega) (k ad1 cA1 g1)
theorem lc_21 {r : Int32} {nf1 : Nat} {M1 : gM} {M2 : gM} (Z : gLD Φ l D base ad0 b L xs) (hst : l.stackTraces = false) (hb : ad (gad 60 1) = b) (had : ∀ k, k < 2 → ad (gad 62 k) = ad0 (gad 62 k)) (hn : n + 6 ≤ L) (hL : L ≤ 3072) (h1 : X10_move nf (xs (n + 1)) (xs (n + 2)) (xs (n + 3)) (xs (n + 4)) M = some (r, nf1, M1)) (h2 : X11_move (xs (n + 1)) (xs (n + 2)) (xs (n + 3)) (xs (n + 4)) M1 = some (r, M2)) (hroom : cells + 10 * (nf1 - nf) + 1 ≤ 601024 ∧ slots + 1211 * (nf1 - nf) + 6 ≤ 7293033) (k : ∀ ad1 cA1, gAgr (gXn nf) ad ad1 → Φ (cells + 10 * (nf1 - nf) + 1) (slots + 1211 * (nf1 - nf) + 6) ad1 cA1 (gXn nf1) M2 1765 [(0, .ref (gad 60 1)), (1, .ref (gad 0 0)), (2, .ref (gad 50 0)), (3, .ref (gad 53 0)), (4, .int (Int32.ofNat n))] []) : Φ cells slots ad cA (gXn nf) M 1041 [(0, .ref (gad 60 1)), (1, .ref (gad 0 0)), (2, .ref (gad 50 0)), (3, .ref (gad 53 0)), (4, .int (Int32.ofNat n))] [] := by
  have C := Z.D.elim fun _ Z => Z.C (cells := cells) (slots := slots) (by omega) (by omega) cA (gXn nf) had none none M
  refine r_aload_n (pc := 1041) C dL_law_1041 rfl 1 rfl ?_
  refine r_aload_n (pc := 1042) C dL_law_1042 rfl 0 rfl ?_
  refine r_iload (pc := 1043) C dL_law_1043 4 rfl ?_
  refine r_iconst (pc := 1045) C dL_law_1045 ki1 ?_
  refine r_iadd (pc := 1046) C dL_law_1046 ?_
  refine l_sld (pc := 1047) Z hb dL_law_1047 (j := n + 1) (lxi hn hL (j := 1) (by decide)) ?_
  refine r_aload_n (pc := 1048) C dL_law_1048 rfl 0 rfl ?_
  refine r_iload (pc := 1049) C dL_law_1049 4 rfl ?_
  refine r_iconst (pc := 1051) C dL_law_1051 ki2 ?_
  refine r_iadd (pc := 1052) C dL_law_1052 ?_
  refine l_sld (pc := 1053) Z hb dL_law_1053 (j := n + 2) (lxi hn hL (j := 2) (by decide)) ?_
  refine r_aload_n (pc := 1054) C dL_law_1054 rfl 0 rfl ?_
  refine r_iload (pc := 1055) C dL_law_1055 4 rfl ?_
  refine r_iconst (pc := 1057) C dL_law_1057 ki3 ?_
  refine r_iadd (pc := 1058) C dL_law_1058 ?_
  refine l_sld (pc := 1059) Z hb dL_law_1059 (j := n + 3) (lxi hn hL (j := 3) (by decide)) ?_
  refine r_aload_n (pc := 1060) C dL_law_1060 rfl 0 rfl ?_
  refine r_iload (pc := 1061) C dL_law_1061 4 rfl ?_
  refine r_iconst (pc := 1063) C dL_law_1063 ki4 ?_
  refine r_iadd (pc := 1064) C dL_law_1064 ?_
  refine l_sld (pc := 1065) Z hb dL_law_1065 (j := n + 4) (lxi hn hL (j := 4) (by decide)) ?_
  obtain ⟨mn, Z1⟩ := Z.D
  refine d_callV (pc := 1066) Z1 [.int (xs (n + 1)), .int (xs (n + 2)), .int (xs (n + 3)), .int (xs (n + 4))] [] dL_law_1066 (n_X10_move h1) had (fun w h => ⟨_, (Option.some.inj h).symm⟩) q1090 q1091 q1092 q116 q1093 hd_X10_move ⟨Nat.le_of_ble_eq_true rfl, Nat.le_of_ble_eq_true rfl⟩ ⟨by omega, by omega⟩ rfl (by decide) (e0 nf) rfl (Nat.le_of_ble_eq_true rfl) (List.forall_mem_cons.mpr ⟨gEv_s, (List.forall_mem_cons.mpr ⟨gEv_r (e0 nf), (List.forall_mem_cons.mpr ⟨gEv_r (e50 nf), (List.forall_mem_cons.mpr ⟨gEv_r (e53 nf), (List.forall_mem_cons.mpr ⟨gEv_i _ _, (fun _ z => nomatch z)⟩)⟩)⟩)⟩)⟩) (fun _ z => nomatch z) (fun ad1 cA1 g1 => ?_)
  have had1 : ∀ k, k < 2 → ad1 (gad 62 k) = ad0 (gad 62 k) := fun k hk => (g1.str k hk).trans (had k hk)
  have hb1 : ad1 (gad 60 1) = b := (g1.2 60 1 (by decide) (by decide)).trans hb
  have C := Z1.C (cells := cells + 10 * (nf1 - nf)) (slots := slots + 1211 * (nf1 - nf)) (by omega) (by omega) cA1 (gXn nf1) had1 none none M
  refine r_aload_n (pc := 1069) C dL_law_1069 rfl 2 rfl ?_
  refine r_aload_n (pc := 1070) C dL_law_1070 rfl 0 rfl ?_
  refine r_iload (pc := 1071) C dL_law_1071 4 rfl ?_
  refine r_iconst (pc := 1073) C dL_law_1073 ki1 ?_
  refine r_iadd (pc := 1074) C dL_law_1074 ?_
  refine l_sld (pc := 1075) Z hb1 dL_law_1075 (j := n + 1) (lxi hn hL (j := 1) (by decide)) ?_
  refine r_aload_n (pc := 1076) C dL_law_1076 rfl 0 rfl ?_
  refine r_iload (pc := 1077) C dL_law_1077 4 rfl ?_
  refine r_iconst (pc := 1079) C dL_law_1079 ki2 ?_
  refine r_iadd (pc := 1080) C dL_law_1080 ?_
  refine l_sld (pc := 1081) Z hb1 dL_law_1081 (j := n + 2) (lxi hn hL (j := 2) (by decide)) ?_
  refine r_aload_n (pc := 1082) C dL_law_1082 rfl 0 rfl ?_
  refine r_iload (pc := 1083) C dL_law_1083 4 rfl ?_
  refine r_iconst (pc := 1085) C dL_law_1085 ki3 ?_
  refine r_iadd (pc := 1086) C dL_law_1086 ?_
  refine l_sld (pc := 1087) Z hb1 dL_law_1087 (j := n + 3) (lxi hn hL (j := 3) (by decide)) ?_
  refine r_aload_n (pc := 1088) C dL_law_1088 rfl 0 rfl ?_
  refine r_iload (pc := 1089) C dL_law_1089 4 rfl ?_
  refine r_iconst (pc := 1091) C dL_law_1091 ki4 ?_
  refine r_iadd (pc := 1092) C dL_law_1092 ?_
  refine l_sld (pc := 1093) Z hb1 dL_law_1093 (j := n + 4) (lxi hn hL (j := 4) (by decide)) ?_
  refine c_X11_move (pc := 1094) C dL_law_1094 q1824 ⟨Nat.le_of_ble_eq_true rfl, Nat.le_of_ble_eq_true rfl⟩ h2 (Nat.le_of_ble_eq_true rfl) ?_
  refine r_icmp_eq (pc := 1097) (tgt := 1765) C dL_law_1097 rfl (fun _ => ?_) (fun c => absurd rfl c)
  exact l_widen Z (by omega) (by omega) (k ad1 cA1 g1)
theorem lc_22 {r : Int32} {nf1 : Nat} {M1 : gM} {M2 : gM} (Z : gLD Φ l D base ad0 b L xs) (hst : l.stackTraces = false) (hb : ad (gad 60 1) = b) (had : ∀ k, k < 2 → ad (gad 62 k) = ad0 (gad 62 k)) (hn : n + 6 ≤ L) (hL : L ≤ 3072) (h1 : X10_years nf (xs (n + 1)) (((Int32.toInt64 (xs (n + 2))) <<< (Int32.toInt64 32 &&& 63)) ||| ((Int32.toInt64 (xs (n + 3))) &&& 4294967295)) M = some (r, nf1, M1)) (h2 : X11_years (xs (n + 1)) (((Int32.toInt64 (xs (n + 2))) <<< (Int32.toInt64 32 &&& 63)) ||| ((Int32.toInt64 (xs (n + 3))) &&& 4294967295)) M1 = some (r, M2)) (hroom : cells + 10 * (nf1 - nf) + 1 ≤ 601024 ∧ slots + 1211 * (nf1 - nf) + 6 ≤ 7293033) (k : ∀ ad1 cA1, gAgr (gXn nf) ad ad1 → Φ (cells + 10 * (nf1 - nf) + 1) (slots + 1211 * (nf1 - nf) + 6) ad1 cA1 (gXn nf1) M2 1765 [(0, .ref (gad 60 1)), (1, .ref (gad 0 0)), (2, .ref (gad 50 0)), (3, .ref (gad 53 0)), (4, .int (Int32.ofNat n))] []) : Φ cells slots ad cA (gXn nf) M 1102 [(0, .ref (gad 60 1)), (1, .ref (gad 0 0)), (2, .ref (gad 50 0)), (3, .ref (gad 53 0)), (4, .int (Int32.ofNat n))] [] := by
  have C := Z.D.elim fun _ Z => Z.C (cells := cells) (slots := slots) (by omega) (by omega) cA (gXn nf) had none none M
  refine r_aload_n (pc := 1102) C dL_law_1102 rfl 1 rfl ?_
  refine r_aload_n (pc := 1103) C dL_law_1103 rfl 0 rfl ?_
  refine r_iload (pc := 1104) C dL_law_1104 4 rfl ?_
  refine r_iconst (pc := 1106) C dL_law_1106 ki1 ?_
  refine r_iadd (pc := 1107) C dL_law_1107 ?_
  refine l_sld (pc := 1108) Z hb dL_law_1108 (j := n + 1) (lxi hn hL (j := 1) (by decide)) ?_
  refine r_aload_n (pc := 1109) C dL_law_1109 rfl 0 rfl ?_
  refine r_iload (pc := 1110) C dL_law_1110 4 rfl ?_
  refine r_iconst (pc := 1112) C dL_law_1112 ki2 ?_
  refine r_iadd (pc := 1113) C dL_law_1113 ?_
  refine l_sld (pc := 1114) Z hb dL_law_1114 (j := n + 2) (lxi hn hL (j := 2) (by decide)) ?_
  refine r_i2l (pc := 1115) C dL_law_1115 ?_
  refine r_bipush (pc := 1116) C dL_law_1116 kb32 ?_
  refine r_lshl (pc := 1118) C dL_law_1118 ?_
  refine r_aload_n (pc := 1119) C dL_law_1119 rfl 0 rfl ?_
  refine r_iload (pc := 1120) C dL_law_1120 4 rfl ?_
  refine r_iconst (pc := 1122) C dL_law_1122 ki3 ?_
  refine r_iadd (pc := 1123) C dL_law_1123 ?_
  refine l_sld (pc := 1124) Z hb dL_law_1124 (j := n + 3) (lxi hn hL (j := 3) (by decide)) ?_
  refine r_i2l (pc := 1125) C dL_law_1125 ?_
  refine r_ldc2 (pc := 1126) C dL_law_1126 q2068 ?_
  refine r_land (pc := 1129) C dL_law_1129 ?_
  refine r_lor (pc := 1130) C dL_law_1130 ?_
  obtain ⟨mn, Z1⟩ := Z.D
  refine d_callV (pc := 1131) Z1 [.int (xs (n + 1)), .long (((Int32.toInt64 (xs (n + 2))) <<< (Int32.toInt64 32 &&& 63)) ||| ((Int32.toInt64 (xs (n + 3))) &&& 4294967295))] [] dL_law_1131 (n_X10_years h1) had (fun w h => ⟨_, (Option.some.inj h).symm⟩) q1094 q1095 q1096 q116 q1097 hd_X10_years ⟨Nat.le_of_ble_eq_true rfl, Nat.le_of_ble_eq_true rfl⟩ ⟨by omega, by omega⟩ rfl (by decide) (e0 nf) rfl (Nat.le_of_ble_eq_true rfl) (List.forall_mem_cons.mpr ⟨gEv_s, (List.forall_mem_cons.mpr ⟨gEv_r (e0 nf), (List.forall_mem_cons.mpr ⟨gEv_r (e50 nf), (List.forall_mem_cons.mpr ⟨gEv_r (e53 nf), (List.forall_mem_cons.mpr ⟨gEv_i _ _, (fun _ z => nomatch z)⟩)⟩)⟩)⟩)⟩) (fun _ z => nomatch z) (fun ad1 cA1 g1 => ?_)
  have had1 : ∀ k, k < 2 → ad1 (gad 62 k) = ad0 (gad 62 k) := fun k hk => (g1.str k hk).trans (had k hk)
  have hb1 : ad1 (gad 60 1) = b := (g1.2 60 1 (by decide) (by decide)).trans hb
  have C := Z1.C (cells := cells + 10 * (nf1 - nf)) (slots := slots + 1211 * (nf1 - nf)) (by omega) (by omega) cA1 (gXn nf1) had1 none none M
  refine r_aload_n (pc := 1134) C dL_law_1134 rfl 2 rfl ?_
  refine r_aload_n (pc := 1135) C dL_law_1135 rfl 0 rfl ?_
  refine r_iload (pc := 1136) C dL_law_1136 4 rfl ?_
  refine r_iconst (pc := 1138) C dL_law_1138 ki1 ?_
  refine r_iadd (pc := 1139) C dL_law_1139 ?_
  refine l_sld (pc := 1140) Z hb1 dL_law_1140 (j := n + 1) (lxi hn hL (j := 1) (by decide)) ?_
  refine r_aload_n (pc := 1141) C dL_law_1141 rfl 0 rfl ?_
  refine r_iload (pc := 1142) C dL_law_1142 4 rfl ?_
  refine r_iconst (pc := 1144) C dL_law_1144 ki2 ?_
  refine r_iadd (pc := 1145) C dL_law_1145 ?_
  refine l_sld (pc := 1146) Z hb1 dL_law_1146 (j := n + 2) (lxi hn hL (j := 2) (by decide)) ?_
  refine r_i2l (pc := 1147) C dL_law_1147 ?_
  refine r_bipush (pc := 1148) C dL_law_1148 kb32 ?_
  refine r_lshl (pc := 1150) C dL_law_1150 ?_
  refine r_aload_n (pc := 1151) C dL_law_1151 rfl 0 rfl ?_
  refine r_iload (pc := 1152) C dL_law_1152 4 rfl ?_
  refine r_iconst (pc := 1154) C dL_law_1154 ki3 ?_
  refine r_iadd (pc := 1155) C dL_law_1155 ?_
  refine l_sld (pc := 1156) Z hb1 dL_law_1156 (j := n + 3) (lxi hn hL (j := 3) (by decide)) ?_
  refine r_i2l (pc := 1157) C dL_law_1157 ?_
  refine r_ldc2 (pc := 1158) C dL_law_1158 q2068 ?_
  refine r_land (pc := 1161) C dL_law_1161 ?_
  refine r_lor (pc := 1162) C dL_law_1162 ?_
  refine c_X11_years (pc := 1163) C dL_law_1163 q1843 ⟨Nat.le_of_ble_eq_true rfl, Nat.le_of_ble_eq_true rfl⟩ h2 (Nat.le_of_ble_eq_true rfl) ?_
  refine r_icmp_eq (pc := 1166) (tgt := 1765) C dL_law_1166 rfl (fun _ => ?_) (fun c => absurd rfl c)
  exact l_widen Z (by omega) (by omega) (k ad1 cA1 g1)
theorem lc_23 {r : Int32} {M2 : gM} (Z : gLD Φ l D base ad0 b L xs) (hst : l.stackTraces = false) (hb : ad (gad 60 1) = b) (had : ∀ k, k < 2 → ad (gad 62 k) = ad0 (gad 62 k)) (hn : n + 6 ≤ L) (hL : L ≤ 3072) (h1 : X10_status (xs (n + 1)) M = some r) (h2 : X11_status (xs (n + 1)) M = some (r, M2)) (hroom : cells + 1 ≤ 601024 ∧ slots + 6 ≤ 7293033) (k : Φ (cells + 1) (slots + 6) ad cA (gXn nf) M2 1765 [(0, .ref (gad 60 1)), (1, .ref (gad 0 0)), (2, .ref (gad 50 0)), (3, .ref (gad 53 0)), (4, .int (Int32.ofNat n))] []) : Φ cells slots ad cA (gXn nf) M 1171 [(0, .ref (gad 60 1)), (1, .ref (gad 0 0)), (2, .ref (gad 50 0)), (3, .ref (gad 53 0)), (4, .int (Int32.ofNat n))] [] := by
  have C := Z.D.elim fun _ Z => Z.C (cells := cells) (slots := slots) (by omega) (by omega) cA (gXn nf) had none none M
  refine r_aload_n (pc := 1171) C dL_law_1171 rfl 1 rfl ?_
  refine r_aload_n (pc := 1172) C dL_law_1172 rfl 0 rfl ?_
  refine r_iload (pc := 1173) C dL_law_1173 4 rfl ?_
  refine r_iconst (pc := 1175) C dL_law_1175 ki1 ?_
  refine r_iadd (pc := 1176) C dL_law_1176 ?_
  refine l_sld (pc := 1177) Z hb dL_law_1177 (j := n + 1) (lxi hn hL (j := 1) (by decide)) ?_
  refine c_X10_status (pc := 1178) C dL_law_1178 q1109 ⟨Nat.le_of_ble_eq_true rfl, Nat.le_of_ble_eq_true rfl⟩ h1 (Nat.le_of_ble_eq_true rfl) ?_
  refine r_aload_n (pc := 1181) C dL_law_1181 rfl 2 rfl ?_
  refine r_aload_n (pc := 1182) C dL_law_1182 rfl 0 rfl ?_
  refine r_iload (pc := 1183) C dL_law_1183 4 rfl ?_
  refine r_iconst (pc := 1185) C dL_law_1185 ki1 ?_
  refine r_iadd (pc := 1186) C dL_law_1186 ?_
  refine l_sld (pc := 1187) Z hb dL_law_1187 (j := n + 1) (lxi hn hL (j := 1) (by decide)) ?_
  refine c_X11_status (pc := 1188) C dL_law_1188 q1862 ⟨Nat.le_of_ble_eq_true rfl, Nat.le_of_ble_eq_true rfl⟩ h2 (Nat.le_of_ble_eq_true rfl) ?_
  refine r_icmp_eq (pc := 1191) (tgt := 1765) C dL_law_1191 rfl (fun _ => ?_) (fun c => absurd rfl c)
  exact l_widen Z (by omega) (by omega) k
theorem lc_24 {r : Int32} {M1 : gM} {M2 : gM} (Z : gLD Φ l D base ad0 b L xs) (hst : l.stackTraces = false) (hb : ad (gad 60 1) = b) (had : ∀ k, k < 2 → ad (gad 62 k) = ad0 (gad 62 k)) (hn : n + 6 ≤ L) (hL : L ≤ 3072) (h1 : X10_undo nf M = some (r, M1)) (h2 : X11_undo M1 = some (r, M2)) (hroom : cells + 1 ≤ 601024 ∧ slots + 6 ≤ 7293033) (k : Φ (cells + 1) (slots + 6) ad cA (gXn nf) M2 1765 [(0, .ref (gad 60 1)), (1, .ref (gad 0 0)), (2, .ref (gad 50 0)), (3, .ref (gad 53 0)), (4, .int (Int32.ofNat n))] []) : Φ cells slots ad cA (gXn nf) M 1196 [(0, .ref (gad 60 1)), (1, .ref (gad 0 0)), (2, .ref (gad 50 0)), (3, .ref (gad 53 0)), (4, .int (Int32.ofNat n))] [] := by
  have C := Z.D.elim fun _ Z => Z.C (cells := cells) (slots := slots) (by omega) (by omega) cA (gXn nf) had none none M
  refine r_aload_n (pc := 1196) C dL_law_1196 rfl 1 rfl ?_
  refine c_X10_undo (pc := 1197) C dL_law_1197 q1113 ⟨Nat.le_of_ble_eq_true rfl, Nat.le_of_ble_eq_true rfl⟩ h1 (Nat.le_of_ble_eq_true rfl) ?_
  refine r_aload_n (pc := 1200) C dL_law_1200 rfl 2 rfl ?_
  refine c_X11_undo (pc := 1201) C dL_law_1201 q1866 ⟨Nat.le_of_ble_eq_true rfl, Nat.le_of_ble_eq_true rfl⟩ h2 (Nat.le_of_ble_eq_true rfl) ?_
  refine r_icmp_eq (pc := 1204) (tgt := 1765) C dL_law_1204 rfl (fun _ => ?_) (fun c => absurd rfl c)
  exact l_widen Z (by omega) (by omega) k
theorem lc_25 {r : Int32} {M2 : gM} (Z : gLD Φ l D base ad0 b L xs) (hst : l.stackTraces = false) (hb : ad (gad 60 1) = b) (had : ∀ k, k < 2 → ad (gad 62 k) = ad0 (gad 62 k)) (hn : n + 6 ≤ L) (hL : L ≤ 3072) (h1 : X10_log (xs (n + 1)) (xs (n + 2)) M = some r) (h2 : X11_log (xs (n + 1)) (xs (n + 2)) M = some (r, M2)) (hroom : cells + 1 ≤ 601024 ∧ slots + 6 ≤ 7293033) (k : Φ (cells + 1) (slots + 6) ad cA (gXn nf) M2 1765 [(0, .ref (gad 60 1)), (1, .ref (gad 0 0)), (2, .ref (gad 50 0)), (3, .ref (gad 53 0)), (4, .int (Int32.ofNat n))] []) : Φ cells slots ad cA (gXn nf) M 1209 [(0, .ref (gad 60 1)), (1, .ref (gad 0 0)), (2, .ref (gad 50 0)), (3, .ref (gad 53 0)), (4, .int (Int32.ofNat n))] [] := by
  have C := Z.D.elim fun _ Z => Z.C (cells := cells) (slots := slots) (by omega) (by omega) cA (gXn nf) had none none M
  refine r_aload_n (pc := 1209) C dL_law_1209 rfl 1 rfl ?_
  refine r_aload_n (pc := 1210) C dL_law_1210 rfl 0 rfl ?_
  refine r_iload (pc := 1211) C dL_law_1211 4 rfl ?_
  refine r_iconst (pc := 1213) C dL_law_1213 ki1 ?_
  refine r_iadd (pc := 1214) C dL_law_1214 ?_
  refine l_sld (pc := 1215) Z hb dL_law_1215 (j := n + 1) (lxi hn hL (j := 1) (by decide)) ?_
  refine r_aload_n (pc := 1216) C dL_law_1216 rfl 0 rfl ?_
  refine r_iload (pc := 1217) C dL_law_1217 4 rfl ?_
  refine r_iconst (pc := 1219) C dL_law_1219 ki2 ?_
  refine r_iadd (pc := 1220) C dL_law_1220 ?_
  refine l_sld (pc := 1221) Z hb dL_law_1221 (j := n + 2) (lxi hn hL (j := 2) (by decide)) ?_
  refine c_X10_log (pc := 1222) C dL_law_1222 q1121 ⟨Nat.le_of_ble_eq_true rfl, Nat.le_of_ble_eq_true rfl⟩ h1 (Nat.le_of_ble_eq_true rfl) ?_
  refine r_aload_n (pc := 1225) C dL_law_1225 rfl 2 rfl ?_
  refine r_aload_n (pc := 1226) C dL_law_1226 rfl 0 rfl ?_
  refine r_iload (pc := 1227) C dL_law_1227 4 rfl ?_
  refine r_iconst (pc := 1229) C dL_law_1229 ki1 ?_
  refine r_iadd (pc := 1230) C dL_law_1230 ?_
  refine l_sld (pc := 1231) Z hb dL_law_1231 (j := n + 1) (lxi hn hL (j := 1) (by decide)) ?_
  refine r_aload_n (pc := 1232) C dL_law_1232 rfl 0 rfl ?_
  refine r_iload (pc := 1233) C dL_law_1233 4 rfl ?_
  refine r_iconst (pc := 1235) C dL_law_1235 ki2 ?_
  refine r_iadd (pc := 1236) C dL_law_1236 ?_
  refine l_sld (pc := 1237) Z hb dL_law_1237 (j := n + 2) (lxi hn hL (j := 2) (by decide)) ?_
  refine c_X11_log (pc := 1238) C dL_law_1238 q1870 ⟨Nat.le_of_ble_eq_true rfl, Nat.le_of_ble_eq_true rfl⟩ h2 (Nat.le_of_ble_eq_true rfl) ?_
  refine r_icmp_eq (pc := 1241) (tgt := 1765) C dL_law_1241 rfl (fun _ => ?_) (fun c => absurd rfl c)
  exact l_widen Z (by omega) (by omega) k
theorem lc_26 {r : Int32} {M2 : gM} (Z : gLD Φ l D base ad0 b L xs) (hst : l.stackTraces = false) (hb : ad (gad 60 1) = b) (had : ∀ k, k < 2 → ad (gad 62 k) = ad0 (gad 62 k)) (hn : n + 6 ≤ L) (hL : L ≤ 3072) (h1 : X10_step (xs (n + 1)) (xs (n + 2)) (xs (n + 3)) M = some r) (h2 : X11_step (xs (n + 1)) (xs (n + 2)) (xs (n + 3)) M = some (r, M2)) (hroom : cells + 1 ≤ 601024 ∧ slots + 6 ≤ 7293033) (k : Φ (cells + 1) (slots + 6) ad cA (gXn nf) M2 1765 [(0, .ref (gad 60 1)), (1, .ref (gad 0 0)), (2, .ref (gad 50 0)), (3, .ref (gad 53 0)), (4, .int (Int32.ofNat n))] []) : Φ cells slots ad cA (gXn nf) M 1246 [(0, .ref (gad 60 1)), (1, .ref (gad 0 0)), (2, .ref (gad 50 0)), (3, .ref (gad 53 0)), (4, .int (Int32.ofNat n))] [] := by
  have C := Z.D.elim fun _ Z => Z.C (cells := cells) (slots := slots) (by omega) (by omega) cA (gXn nf) had none none M
  refine r_aload_n (pc := 1246) C dL_law_1246 rfl 1 rfl ?_
  refine r_aload_n (pc := 1247) C dL_law_1247 rfl 0 rfl ?_
  refine r_iload (pc := 1248) C dL_law_1248 4 rfl ?_
  refine r_iconst (pc := 1250) C dL_law_1250 ki1 ?_
  refine r_iadd (pc := 1251) C dL_law_1251 ?_
  refine l_sld (pc := 1252) Z hb dL_law_1252 (j := n + 1) (lxi hn hL (j := 1) (by decide)) ?_
  refine r_aload_n (pc := 1253) C dL_law_1253 rfl 0 rfl ?_
  refine r_iload (pc := 1254) C dL_law_1254 4 rfl ?_
  refine r_iconst (pc := 1256) C dL_law_1256 ki2 ?_
  refine r_iadd (pc := 1257) C dL_law_1257 ?_
  refine l_sld (pc := 1258) Z hb dL_law_1258 (j := n + 2) (lxi hn hL (j := 2) (by decide)) ?_
  refine r_aload_n (pc := 1259) C dL_law_1259 rfl 0 rfl ?_
  refine r_iload (pc := 1260) C dL_law_1260 4 rfl ?_
  refine r_iconst (pc := 1262) C dL_law_1262 ki3 ?_
  refine r_iadd (pc := 1263) C dL_law_1263 ?_
  refine l_sld (pc := 1264) Z hb dL_law_1264 (j := n + 3) (lxi hn hL (j := 3) (by decide)) ?_
  refine c_X10_step (pc := 1265) C dL_law_1265 q1134 ⟨Nat.le_of_ble_eq_true rfl, Nat.le_of_ble_eq_true rfl⟩ h1 (Nat.le_of_ble_eq_true rfl) ?_
  refine r_aload_n (pc := 1268) C dL_law_1268 rfl 2 rfl ?_
  refine r_aload_n (pc := 1269) C dL_law_1269 rfl 0 rfl ?_
  refine r_iload (pc := 1270) C dL_law_1270 4 rfl ?_
  refine r_iconst (pc := 1272) C dL_law_1272 ki1 ?_
  refine r_iadd (pc := 1273) C dL_law_1273 ?_
  refine l_sld (pc := 1274) Z hb dL_law_1274 (j := n + 1) (lxi hn hL (j := 1) (by decide)) ?_
  refine r_aload_n (pc := 1275) C dL_law_1275 rfl 0 rfl ?_
  refine r_iload (pc := 1276) C dL_law_1276 4 rfl ?_
  refine r_iconst (pc := 1278) C dL_law_1278 ki2 ?_
  refine r_iadd (pc := 1279) C dL_law_1279 ?_
  refine l_sld (pc := 1280) Z hb dL_law_1280 (j := n + 2) (lxi hn hL (j := 2) (by decide)) ?_
  refine r_aload_n (pc := 1281) C dL_law_1281 rfl 0 rfl ?_
  refine r_iload (pc := 1282) C dL_law_1282 4 rfl ?_
  refine r_iconst (pc := 1284) C dL_law_1284 ki3 ?_
  refine r_iadd (pc := 1285) C dL_law_1285 ?_
  refine l_sld (pc := 1286) Z hb dL_law_1286 (j := n + 3) (lxi hn hL (j := 3) (by decide)) ?_
  refine c_X11_step (pc := 1287) C dL_law_1287 q1968 ⟨Nat.le_of_ble_eq_true rfl, Nat.le_of_ble_eq_true rfl⟩ h2 (Nat.le_of_ble_eq_true rfl) ?_
  refine r_icmp_eq (pc := 1290) (tgt := 1765) C dL_law_1290 rfl (fun _ => ?_) (fun c => absurd rfl c)
  exact l_widen Z (by omega) (by omega) k
theorem lc_27 {r : Int32} {M1 : gM} {M2 : gM} (Z : gLD Φ l D base ad0 b L xs) (hst : l.stackTraces = false) (hb : ad (gad 60 1) = b) (had : ∀ k, k < 2 → ad (gad 62 k) = ad0 (gad 62 k)) (hn : n + 6 ≤ L) (hL : L ≤ 3072) (h1 : X10_run (xs (n + 1)) (xs (n + 2)) M = some (r, M1)) (h2 : X11_run (xs (n + 1)) (xs (n + 2)) M1 = some (r, M2)) (hroom : cells + 1 ≤ 601024 ∧ slots + 6 ≤ 7293033) (k : Φ (cells + 1) (slots + 6) ad cA (gXn nf) M2 1765 [(0, .ref (gad 60 1)), (1, .ref (gad 0 0)), (2, .ref (gad 50 0)), (3, .ref (gad 53 0)), (4, .int (Int32.ofNat n))] []) : Φ cells slots ad cA (gXn nf) M 1295 [(0, .ref (gad 60 1)), (1, .ref (gad 0 0)), (2, .ref (gad 50 0)), (3, .ref (gad 53 0)), (4, .int (Int32.ofNat n))] [] := by
  have C := Z.D.elim fun _ Z => Z.C (cells := cells) (slots := slots) (by omega) (by omega) cA (gXn nf) had none none M
  refine r_aload_n (pc := 1295) C dL_law_1295 rfl 1 rfl ?_
  refine r_aload_n (pc := 1296) C dL_law_1296 rfl 0 rfl ?_
  refine r_iload (pc := 1297) C dL_law_1297 4 rfl ?_
  refine r_iconst (pc := 1299) C dL_law_1299 ki1 ?_
  refine r_iadd (pc := 1300) C dL_law_1300 ?_
  refine l_sld (pc := 1301) Z hb dL_law_1301 (j := n + 1) (lxi hn hL (j := 1) (by decide)) ?_
  refine r_aload_n (pc := 1302) C dL_law_1302 rfl 0 rfl ?_
  refine r_iload (pc := 1303) C dL_law_1303 4 rfl ?_
  refine r_iconst (pc := 1305) C dL_law_1305 ki2 ?_
  refine r_iadd (pc := 1306) C dL_law_1306 ?_
  refine l_sld (pc := 1307) Z hb dL_law_1307 (j := n + 2) (lxi hn hL (j := 2) (by decide)) ?_
  refine c_X10_run (pc := 1308) C dL_law_1308 q1149 ⟨Nat.le_of_ble_eq_true rfl, Nat.le_of_ble_eq_true rfl⟩ h1 (Nat.le_of_ble_eq_true rfl) ?_
  refine r_aload_n (pc := 1311) C dL_law_1311 rfl 2 rfl ?_
  refine r_aload_n (pc := 1312) C dL_law_1312 rfl 0 rfl ?_
  refine r_iload (pc := 1313) C dL_law_1313 4 rfl ?_
  refine r_iconst (pc := 1315) C dL_law_1315 ki1 ?_
  refine r_iadd (pc := 1316) C dL_law_1316 ?_
  refine l_sld (pc := 1317) Z hb dL_law_1317 (j := n + 1) (lxi hn hL (j := 1) (by decide)) ?_
  refine r_aload_n (pc := 1318) C dL_law_1318 rfl 0 rfl ?_
  refine r_iload (pc := 1319) C dL_law_1319 4 rfl ?_
  refine r_iconst (pc := 1321) C dL_law_1321 ki2 ?_
  refine r_iadd (pc := 1322) C dL_law_1322 ?_
  refine l_sld (pc := 1323) Z hb dL_law_1323 (j := n + 2) (lxi hn hL (j := 2) (by decide)) ?_
  refine c_X11_run (pc := 1324) C dL_law_1324 q1972 ⟨Nat.le_of_ble_eq_true rfl, Nat.le_of_ble_eq_true rfl⟩ h2 (Nat.le_of_ble_eq_true rfl) ?_
  refine r_icmp_eq (pc := 1327) (tgt := 1765) C dL_law_1327 rfl (fun _ => ?_) (fun c => absurd rfl c)
  exact l_widen Z (by omega) (by omega) k
theorem lc_28 {r : Int32} {nf1 : Nat} {M1 : gM} {M2 : gM} (Z : gLD Φ l D base ad0 b L xs) (hst : l.stackTraces = false) (hb : ad (gad 60 1) = b) (had : ∀ k, k < 2 → ad (gad 62 k) = ad0 (gad 62 k)) (hn : n + 6 ≤ L) (hL : L ≤ 3072) (h1 : X10_perform nf (xs (n + 1)) M = some (r, nf1, M1)) (h2 : X11_perform (xs (n + 1)) M1 = some (r, M2)) (hroom : cells + 10 * (nf1 - nf) + 1 ≤ 601024 ∧ slots + 1211 * (nf1 - nf) + 6 ≤ 7293033) (k : ∀ ad1 cA1, gAgr (gXn nf) ad ad1 → Φ (cells + 10 * (nf1 - nf) + 1) (slots + 1211 * (nf1 - nf) + 6) ad1 cA1 (gXn nf1) M2 1765 [(0, .ref (gad 60 1)), (1, .ref (gad 0 0)), (2, .ref (gad 50 0)), (3, .ref (gad 53 0)), (4, .int (Int32.ofNat n))] []) : Φ cells slots ad cA (gXn nf) M 1332 [(0, .ref (gad 60 1)), (1, .ref (gad 0 0)), (2, .ref (gad 50 0)), (3, .ref (gad 53 0)), (4, .int (Int32.ofNat n))] [] := by
  have C := Z.D.elim fun _ Z => Z.C (cells := cells) (slots := slots) (by omega) (by omega) cA (gXn nf) had none none M
  refine r_aload_n (pc := 1332) C dL_law_1332 rfl 1 rfl ?_
  refine r_aload_n (pc := 1333) C dL_law_1333 rfl 0 rfl ?_
  refine r_iload (pc := 1334) C dL_law_1334 4 rfl ?_
  refine r_iconst (pc := 1336) C dL_law_1336 ki1 ?_
  refine r_iadd (pc := 1337) C dL_law_1337 ?_
  refine l_sld (pc := 1338) Z hb dL_law_1338 (j := n + 1) (lxi hn hL (j := 1) (by decide)) ?_
  obtain ⟨mn, Z1⟩ := Z.D
  refine d_callV (pc := 1339) Z1 [.int (xs (n + 1))] [] dL_law_1339 (n_X10_perform h1) had (fun w h => ⟨_, (Option.some.inj h).symm⟩) q1165 q1166 q1167 q116 q1168 hd_X10_perform ⟨Nat.le_of_ble_eq_true rfl, Nat.le_of_ble_eq_true rfl⟩ ⟨by omega, by omega⟩ rfl (by decide) (e0 nf) rfl (Nat.le_of_ble_eq_true rfl) (List.forall_mem_cons.mpr ⟨gEv_s, (List.forall_mem_cons.mpr ⟨gEv_r (e0 nf), (List.forall_mem_cons.mpr ⟨gEv_r (e50 nf), (List.forall_mem_cons.mpr ⟨gEv_r (e53 nf), (List.forall_mem_cons.mpr ⟨gEv_i _ _, (fun _ z => nomatch z)⟩)⟩)⟩)⟩)⟩) (fun _ z => nomatch z) (fun ad1 cA1 g1 => ?_)
  have had1 : ∀ k, k < 2 → ad1 (gad 62 k) = ad0 (gad 62 k) := fun k hk => (g1.str k hk).trans (had k hk)
  have hb1 : ad1 (gad 60 1) = b := (g1.2 60 1 (by decide) (by decide)).trans hb
  have C := Z1.C (cells := cells + 10 * (nf1 - nf)) (slots := slots + 1211 * (nf1 - nf)) (by omega) (by omega) cA1 (gXn nf1) had1 none none M
  refine r_aload_n (pc := 1342) C dL_law_1342 rfl 2 rfl ?_
  refine r_aload_n (pc := 1343) C dL_law_1343 rfl 0 rfl ?_
  refine r_iload (pc := 1344) C dL_law_1344 4 rfl ?_
  refine r_iconst (pc := 1346) C dL_law_1346 ki1 ?_
  refine r_iadd (pc := 1347) C dL_law_1347 ?_
  refine l_sld (pc := 1348) Z hb1 dL_law_1348 (j := n + 1) (lxi hn hL (j := 1) (by decide)) ?_
  refine c_X11_perform (pc := 1349) C dL_law_1349 q1984 ⟨Nat.le_of_ble_eq_true rfl, Nat.le_of_ble_eq_true rfl⟩ h2 (Nat.le_of_ble_eq_true rfl) ?_
  refine r_icmp_eq (pc := 1352) (tgt := 1765) C dL_law_1352 rfl (fun _ => ?_) (fun c => absurd rfl c)
  exact l_widen Z (by omega) (by omega) (k ad1 cA1 g1)
theorem lc_29 {r : Int32} {M2 : gM} (Z : gLD Φ l D base ad0 b L xs) (hst : l.stackTraces = false) (hb : ad (gad 60 1) = b) (had : ∀ k, k < 2 → ad (gad 62 k) = ad0 (gad 62 k)) (hn : n + 6 ≤ L) (hL : L ≤ 3072) (h1 : X10_layer (xs (n + 1)) (xs (n + 2)) (xs (n + 3)) (xs (n + 4)) M = some r) (h2 : X11_layer (xs (n + 1)) (xs (n + 2)) (xs (n + 3)) (xs (n + 4)) M = some (r, M2)) (hroom : cells + 1 ≤ 601024 ∧ slots + 6 ≤ 7293033) (k : Φ (cells + 1) (slots + 6) ad cA (gXn nf) M2 1765 [(0, .ref (gad 60 1)), (1, .ref (gad 0 0)), (2, .ref (gad 50 0)), (3, .ref (gad 53 0)), (4, .int (Int32.ofNat n))] []) : Φ cells slots ad cA (gXn nf) M 1357 [(0, .ref (gad 60 1)), (1, .ref (gad 0 0)), (2, .ref (gad 50 0)), (3, .ref (gad 53 0)), (4, .int (Int32.ofNat n))] [] := by
  have C := Z.D.elim fun _ Z => Z.C (cells := cells) (slots := slots) (by omega) (by omega) cA (gXn nf) had none none M
  refine r_aload_n (pc := 1357) C dL_law_1357 rfl 1 rfl ?_
  refine r_aload_n (pc := 1358) C dL_law_1358 rfl 0 rfl ?_
  refine r_iload (pc := 1359) C dL_law_1359 4 rfl ?_
  refine r_iconst (pc := 1361) C dL_law_1361 ki1 ?_
  refine r_iadd (pc := 1362) C dL_law_1362 ?_
  refine l_sld (pc := 1363) Z hb dL_law_1363 (j := n + 1) (lxi hn hL (j := 1) (by decide)) ?_
  refine r_aload_n (pc := 1364) C dL_law_1364 rfl 0 rfl ?_
  refine r_iload (pc := 1365) C dL_law_1365 4 rfl ?_
  refine r_iconst (pc := 1367) C dL_law_1367 ki2 ?_
  refine r_iadd (pc := 1368) C dL_law_1368 ?_
  refine l_sld (pc := 1369) Z hb dL_law_1369 (j := n + 2) (lxi hn hL (j := 2) (by decide)) ?_
  refine r_aload_n (pc := 1370) C dL_law_1370 rfl 0 rfl ?_
  refine r_iload (pc := 1371) C dL_law_1371 4 rfl ?_
  refine r_iconst (pc := 1373) C dL_law_1373 ki3 ?_
  refine r_iadd (pc := 1374) C dL_law_1374 ?_
  refine l_sld (pc := 1375) Z hb dL_law_1375 (j := n + 3) (lxi hn hL (j := 3) (by decide)) ?_
  refine r_aload_n (pc := 1376) C dL_law_1376 rfl 0 rfl ?_
  refine r_iload (pc := 1377) C dL_law_1377 4 rfl ?_
  refine r_iconst (pc := 1379) C dL_law_1379 ki4 ?_
  refine r_iadd (pc := 1380) C dL_law_1380 ?_
  refine l_sld (pc := 1381) Z hb dL_law_1381 (j := n + 4) (lxi hn hL (j := 4) (by decide)) ?_
  refine c_X10_layer (pc := 1382) C dL_law_1382 q1170 ⟨Nat.le_of_ble_eq_true rfl, Nat.le_of_ble_eq_true rfl⟩ h1 (Nat.le_of_ble_eq_true rfl) ?_
  refine r_aload_n (pc := 1385) C dL_law_1385 rfl 2 rfl ?_
  refine r_aload_n (pc := 1386) C dL_law_1386 rfl 0 rfl ?_
  refine r_iload (pc := 1387) C dL_law_1387 4 rfl ?_
  refine r_iconst (pc := 1389) C dL_law_1389 ki1 ?_
  refine r_iadd (pc := 1390) C dL_law_1390 ?_
  refine l_sld (pc := 1391) Z hb dL_law_1391 (j := n + 1) (lxi hn hL (j := 1) (by decide)) ?_
  refine r_aload_n (pc := 1392) C dL_law_1392 rfl 0 rfl ?_
  refine r_iload (pc := 1393) C dL_law_1393 4 rfl ?_
  refine r_iconst (pc := 1395) C dL_law_1395 ki2 ?_
  refine r_iadd (pc := 1396) C dL_law_1396 ?_
  refine l_sld (pc := 1397) Z hb dL_law_1397 (j := n + 2) (lxi hn hL (j := 2) (by decide)) ?_
  refine r_aload_n (pc := 1398) C dL_law_1398 rfl 0 rfl ?_
  refine r_iload (pc := 1399) C dL_law_1399 4 rfl ?_
  refine r_iconst (pc := 1401) C dL_law_1401 ki3 ?_
  refine r_iadd (pc := 1402) C dL_law_1402 ?_
  refine l_sld (pc := 1403) Z hb dL_law_1403 (j := n + 3) (lxi hn hL (j := 3) (by decide)) ?_
  refine r_aload_n (pc := 1404) C dL_law_1404 rfl 0 rfl ?_
  refine r_iload (pc := 1405) C dL_law_1405 4 rfl ?_
  refine r_iconst (pc := 1407) C dL_law_1407 ki4 ?_
  refine r_iadd (pc := 1408) C dL_law_1408 ?_
  refine l_sld (pc := 1409) Z hb dL_law_1409 (j := n + 4) (lxi hn hL (j := 4) (by decide)) ?_
  refine c_X11_layer (pc := 1410) C dL_law_1410 q1988 ⟨Nat.le_of_ble_eq_true rfl, Nat.le_of_ble_eq_true rfl⟩ h2 (Nat.le_of_ble_eq_true rfl) ?_
  refine r_icmp_eq (pc := 1413) (tgt := 1765) C dL_law_1413 rfl (fun _ => ?_) (fun c => absurd rfl c)
  exact l_widen Z (by omega) (by omega) k
theorem lc_30 {r : Int32} {M1 : gM} {M2 : gM} (Z : gLD Φ l D base ad0 b L xs) (hst : l.stackTraces = false) (hb : ad (gad 60 1) = b) (had : ∀ k, k < 2 → ad (gad 62 k) = ad0 (gad 62 k)) (hn : n + 6 ≤ L) (hL : L ≤ 3072) (h1 : X10_shown (xs (n + 1)) (xs (n + 2)) M = some (r, M1)) (h2 : X11_shown (xs (n + 1)) (xs (n + 2)) M1 = some (r, M2)) (hroom : cells + 1 ≤ 601024 ∧ slots + 6 ≤ 7293033) (k : Φ (cells + 1) (slots + 6) ad cA (gXn nf) M2 1765 [(0, .ref (gad 60 1)), (1, .ref (gad 0 0)), (2, .ref (gad 50 0)), (3, .ref (gad 53 0)), (4, .int (Int32.ofNat n))] []) : Φ cells slots ad cA (gXn nf) M 1418 [(0, .ref (gad 60 1)), (1, .ref (gad 0 0)), (2, .ref (gad 50 0)), (3, .ref (gad 53 0)), (4, .int (Int32.ofNat n))] [] := by
  have C := Z.D.elim fun _ Z => Z.C (cells := cells) (slots := slots) (by omega) (by omega) cA (gXn nf) had none none M
  refine r_aload_n (pc := 1418) C dL_law_1418 rfl 1 rfl ?_
  refine r_aload_n (pc := 1419) C dL_law_1419 rfl 0 rfl ?_
  refine r_iload (pc := 1420) C dL_law_1420 4 rfl ?_
  refine r_iconst (pc := 1422) C dL_law_1422 ki1 ?_
  refine r_iadd (pc := 1423) C dL_law_1423 ?_
  refine l_sld (pc := 1424) Z hb dL_law_1424 (j := n + 1) (lxi hn hL (j := 1) (by decide)) ?_
  refine r_aload_n (pc := 1425) C dL_law_1425 rfl 0 rfl ?_
  refine r_iload (pc := 1426) C dL_law_1426 4 rfl ?_
  refine r_iconst (pc := 1428) C dL_law_1428 ki2 ?_
  refine r_iadd (pc := 1429) C dL_law_1429 ?_
  refine l_sld (pc := 1430) Z hb dL_law_1430 (j := n + 2) (lxi hn hL (j := 2) (by decide)) ?_
  refine c_X10_shown (pc := 1431) C dL_law_1431 q1179 ⟨Nat.le_of_ble_eq_true rfl, Nat.le_of_ble_eq_true rfl⟩ h1 (Nat.le_of_ble_eq_true rfl) ?_
  refine r_aload_n (pc := 1434) C dL_law_1434 rfl 2 rfl ?_
  refine r_aload_n (pc := 1435) C dL_law_1435 rfl 0 rfl ?_
  refine r_iload (pc := 1436) C dL_law_1436 4 rfl ?_
  refine r_iconst (pc := 1438) C dL_law_1438 ki1 ?_
  refine r_iadd (pc := 1439) C dL_law_1439 ?_
  refine l_sld (pc := 1440) Z hb dL_law_1440 (j := n + 1) (lxi hn hL (j := 1) (by decide)) ?_
  refine r_aload_n (pc := 1441) C dL_law_1441 rfl 0 rfl ?_
  refine r_iload (pc := 1442) C dL_law_1442 4 rfl ?_
  refine r_iconst (pc := 1444) C dL_law_1444 ki2 ?_
  refine r_iadd (pc := 1445) C dL_law_1445 ?_
  refine l_sld (pc := 1446) Z hb dL_law_1446 (j := n + 2) (lxi hn hL (j := 2) (by decide)) ?_
  refine c_X11_shown (pc := 1447) C dL_law_1447 q1992 ⟨Nat.le_of_ble_eq_true rfl, Nat.le_of_ble_eq_true rfl⟩ h2 (Nat.le_of_ble_eq_true rfl) ?_
  refine r_icmp_eq (pc := 1450) (tgt := 1765) C dL_law_1450 rfl (fun _ => ?_) (fun c => absurd rfl c)
  exact l_widen Z (by omega) (by omega) k
theorem lc_31 {r : Int32} {M1 : gM} {M2 : gM} (Z : gLD Φ l D base ad0 b L xs) (hst : l.stackTraces = false) (hb : ad (gad 60 1) = b) (had : ∀ k, k < 2 → ad (gad 62 k) = ad0 (gad 62 k)) (hn : n + 6 ≤ L) (hL : L ≤ 3072) (h1 : X10_whole (xs (n + 1)) (xs (n + 2)) M = some (r, M1)) (h2 : X11_whole (xs (n + 1)) (xs (n + 2)) M1 = some (r, M2)) (hroom : cells + 1 ≤ 601024 ∧ slots + 6 ≤ 7293033) (k : Φ (cells + 1) (slots + 6) ad cA (gXn nf) M2 1765 [(0, .ref (gad 60 1)), (1, .ref (gad 0 0)), (2, .ref (gad 50 0)), (3, .ref (gad 53 0)), (4, .int (Int32.ofNat n))] []) : Φ cells slots ad cA (gXn nf) M 1455 [(0, .ref (gad 60 1)), (1, .ref (gad 0 0)), (2, .ref (gad 50 0)), (3, .ref (gad 53 0)), (4, .int (Int32.ofNat n))] [] := by
  have C := Z.D.elim fun _ Z => Z.C (cells := cells) (slots := slots) (by omega) (by omega) cA (gXn nf) had none none M
  refine r_aload_n (pc := 1455) C dL_law_1455 rfl 1 rfl ?_
  refine r_aload_n (pc := 1456) C dL_law_1456 rfl 0 rfl ?_
  refine r_iload (pc := 1457) C dL_law_1457 4 rfl ?_
  refine r_iconst (pc := 1459) C dL_law_1459 ki1 ?_
  refine r_iadd (pc := 1460) C dL_law_1460 ?_
  refine l_sld (pc := 1461) Z hb dL_law_1461 (j := n + 1) (lxi hn hL (j := 1) (by decide)) ?_
  refine r_aload_n (pc := 1462) C dL_law_1462 rfl 0 rfl ?_
  refine r_iload (pc := 1463) C dL_law_1463 4 rfl ?_
  refine r_iconst (pc := 1465) C dL_law_1465 ki2 ?_
  refine r_iadd (pc := 1466) C dL_law_1466 ?_
  refine l_sld (pc := 1467) Z hb dL_law_1467 (j := n + 2) (lxi hn hL (j := 2) (by decide)) ?_
  refine c_X10_whole (pc := 1468) C dL_law_1468 q1188 ⟨Nat.le_of_ble_eq_true rfl, Nat.le_of_ble_eq_true rfl⟩ h1 (Nat.le_of_ble_eq_true rfl) ?_
  refine r_aload_n (pc := 1471) C dL_law_1471 rfl 2 rfl ?_
  refine r_aload_n (pc := 1472) C dL_law_1472 rfl 0 rfl ?_
  refine r_iload (pc := 1473) C dL_law_1473 4 rfl ?_
  refine r_iconst (pc := 1475) C dL_law_1475 ki1 ?_
  refine r_iadd (pc := 1476) C dL_law_1476 ?_
  refine l_sld (pc := 1477) Z hb dL_law_1477 (j := n + 1) (lxi hn hL (j := 1) (by decide)) ?_
  refine r_aload_n (pc := 1478) C dL_law_1478 rfl 0 rfl ?_
  refine r_iload (pc := 1479) C dL_law_1479 4 rfl ?_
  refine r_iconst (pc := 1481) C dL_law_1481 ki2 ?_
  refine r_iadd (pc := 1482) C dL_law_1482 ?_
  refine l_sld (pc := 1483) Z hb dL_law_1483 (j := n + 2) (lxi hn hL (j := 2) (by decide)) ?_
  refine c_X11_whole (pc := 1484) C dL_law_1484 q1996 ⟨Nat.le_of_ble_eq_true rfl, Nat.le_of_ble_eq_true rfl⟩ h2 (Nat.le_of_ble_eq_true rfl) ?_
  refine r_icmp_eq (pc := 1487) (tgt := 1765) C dL_law_1487 rfl (fun _ => ?_) (fun c => absurd rfl c)
  exact l_widen Z (by omega) (by omega) k
theorem lc_32 {r : Int32} {M2 : gM} (Z : gLD Φ l D base ad0 b L xs) (hst : l.stackTraces = false) (hb : ad (gad 60 1) = b) (had : ∀ k, k < 2 → ad (gad 62 k) = ad0 (gad 62 k)) (hn : n + 6 ≤ L) (hL : L ≤ 3072) (h1 : X10_shared (xs (n + 1)) (xs (n + 2)) (xs (n + 3)) M = some r) (h2 : X11_shared (xs (n + 1)) (xs (n + 2)) (xs (n + 3)) M = some (r, M2)) (hroom : cells + 1 ≤ 601024 ∧ slots + 6 ≤ 7293033) (k : Φ (cells + 1) (slots + 6) ad cA (gXn nf) M2 1765 [(0, .ref (gad 60 1)), (1, .ref (gad 0 0)), (2, .ref (gad 50 0)), (3, .ref (gad 53 0)), (4, .int (Int32.ofNat n))] []) : Φ cells slots ad cA (gXn nf) M 1492 [(0, .ref (gad 60 1)), (1, .ref (gad 0 0)), (2, .ref (gad 50 0)), (3, .ref (gad 53 0)), (4, .int (Int32.ofNat n))] [] := by
  have C := Z.D.elim fun _ Z => Z.C (cells := cells) (slots := slots) (by omega) (by omega) cA (gXn nf) had none none M
  refine r_aload_n (pc := 1492) C dL_law_1492 rfl 1 rfl ?_
  refine r_aload_n (pc := 1493) C dL_law_1493 rfl 0 rfl ?_
  refine r_iload (pc := 1494) C dL_law_1494 4 rfl ?_
  refine r_iconst (pc := 1496) C dL_law_1496 ki1 ?_
  refine r_iadd (pc := 1497) C dL_law_1497 ?_
  refine l_sld (pc := 1498) Z hb dL_law_1498 (j := n + 1) (lxi hn hL (j := 1) (by decide)) ?_
  refine r_aload_n (pc := 1499) C dL_law_1499 rfl 0 rfl ?_
  refine r_iload (pc := 1500) C dL_law_1500 4 rfl ?_
  refine r_iconst (pc := 1502) C dL_law_1502 ki2 ?_
  refine r_iadd (pc := 1503) C dL_law_1503 ?_
  refine l_sld (pc := 1504) Z hb dL_law_1504 (j := n + 2) (lxi hn hL (j := 2) (by decide)) ?_
  refine r_aload_n (pc := 1505) C dL_law_1505 rfl 0 rfl ?_
  refine r_iload (pc := 1506) C dL_law_1506 4 rfl ?_
  refine r_iconst (pc := 1508) C dL_law_1508 ki3 ?_
  refine r_iadd (pc := 1509) C dL_law_1509 ?_
  refine l_sld (pc := 1510) Z hb dL_law_1510 (j := n + 3) (lxi hn hL (j := 3) (by decide)) ?_
  refine c_X10_shared (pc := 1511) C dL_law_1511 q1198 ⟨Nat.le_of_ble_eq_true rfl, Nat.le_of_ble_eq_true rfl⟩ h1 (Nat.le_of_ble_eq_true rfl) ?_
  refine r_aload_n (pc := 1514) C dL_law_1514 rfl 2 rfl ?_
  refine r_aload_n (pc := 1515) C dL_law_1515 rfl 0 rfl ?_
  refine r_iload (pc := 1516) C dL_law_1516 4 rfl ?_
  refine r_iconst (pc := 1518) C dL_law_1518 ki1 ?_
  refine r_iadd (pc := 1519) C dL_law_1519 ?_
  refine l_sld (pc := 1520) Z hb dL_law_1520 (j := n + 1) (lxi hn hL (j := 1) (by decide)) ?_
  refine r_aload_n (pc := 1521) C dL_law_1521 rfl 0 rfl ?_
  refine r_iload (pc := 1522) C dL_law_1522 4 rfl ?_
  refine r_iconst (pc := 1524) C dL_law_1524 ki2 ?_
  refine r_iadd (pc := 1525) C dL_law_1525 ?_
  refine l_sld (pc := 1526) Z hb dL_law_1526 (j := n + 2) (lxi hn hL (j := 2) (by decide)) ?_
  refine r_aload_n (pc := 1527) C dL_law_1527 rfl 0 rfl ?_
  refine r_iload (pc := 1528) C dL_law_1528 4 rfl ?_
  refine r_iconst (pc := 1530) C dL_law_1530 ki3 ?_
  refine r_iadd (pc := 1531) C dL_law_1531 ?_
  refine l_sld (pc := 1532) Z hb dL_law_1532 (j := n + 3) (lxi hn hL (j := 3) (by decide)) ?_
  refine c_X11_shared (pc := 1533) C dL_law_1533 q2008 ⟨Nat.le_of_ble_eq_true rfl, Nat.le_of_ble_eq_true rfl⟩ h2 (Nat.le_of_ble_eq_true rfl) ?_
  refine r_icmp_eq (pc := 1536) (tgt := 1765) C dL_law_1536 rfl (fun _ => ?_) (fun c => absurd rfl c)
  exact l_widen Z (by omega) (by omega) k
theorem lc_33 {r : Int32} {M2 : gM} (Z : gLD Φ l D base ad0 b L xs) (hst : l.stackTraces = false) (hb : ad (gad 60 1) = b) (had : ∀ k, k < 2 → ad (gad 62 k) = ad0 (gad 62 k)) (hn : n + 6 ≤ L) (hL : L ≤ 3072) (h1 : X10_border (xs (n + 1)) (xs (n + 2)) (xs (n + 3)) M = some r) (h2 : X11_border (xs (n + 1)) (xs (n + 2)) (xs (n + 3)) M = some (r, M2)) (hroom : cells + 1 ≤ 601024 ∧ slots + 6 ≤ 7293033) (k : Φ (cells + 1) (slots + 6) ad cA (gXn nf) M2 1765 [(0, .ref (gad 60 1)), (1, .ref (gad 0 0)), (2, .ref (gad 50 0)), (3, .ref (gad 53 0)), (4, .int (Int32.ofNat n))] []) : Φ cells slots ad cA (gXn nf) M 1541 [(0, .ref (gad 60 1)), (1, .ref (gad 0 0)), (2, .ref (gad 50 0)), (3, .ref (gad 53 0)), (4, .int (Int32.ofNat n))] [] := by
  have C := Z.D.elim fun _ Z => Z.C (cells := cells) (slots := slots) (by omega) (by omega) cA (gXn nf) had none none M
  refine r_aload_n (pc := 1541) C dL_law_1541 rfl 1 rfl ?_
  refine r_aload_n (pc := 1542) C dL_law_1542 rfl 0 rfl ?_
  refine r_iload (pc := 1543) C dL_law_1543 4 rfl ?_
  refine r_iconst (pc := 1545) C dL_law_1545 ki1 ?_
  refine r_iadd (pc := 1546) C dL_law_1546 ?_
  refine l_sld (pc := 1547) Z hb dL_law_1547 (j := n + 1) (lxi hn hL (j := 1) (by decide)) ?_
  refine r_aload_n (pc := 1548) C dL_law_1548 rfl 0 rfl ?_
  refine r_iload (pc := 1549) C dL_law_1549 4 rfl ?_
  refine r_iconst (pc := 1551) C dL_law_1551 ki2 ?_
  refine r_iadd (pc := 1552) C dL_law_1552 ?_
  refine l_sld (pc := 1553) Z hb dL_law_1553 (j := n + 2) (lxi hn hL (j := 2) (by decide)) ?_
  refine r_aload_n (pc := 1554) C dL_law_1554 rfl 0 rfl ?_
  refine r_iload (pc := 1555) C dL_law_1555 4 rfl ?_
  refine r_iconst (pc := 1557) C dL_law_1557 ki3 ?_
  refine r_iadd (pc := 1558) C dL_law_1558 ?_
  refine l_sld (pc := 1559) Z hb dL_law_1559 (j := n + 3) (lxi hn hL (j := 3) (by decide)) ?_
  refine c_X10_border (pc := 1560) C dL_law_1560 q1211 ⟨Nat.le_of_ble_eq_true rfl, Nat.le_of_ble_eq_true rfl⟩ h1 (Nat.le_of_ble_eq_true rfl) ?_
  refine r_aload_n (pc := 1563) C dL_law_1563 rfl 2 rfl ?_
  refine r_aload_n (pc := 1564) C dL_law_1564 rfl 0 rfl ?_
  refine r_iload (pc := 1565) C dL_law_1565 4 rfl ?_
  refine r_iconst (pc := 1567) C dL_law_1567 ki1 ?_
  refine r_iadd (pc := 1568) C dL_law_1568 ?_
  refine l_sld (pc := 1569) Z hb dL_law_1569 (j := n + 1) (lxi hn hL (j := 1) (by decide)) ?_
  refine r_aload_n (pc := 1570) C dL_law_1570 rfl 0 rfl ?_
  refine r_iload (pc := 1571) C dL_law_1571 4 rfl ?_
  refine r_iconst (pc := 1573) C dL_law_1573 ki2 ?_
  refine r_iadd (pc := 1574) C dL_law_1574 ?_
  refine l_sld (pc := 1575) Z hb dL_law_1575 (j := n + 2) (lxi hn hL (j := 2) (by decide)) ?_
  refine r_aload_n (pc := 1576) C dL_law_1576 rfl 0 rfl ?_
  refine r_iload (pc := 1577) C dL_law_1577 4 rfl ?_
  refine r_iconst (pc := 1579) C dL_law_1579 ki3 ?_
  refine r_iadd (pc := 1580) C dL_law_1580 ?_
  refine l_sld (pc := 1581) Z hb dL_law_1581 (j := n + 3) (lxi hn hL (j := 3) (by decide)) ?_
  refine c_X11_border (pc := 1582) C dL_law_1582 q2020 ⟨Nat.le_of_ble_eq_true rfl, Nat.le_of_ble_eq_true rfl⟩ h2 (Nat.le_of_ble_eq_true rfl) ?_
  refine r_icmp_eq (pc := 1585) (tgt := 1765) C dL_law_1585 rfl (fun _ => ?_) (fun c => absurd rfl c)
  exact l_widen Z (by omega) (by omega) k
theorem lc_34 {r : Int32} {M1 : gM} {M2 : gM} (Z : gLD Φ l D base ad0 b L xs) (hst : l.stackTraces = false) (hb : ad (gad 60 1) = b) (had : ∀ k, k < 2 → ad (gad 62 k) = ad0 (gad 62 k)) (hn : n + 6 ≤ L) (hL : L ≤ 3072) (h1 : X10_left (xs (n + 1)) M = some (r, M1)) (h2 : X11_left (xs (n + 1)) M1 = some (r, M2)) (hroom : cells + 1 ≤ 601024 ∧ slots + 6 ≤ 7293033) (k : Φ (cells + 1) (slots + 6) ad cA (gXn nf) M2 1765 [(0, .ref (gad 60 1)), (1, .ref (gad 0 0)), (2, .ref (gad 50 0)), (3, .ref (gad 53 0)), (4, .int (Int32.ofNat n))] []) : Φ cells slots ad cA (gXn nf) M 1590 [(0, .ref (gad 60 1)), (1, .ref (gad 0 0)), (2, .ref (gad 50 0)), (3, .ref (gad 53 0)), (4, .int (Int32.ofNat n))] [] := by
  have C := Z.D.elim fun _ Z => Z.C (cells := cells) (slots := slots) (by omega) (by omega) cA (gXn nf) had none none M
  refine r_aload_n (pc := 1590) C dL_law_1590 rfl 1 rfl ?_
  refine r_aload_n (pc := 1591) C dL_law_1591 rfl 0 rfl ?_
  refine r_iload (pc := 1592) C dL_law_1592 4 rfl ?_
  refine r_iconst (pc := 1594) C dL_law_1594 ki1 ?_
  refine r_iadd (pc := 1595) C dL_law_1595 ?_
  refine l_sld (pc := 1596) Z hb dL_law_1596 (j := n + 1) (lxi hn hL (j := 1) (by decide)) ?_
  refine c_X10_left (pc := 1597) C dL_law_1597 q1224 ⟨Nat.le_of_ble_eq_true rfl, Nat.le_of_ble_eq_true rfl⟩ h1 (Nat.le_of_ble_eq_true rfl) ?_
  refine r_aload_n (pc := 1600) C dL_law_1600 rfl 2 rfl ?_
  refine r_aload_n (pc := 1601) C dL_law_1601 rfl 0 rfl ?_
  refine r_iload (pc := 1602) C dL_law_1602 4 rfl ?_
  refine r_iconst (pc := 1604) C dL_law_1604 ki1 ?_
  refine r_iadd (pc := 1605) C dL_law_1605 ?_
  refine l_sld (pc := 1606) Z hb dL_law_1606 (j := n + 1) (lxi hn hL (j := 1) (by decide)) ?_
  refine c_X11_left (pc := 1607) C dL_law_1607 q2004 ⟨Nat.le_of_ble_eq_true rfl, Nat.le_of_ble_eq_true rfl⟩ h2 (Nat.le_of_ble_eq_true rfl) ?_
  refine r_icmp_eq (pc := 1610) (tgt := 1765) C dL_law_1610 rfl (fun _ => ?_) (fun c => absurd rfl c)
  exact l_widen Z (by omega) (by omega) k
theorem lc_35 {r : Int32} {M1 : gM} {M2 : gM} (Z : gLD Φ l D base ad0 b L xs) (hst : l.stackTraces = false) (hb : ad (gad 60 1) = b) (had : ∀ k, k < 2 → ad (gad 62 k) = ad0 (gad 62 k)) (hn : n + 6 ≤ L) (hL : L ≤ 3072) (h1 : X10_orders (xs (n + 1)) M = some (r, M1)) (h2 : X11_orders (xs (n + 1)) M1 = some (r, M2)) (hroom : cells + 1 ≤ 601024 ∧ slots + 6 ≤ 7293033) (k : Φ (cells + 1) (slots + 6) ad cA (gXn nf) M2 1765 [(0, .ref (gad 60 1)), (1, .ref (gad 0 0)), (2, .ref (gad 50 0)), (3, .ref (gad 53 0)), (4, .int (Int32.ofNat n))] []) : Φ cells slots ad cA (gXn nf) M 1615 [(0, .ref (gad 60 1)), (1, .ref (gad 0 0)), (2, .ref (gad 50 0)), (3, .ref (gad 53 0)), (4, .int (Int32.ofNat n))] [] := by
  have C := Z.D.elim fun _ Z => Z.C (cells := cells) (slots := slots) (by omega) (by omega) cA (gXn nf) had none none M
  refine r_aload_n (pc := 1615) C dL_law_1615 rfl 1 rfl ?_
  refine r_aload_n (pc := 1616) C dL_law_1616 rfl 0 rfl ?_
  refine r_iload (pc := 1617) C dL_law_1617 4 rfl ?_
  refine r_iconst (pc := 1619) C dL_law_1619 ki1 ?_
  refine r_iadd (pc := 1620) C dL_law_1620 ?_
  refine l_sld (pc := 1621) Z hb dL_law_1621 (j := n + 1) (lxi hn hL (j := 1) (by decide)) ?_
  refine c_X10_orders (pc := 1622) C dL_law_1622 q1234 ⟨Nat.le_of_ble_eq_true rfl, Nat.le_of_ble_eq_true rfl⟩ h1 (Nat.le_of_ble_eq_true rfl) ?_
  refine r_aload_n (pc := 1625) C dL_law_1625 rfl 2 rfl ?_
  refine r_aload_n (pc := 1626) C dL_law_1626 rfl 0 rfl ?_
  refine r_iload (pc := 1627) C dL_law_1627 4 rfl ?_
  refine r_iconst (pc := 1629) C dL_law_1629 ki1 ?_
  refine r_iadd (pc := 1630) C dL_law_1630 ?_
  refine l_sld (pc := 1631) Z hb dL_law_1631 (j := n + 1) (lxi hn hL (j := 1) (by decide)) ?_
  refine c_X11_orders (pc := 1632) C dL_law_1632 q2024 ⟨Nat.le_of_ble_eq_true rfl, Nat.le_of_ble_eq_true rfl⟩ h2 (Nat.le_of_ble_eq_true rfl) ?_
  refine r_icmp_eq (pc := 1635) (tgt := 1765) C dL_law_1635 rfl (fun _ => ?_) (fun c => absurd rfl c)
  exact l_widen Z (by omega) (by omega) k
theorem lc_36 {r : Int32} {M1 : gM} {M2 : gM} (Z : gLD Φ l D base ad0 b L xs) (hst : l.stackTraces = false) (hb : ad (gad 60 1) = b) (had : ∀ k, k < 2 → ad (gad 62 k) = ad0 (gad 62 k)) (hn : n + 6 ≤ L) (hL : L ≤ 3072) (h1 : X10_shifts (xs (n + 1)) (xs (n + 2)) (xs (n + 3)) M = some (r, M1)) (h2 : X11_shifts (xs (n + 1)) (xs (n + 2)) (xs (n + 3)) M1 = some (r, M2)) (hroom : cells + 1 ≤ 601024 ∧ slots + 6 ≤ 7293033) (k : Φ (cells + 1) (slots + 6) ad cA (gXn nf) M2 1765 [(0, .ref (gad 60 1)), (1, .ref (gad 0 0)), (2, .ref (gad 50 0)), (3, .ref (gad 53 0)), (4, .int (Int32.ofNat n))] []) : Φ cells slots ad cA (gXn nf) M 1640 [(0, .ref (gad 60 1)), (1, .ref (gad 0 0)), (2, .ref (gad 50 0)), (3, .ref (gad 53 0)), (4, .int (Int32.ofNat n))] [] := by
  have C := Z.D.elim fun _ Z => Z.C (cells := cells) (slots := slots) (by omega) (by omega) cA (gXn nf) had none none M
  refine r_aload_n (pc := 1640) C dL_law_1640 rfl 1 rfl ?_
  refine r_aload_n (pc := 1641) C dL_law_1641 rfl 0 rfl ?_
  refine r_iload (pc := 1642) C dL_law_1642 4 rfl ?_
  refine r_iconst (pc := 1644) C dL_law_1644 ki1 ?_
  refine r_iadd (pc := 1645) C dL_law_1645 ?_
  refine l_sld (pc := 1646) Z hb dL_law_1646 (j := n + 1) (lxi hn hL (j := 1) (by decide)) ?_
  refine r_aload_n (pc := 1647) C dL_law_1647 rfl 0 rfl ?_
  refine r_iload (pc := 1648) C dL_law_1648 4 rfl ?_
  refine r_iconst (pc := 1650) C dL_law_1650 ki2 ?_
  refine r_iadd (pc := 1651) C dL_law_1651 ?_
  refine l_sld (pc := 1652) Z hb dL_law_1652 (j := n + 2) (lxi hn hL (j := 2) (by decide)) ?_
  refine r_aload_n (pc := 1653) C dL_law_1653 rfl 0 rfl ?_
  refine r_iload (pc := 1654) C dL_law_1654 4 rfl ?_
  refine r_iconst (pc := 1656) C dL_law_1656 ki3 ?_
  refine r_iadd (pc := 1657) C dL_law_1657 ?_
  refine l_sld (pc := 1658) Z hb dL_law_1658 (j := n + 3) (lxi hn hL (j := 3) (by decide)) ?_
  refine c_X10_shifts (pc := 1659) C dL_law_1659 q1257 ⟨Nat.le_of_ble_eq_true rfl, Nat.le_of_ble_eq_true rfl⟩ h1 (Nat.le_of_ble_eq_true rfl) ?_
  refine r_aload_n (pc := 1662) C dL_law_1662 rfl 2 rfl ?_
  refine r_aload_n (pc := 1663) C dL_law_1663 rfl 0 rfl ?_
  refine r_iload (pc := 1664) C dL_law_1664 4 rfl ?_
  refine r_iconst (pc := 1666) C dL_law_1666 ki1 ?_
  refine r_iadd (pc := 1667) C dL_law_1667 ?_
  refine l_sld (pc := 1668) Z hb dL_law_1668 (j := n + 1) (lxi hn hL (j := 1) (by decide)) ?_
  refine r_aload_n (pc := 1669) C dL_law_1669 rfl 0 rfl ?_
  refine r_iload (pc := 1670) C dL_law_1670 4 rfl ?_
  refine r_iconst (pc := 1672) C dL_law_1672 ki2 ?_
  refine r_iadd (pc := 1673) C dL_law_1673 ?_
  refine l_sld (pc := 1674) Z hb dL_law_1674 (j := n + 2) (lxi hn hL (j := 2) (by decide)) ?_
  refine r_aload_n (pc := 1675) C dL_law_1675 rfl 0 rfl ?_
  refine r_iload (pc := 1676) C dL_law_1676 4 rfl ?_
  refine r_iconst (pc := 1678) C dL_law_1678 ki3 ?_
  refine r_iadd (pc := 1679) C dL_law_1679 ?_
  refine l_sld (pc := 1680) Z hb dL_law_1680 (j := n + 3) (lxi hn hL (j := 3) (by decide)) ?_
  refine c_X11_shifts (pc := 1681) C dL_law_1681 q2032 ⟨Nat.le_of_ble_eq_true rfl, Nat.le_of_ble_eq_true rfl⟩ h2 (Nat.le_of_ble_eq_true rfl) ?_
  refine r_icmp_eq (pc := 1684) (tgt := 1765) C dL_law_1684 rfl (fun _ => ?_) (fun c => absurd rfl c)
  exact l_widen Z (by omega) (by omega) k
theorem lc_37 {r : Int32} {M1 : gM} {M2 : gM} (Z : gLD Φ l D base ad0 b L xs) (hst : l.stackTraces = false) (hb : ad (gad 60 1) = b) (had : ∀ k, k < 2 → ad (gad 62 k) = ad0 (gad 62 k)) (hn : n + 6 ≤ L) (hL : L ≤ 3072) (h1 : X10_most (xs (n + 1)) M = some (r, M1)) (h2 : X11_most (xs (n + 1)) M1 = some (r, M2)) (hroom : cells + 1 ≤ 601024 ∧ slots + 6 ≤ 7293033) (k : Φ (cells + 1) (slots + 6) ad cA (gXn nf) M2 1765 [(0, .ref (gad 60 1)), (1, .ref (gad 0 0)), (2, .ref (gad 50 0)), (3, .ref (gad 53 0)), (4, .int (Int32.ofNat n))] []) : Φ cells slots ad cA (gXn nf) M 1689 [(0, .ref (gad 60 1)), (1, .ref (gad 0 0)), (2, .ref (gad 50 0)), (3, .ref (gad 53 0)), (4, .int (Int32.ofNat n))] [] := by
  have C := Z.D.elim fun _ Z => Z.C (cells := cells) (slots := slots) (by omega) (by omega) cA (gXn nf) had none none M
  refine r_aload_n (pc := 1689) C dL_law_1689 rfl 1 rfl ?_
  refine r_aload_n (pc := 1690) C dL_law_1690 rfl 0 rfl ?_
  refine r_iload (pc := 1691) C dL_law_1691 4 rfl ?_
  refine r_iconst (pc := 1693) C dL_law_1693 ki1 ?_
  refine r_iadd (pc := 1694) C dL_law_1694 ?_
  refine l_sld (pc := 1695) Z hb dL_law_1695 (j := n + 1) (lxi hn hL (j := 1) (by decide)) ?_
  refine c_X10_most (pc := 1696) C dL_law_1696 q1274 ⟨Nat.le_of_ble_eq_true rfl, Nat.le_of_ble_eq_true rfl⟩ h1 (Nat.le_of_ble_eq_true rfl) ?_
  refine r_aload_n (pc := 1699) C dL_law_1699 rfl 2 rfl ?_
  refine r_aload_n (pc := 1700) C dL_law_1700 rfl 0 rfl ?_
  refine r_iload (pc := 1701) C dL_law_1701 4 rfl ?_
  refine r_iconst (pc := 1703) C dL_law_1703 ki1 ?_
  refine r_iadd (pc := 1704) C dL_law_1704 ?_
  refine l_sld (pc := 1705) Z hb dL_law_1705 (j := n + 1) (lxi hn hL (j := 1) (by decide)) ?_
  refine c_X11_most (pc := 1706) C dL_law_1706 q2036 ⟨Nat.le_of_ble_eq_true rfl, Nat.le_of_ble_eq_true rfl⟩ h2 (Nat.le_of_ble_eq_true rfl) ?_
  refine r_icmp_eq (pc := 1709) (tgt := 1765) C dL_law_1709 rfl (fun _ => ?_) (fun c => absurd rfl c)
  exact l_widen Z (by omega) (by omega) k
theorem lc_38 {r : Int32} {M1 : gM} {M2 : gM} (Z : gLD Φ l D base ad0 b L xs) (hst : l.stackTraces = false) (hb : ad (gad 60 1) = b) (had : ∀ k, k < 2 → ad (gad 62 k) = ad0 (gad 62 k)) (hn : n + 6 ≤ L) (hL : L ≤ 3072) (h1 : X10_image M = some (r, M1)) (h2 : X11_image M1 = some (r, M2)) (hroom : cells + 1 ≤ 601024 ∧ slots + 6 ≤ 7293033) (k : Φ (cells + 1) (slots + 6) ad cA (gXn nf) M2 1765 [(0, .ref (gad 60 1)), (1, .ref (gad 0 0)), (2, .ref (gad 50 0)), (3, .ref (gad 53 0)), (4, .int (Int32.ofNat n))] []) : Φ cells slots ad cA (gXn nf) M 1714 [(0, .ref (gad 60 1)), (1, .ref (gad 0 0)), (2, .ref (gad 50 0)), (3, .ref (gad 53 0)), (4, .int (Int32.ofNat n))] [] := by
  have C := Z.D.elim fun _ Z => Z.C (cells := cells) (slots := slots) (by omega) (by omega) cA (gXn nf) had none none M
  refine r_aload_n (pc := 1714) C dL_law_1714 rfl 1 rfl ?_
  refine c_X10_image (pc := 1715) C dL_law_1715 q1302 ⟨Nat.le_of_ble_eq_true rfl, Nat.le_of_ble_eq_true rfl⟩ h1 (Nat.le_of_ble_eq_true rfl) ?_
  refine r_aload_n (pc := 1718) C dL_law_1718 rfl 2 rfl ?_
  refine c_X11_image (pc := 1719) C dL_law_1719 q1874 ⟨Nat.le_of_ble_eq_true rfl, Nat.le_of_ble_eq_true rfl⟩ h2 (Nat.le_of_ble_eq_true rfl) ?_
  refine r_icmp_eq (pc := 1722) (tgt := 1765) C dL_law_1722 rfl (fun _ => ?_) (fun c => absurd rfl c)
  exact l_widen Z (by omega) (by omega) k
theorem lc_39 {r : Int32} {M1 : gM} {M2 : gM} (Z : gLD Φ l D base ad0 b L xs) (hst : l.stackTraces = false) (hb : ad (gad 60 1) = b) (had : ∀ k, k < 2 → ad (gad 62 k) = ad0 (gad 62 k)) (hn : n + 6 ≤ L) (hL : L ≤ 3072) (h1 : X10_back M = some (r, M1)) (h2 : X11_back M1 = some (r, M2)) (hroom : cells + 1 ≤ 601024 ∧ slots + 6 ≤ 7293033) (k : Φ (cells + 1) (slots + 6) ad cA (gXn nf) M2 1765 [(0, .ref (gad 60 1)), (1, .ref (gad 0 0)), (2, .ref (gad 50 0)), (3, .ref (gad 53 0)), (4, .int (Int32.ofNat n))] []) : Φ cells slots ad cA (gXn nf) M 1727 [(0, .ref (gad 60 1)), (1, .ref (gad 0 0)), (2, .ref (gad 50 0)), (3, .ref (gad 53 0)), (4, .int (Int32.ofNat n))] [] := by
  have C := Z.D.elim fun _ Z => Z.C (cells := cells) (slots := slots) (by omega) (by omega) cA (gXn nf) had none none M
  refine r_aload_n (pc := 1727) C dL_law_1727 rfl 1 rfl ?_
  refine c_X10_back (pc := 1728) C dL_law_1728 q1307 ⟨Nat.le_of_ble_eq_true rfl, Nat.le_of_ble_eq_true rfl⟩ h1 (Nat.le_of_ble_eq_true rfl) ?_
  refine r_aload_n (pc := 1731) C dL_law_1731 rfl 2 rfl ?_
  refine c_X11_back (pc := 1732) C dL_law_1732 q1878 ⟨Nat.le_of_ble_eq_true rfl, Nat.le_of_ble_eq_true rfl⟩ h2 (Nat.le_of_ble_eq_true rfl) ?_
  refine r_icmp_eq (pc := 1735) (tgt := 1765) C dL_law_1735 rfl (fun _ => ?_) (fun c => absurd rfl c)
  exact l_widen Z (by omega) (by omega) k
theorem lc_40 {r : Int32} {M2 : gM} (Z : gLD Φ l D base ad0 b L xs) (hst : l.stackTraces = false) (hb : ad (gad 60 1) = b) (had : ∀ k, k < 2 → ad (gad 62 k) = ad0 (gad 62 k)) (hn : n + 6 ≤ L) (hL : L ≤ 3072) (h1 : X10_count (xs (n + 1)) M = some r) (h2 : X11_count (xs (n + 1)) M = some (r, M2)) (hroom : cells + 1 ≤ 601024 ∧ slots + 6 ≤ 7293033) (k : Φ (cells + 1) (slots + 6) ad cA (gXn nf) M2 1765 [(0, .ref (gad 60 1)), (1, .ref (gad 0 0)), (2, .ref (gad 50 0)), (3, .ref (gad 53 0)), (4, .int (Int32.ofNat n))] []) : Φ cells slots ad cA (gXn nf) M 1740 [(0, .ref (gad 60 1)), (1, .ref (gad 0 0)), (2, .ref (gad 50 0)), (3, .ref (gad 53 0)), (4, .int (Int32.ofNat n))] [] := by
  have C := Z.D.elim fun _ Z => Z.C (cells := cells) (slots := slots) (by omega) (by omega) cA (gXn nf) had none none M
  refine r_aload_n (pc := 1740) C dL_law_1740 rfl 1 rfl ?_
  refine r_aload_n (pc := 1741) C dL_law_1741 rfl 0 rfl ?_
  refine r_iload (pc := 1742) C dL_law_1742 4 rfl ?_
  refine r_iconst (pc := 1744) C dL_law_1744 ki1 ?_
  refine r_iadd (pc := 1745) C dL_law_1745 ?_
  refine l_sld (pc := 1746) Z hb dL_law_1746 (j := n + 1) (lxi hn hL (j := 1) (by decide)) ?_
  refine c_X10_count (pc := 1747) C dL_law_1747 q1311 ⟨Nat.le_of_ble_eq_true rfl, Nat.le_of_ble_eq_true rfl⟩ h1 (Nat.le_of_ble_eq_true rfl) ?_
  refine r_aload_n (pc := 1750) C dL_law_1750 rfl 2 rfl ?_
  refine r_aload_n (pc := 1751) C dL_law_1751 rfl 0 rfl ?_
  refine r_iload (pc := 1752) C dL_law_1752 4 rfl ?_
  refine r_iconst (pc := 1754) C dL_law_1754 ki1 ?_
  refine r_iadd (pc := 1755) C dL_law_1755 ?_
  refine l_sld (pc := 1756) Z hb dL_law_1756 (j := n + 1) (lxi hn hL (j := 1) (by decide)) ?_
  refine c_X11_count (pc := 1757) C dL_law_1757 q2064 ⟨Nat.le_of_ble_eq_true rfl, Nat.le_of_ble_eq_true rfl⟩ h2 (Nat.le_of_ble_eq_true rfl) ?_
  refine r_icmp_eq (pc := 1760) (tgt := 1765) C dL_law_1760 rfl (fun _ => ?_) (fun c => absurd rfl c)
  exact l_widen Z (by omega) (by omega) k
end GLC
