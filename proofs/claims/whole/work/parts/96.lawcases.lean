section LC
variable {G : jGT} {nm : String} {d mc ms : Nat} {z : Int32} {M : jM} {post : jP}
theorem lawc_0 (hR : Rel M) (hv : ∀ k, k < 5 → vp_in (z + nI k) (jL G)) (k : ∀ M2, Rel M2 → jLaw G nm d 1210 z M2 mc ms post) : jLaw G nm d 176 z M mc ms post := by
  unfold jLaw at *
  refine J_aload_1 dL_law_176 ?_
  refine J_aload_0 dL_law_177 ?_
  refine J_iload_3 dL_law_178 ?_
  refine J_iconst (1 : Int32) dL_law_179 (by decide) ?_
  refine J_iadd dL_law_180 ?_
  refine J_ialdO (N := jL G) (f := jxs G) dL_law_181 rfl (hv 1 (by omega)) ?_
  refine L_callVI (As := [.int (jxs G (z + nI 1).toNatClampNeg)]) (rest := []) dL_law_182 vl_L_13 jlt_0 jsh_0 (RX7, TX7, 8) rfl rfl (call_feed (d := d) (P := jPI) hR (jxs G (z + nI 1).toNatClampNeg) (fun r M' h => ⟨rfl, h⟩)) rfl rfl (Nat.le_of_ble_eq_true rfl) (Nat.le_refl _) (Nat.le_refl _) (fun r1 M1 hC => ?_)
  refine J_aload_2 dL_law_185 ?_
  refine J_aload_0 dL_law_186 ?_
  refine J_iload_3 dL_law_187 ?_
  refine J_iconst (1 : Int32) dL_law_188 (by decide) ?_
  refine J_iadd dL_law_189 ?_
  refine J_ialdO (N := jL G) (f := jxs G) dL_law_190 rfl (hv 1 (by omega)) ?_
  refine L_callVI (As := [.int (jxs G (z + nI 1).toNatClampNeg)]) (rest := [.int r1]) dL_law_191 vl_L_17 jlt_117 jsh_117 (RX8, TX8, 31) rfl rfl hC rfl rfl (Nat.le_of_ble_eq_true rfl) (Nat.le_refl _) (Nat.le_refl _) (fun r2 M2 hp => ?_)
  obtain ⟨rfl, hR2⟩ := hp
  refine J_icmp_eq (t := 1210) dL_law_194 (by decide) (fun _ => k M2 hR2) (fun e => absurd rfl e)
theorem lawc_1 (hR : Rel M) (hv : ∀ k, k < 5 → vp_in (z + nI k) (jL G)) (k : ∀ M2, Rel M2 → jLaw G nm d 1210 z M2 mc ms post) : jLaw G nm d 199 z M mc ms post := by
  unfold jLaw at *
  refine J_aload_1 dL_law_199 ?_
  refine L_callVI (As := []) (rest := []) dL_law_200 vl_L_18 jlt_0 jsh_0 (RX7, TX7, 8) rfl rfl (call_court (d := d) (P := jPI) hR  (fun r M' h => ⟨rfl, h⟩)) rfl rfl (Nat.le_of_ble_eq_true rfl) (Nat.le_refl _) (Nat.le_refl _) (fun r1 M1 hC => ?_)
  refine J_aload_2 dL_law_203 ?_
  refine L_callVI (As := []) (rest := [.int r1]) dL_law_204 vl_L_22 jlt_117 jsh_117 (RX8, TX8, 31) rfl rfl hC rfl rfl (Nat.le_of_ble_eq_true rfl) (Nat.le_refl _) (Nat.le_refl _) (fun r2 M2 hp => ?_)
  obtain ⟨rfl, hR2⟩ := hp
  refine J_icmp_eq (t := 1210) dL_law_207 (by decide) (fun _ => k M2 hR2) (fun e => absurd rfl e)
theorem lawc_2 (hR : Rel M) (hv : ∀ k, k < 5 → vp_in (z + nI k) (jL G)) (k : ∀ M2, Rel M2 → jLaw G nm d 1210 z M2 mc ms post) : jLaw G nm d 212 z M mc ms post := by
  unfold jLaw at *
  refine J_aload_1 dL_law_212 ?_
  refine J_aload_0 dL_law_213 ?_
  refine J_iload_3 dL_law_214 ?_
  refine J_iconst (1 : Int32) dL_law_215 (by decide) ?_
  refine J_iadd dL_law_216 ?_
  refine J_ialdO (N := jL G) (f := jxs G) dL_law_217 rfl (hv 1 (by omega)) ?_
  refine L_callVI (As := [.int (jxs G (z + nI 1).toNatClampNeg)]) (rest := []) dL_law_218 vl_L_23 jlt_0 jsh_0 (RX7, TX7, 8) rfl rfl (call_day (d := d) (P := jPI) hR (jxs G (z + nI 1).toNatClampNeg) (fun r M' h => ⟨rfl, h⟩)) rfl rfl (Nat.le_of_ble_eq_true rfl) (Nat.le_refl _) (Nat.le_refl _) (fun r1 M1 hC => ?_)
  refine J_aload_2 dL_law_221 ?_
  refine J_aload_0 dL_law_222 ?_
  refine J_iload_3 dL_law_223 ?_
  refine J_iconst (1 : Int32) dL_law_224 (by decide) ?_
  refine J_iadd dL_law_225 ?_
  refine J_ialdO (N := jL G) (f := jxs G) dL_law_226 rfl (hv 1 (by omega)) ?_
  refine L_callVI (As := [.int (jxs G (z + nI 1).toNatClampNeg)]) (rest := [.int r1]) dL_law_227 vl_L_26 jlt_117 jsh_117 (RX8, TX8, 31) rfl rfl hC rfl rfl (Nat.le_of_ble_eq_true rfl) (Nat.le_refl _) (Nat.le_refl _) (fun r2 M2 hp => ?_)
  obtain ⟨rfl, hR2⟩ := hp
  refine J_icmp_eq (t := 1210) dL_law_230 (by decide) (fun _ => k M2 hR2) (fun e => absurd rfl e)
theorem lawc_3 (hR : Rel M) (hv : ∀ k, k < 5 → vp_in (z + nI k) (jL G)) (k : ∀ M2, Rel M2 → jLaw G nm d 1210 z M2 mc ms post) : jLaw G nm d 235 z M mc ms post := by
  unfold jLaw at *
  refine J_aload_1 dL_law_235 ?_
  refine J_aload_0 dL_law_236 ?_
  refine J_iload_3 dL_law_237 ?_
  refine J_iconst (1 : Int32) dL_law_238 (by decide) ?_
  refine J_iadd dL_law_239 ?_
  refine J_ialdO (N := jL G) (f := jxs G) dL_law_240 rfl (hv 1 (by omega)) ?_
  refine J_aload_0 dL_law_241 ?_
  refine J_iload_3 dL_law_242 ?_
  refine J_iconst (2 : Int32) dL_law_243 (by decide) ?_
  refine J_iadd dL_law_244 ?_
  refine J_ialdO (N := jL G) (f := jxs G) dL_law_245 rfl (hv 2 (by omega)) ?_
  refine L_callVI (As := [.int (jxs G (z + nI 1).toNatClampNeg), .int (jxs G (z + nI 2).toNatClampNeg)]) (rest := []) dL_law_246 vl_L_27 jlt_0 jsh_0 (RX7, TX7, 8) rfl rfl (call_suit (d := d) (P := jPI) hR (jxs G (z + nI 1).toNatClampNeg) (jxs G (z + nI 2).toNatClampNeg) (fun r M' h => ⟨rfl, h⟩)) rfl rfl (Nat.le_of_ble_eq_true rfl) (Nat.le_refl _) (Nat.le_refl _) (fun r1 M1 hC => ?_)
  refine J_aload_2 dL_law_249 ?_
  refine J_aload_0 dL_law_250 ?_
  refine J_iload_3 dL_law_251 ?_
  refine J_iconst (1 : Int32) dL_law_252 (by decide) ?_
  refine J_iadd dL_law_253 ?_
  refine J_ialdO (N := jL G) (f := jxs G) dL_law_254 rfl (hv 1 (by omega)) ?_
  refine J_aload_0 dL_law_255 ?_
  refine J_iload_3 dL_law_256 ?_
  refine J_iconst (2 : Int32) dL_law_257 (by decide) ?_
  refine J_iadd dL_law_258 ?_
  refine J_ialdO (N := jL G) (f := jxs G) dL_law_259 rfl (hv 2 (by omega)) ?_
  refine L_callVI (As := [.int (jxs G (z + nI 1).toNatClampNeg), .int (jxs G (z + nI 2).toNatClampNeg)]) (rest := [.int r1]) dL_law_260 vl_L_31 jlt_117 jsh_117 (RX8, TX8, 31) rfl rfl hC rfl rfl (Nat.le_of_ble_eq_true rfl) (Nat.le_refl _) (Nat.le_refl _) (fun r2 M2 hp => ?_)
  obtain ⟨rfl, hR2⟩ := hp
  refine J_icmp_eq (t := 1210) dL_law_263 (by decide) (fun _ => k M2 hR2) (fun e => absurd rfl e)
theorem lawc_4 (hR : Rel M) (hv : ∀ k, k < 5 → vp_in (z + nI k) (jL G)) (k : ∀ M2, Rel M2 → jLaw G nm d 1210 z M2 mc ms post) : jLaw G nm d 268 z M mc ms post := by
  unfold jLaw at *
  refine J_aload_1 dL_law_268 ?_
  refine J_aload_0 dL_law_269 ?_
  refine J_iload_3 dL_law_270 ?_
  refine J_iconst (1 : Int32) dL_law_271 (by decide) ?_
  refine J_iadd dL_law_272 ?_
  refine J_ialdO (N := jL G) (f := jxs G) dL_law_273 rfl (hv 1 (by omega)) ?_
  refine J_aload_0 dL_law_274 ?_
  refine J_iload_3 dL_law_275 ?_
  refine J_iconst (2 : Int32) dL_law_276 (by decide) ?_
  refine J_iadd dL_law_277 ?_
  refine J_ialdO (N := jL G) (f := jxs G) dL_law_278 rfl (hv 2 (by omega)) ?_
  refine L_callVI (As := [.int (jxs G (z + nI 1).toNatClampNeg), .int (jxs G (z + nI 2).toNatClampNeg)]) (rest := []) dL_law_279 vl_L_32 jlt_0 jsh_0 (RX7, TX7, 8) rfl rfl (call_of (d := d) (P := jPI) hR (jxs G (z + nI 1).toNatClampNeg) (jxs G (z + nI 2).toNatClampNeg) (fun r M' h => ⟨rfl, h⟩)) rfl rfl (Nat.le_of_ble_eq_true rfl) (Nat.le_refl _) (Nat.le_refl _) (fun r1 M1 hC => ?_)
  refine J_aload_2 dL_law_282 ?_
  refine J_aload_0 dL_law_283 ?_
  refine J_iload_3 dL_law_284 ?_
  refine J_iconst (1 : Int32) dL_law_285 (by decide) ?_
  refine J_iadd dL_law_286 ?_
  refine J_ialdO (N := jL G) (f := jxs G) dL_law_287 rfl (hv 1 (by omega)) ?_
  refine J_aload_0 dL_law_288 ?_
  refine J_iload_3 dL_law_289 ?_
  refine J_iconst (2 : Int32) dL_law_290 (by decide) ?_
  refine J_iadd dL_law_291 ?_
  refine J_ialdO (N := jL G) (f := jxs G) dL_law_292 rfl (hv 2 (by omega)) ?_
  refine L_callVI (As := [.int (jxs G (z + nI 1).toNatClampNeg), .int (jxs G (z + nI 2).toNatClampNeg)]) (rest := [.int r1]) dL_law_293 vl_L_35 jlt_117 jsh_117 (RX8, TX8, 31) rfl rfl hC rfl rfl (Nat.le_of_ble_eq_true rfl) (Nat.le_refl _) (Nat.le_refl _) (fun r2 M2 hp => ?_)
  obtain ⟨rfl, hR2⟩ := hp
  refine J_icmp_eq (t := 1210) dL_law_296 (by decide) (fun _ => k M2 hR2) (fun e => absurd rfl e)
theorem lawc_5 (hR : Rel M) (hv : ∀ k, k < 5 → vp_in (z + nI k) (jL G)) (k : ∀ M2, Rel M2 → jLaw G nm d 1210 z M2 mc ms post) : jLaw G nm d 301 z M mc ms post := by
  unfold jLaw at *
  refine J_aload_1 dL_law_301 ?_
  refine J_aload_0 dL_law_302 ?_
  refine J_iload_3 dL_law_303 ?_
  refine J_iconst (1 : Int32) dL_law_304 (by decide) ?_
  refine J_iadd dL_law_305 ?_
  refine J_ialdO (N := jL G) (f := jxs G) dL_law_306 rfl (hv 1 (by omega)) ?_
  refine J_aload_0 dL_law_307 ?_
  refine J_iload_3 dL_law_308 ?_
  refine J_iconst (2 : Int32) dL_law_309 (by decide) ?_
  refine J_iadd dL_law_310 ?_
  refine J_ialdO (N := jL G) (f := jxs G) dL_law_311 rfl (hv 2 (by omega)) ?_
  refine L_callVI (As := [.int (jxs G (z + nI 1).toNatClampNeg), .int (jxs G (z + nI 2).toNatClampNeg)]) (rest := []) dL_law_312 vl_L_36 jlt_0 jsh_0 (RX7, TX7, 8) rfl rfl (call_judge (d := d) (P := jPI) hR (jxs G (z + nI 1).toNatClampNeg) (jxs G (z + nI 2).toNatClampNeg) (fun r M' h => ⟨rfl, h⟩)) rfl rfl (Nat.le_of_ble_eq_true rfl) (Nat.le_refl _) (Nat.le_refl _) (fun r1 M1 hC => ?_)
  refine J_aload_2 dL_law_315 ?_
  refine J_aload_0 dL_law_316 ?_
  refine J_iload_3 dL_law_317 ?_
  refine J_iconst (1 : Int32) dL_law_318 (by decide) ?_
  refine J_iadd dL_law_319 ?_
  refine J_ialdO (N := jL G) (f := jxs G) dL_law_320 rfl (hv 1 (by omega)) ?_
  refine J_aload_0 dL_law_321 ?_
  refine J_iload_3 dL_law_322 ?_
  refine J_iconst (2 : Int32) dL_law_323 (by decide) ?_
  refine J_iadd dL_law_324 ?_
  refine J_ialdO (N := jL G) (f := jxs G) dL_law_325 rfl (hv 2 (by omega)) ?_
  refine L_callVI (As := [.int (jxs G (z + nI 1).toNatClampNeg), .int (jxs G (z + nI 2).toNatClampNeg)]) (rest := [.int r1]) dL_law_326 vl_L_39 jlt_117 jsh_117 (RX8, TX8, 31) rfl rfl hC rfl rfl (Nat.le_of_ble_eq_true rfl) (Nat.le_refl _) (Nat.le_refl _) (fun r2 M2 hp => ?_)
  obtain ⟨rfl, hR2⟩ := hp
  refine J_icmp_eq (t := 1210) dL_law_329 (by decide) (fun _ => k M2 hR2) (fun e => absurd rfl e)
theorem lawc_6 (hR : Rel M) (hv : ∀ k, k < 5 → vp_in (z + nI k) (jL G)) (k : ∀ M2, Rel M2 → jLaw G nm d 1210 z M2 mc ms post) : jLaw G nm d 334 z M mc ms post := by
  unfold jLaw at *
  refine J_aload_1 dL_law_334 ?_
  refine J_aload_0 dL_law_335 ?_
  refine J_iload_3 dL_law_336 ?_
  refine J_iconst (1 : Int32) dL_law_337 (by decide) ?_
  refine J_iadd dL_law_338 ?_
  refine J_ialdO (N := jL G) (f := jxs G) dL_law_339 rfl (hv 1 (by omega)) ?_
  refine J_aload_0 dL_law_340 ?_
  refine J_iload_3 dL_law_341 ?_
  refine J_iconst (2 : Int32) dL_law_342 (by decide) ?_
  refine J_iadd dL_law_343 ?_
  refine J_ialdO (N := jL G) (f := jxs G) dL_law_344 rfl (hv 2 (by omega)) ?_
  refine L_callVI (As := [.int (jxs G (z + nI 1).toNatClampNeg), .int (jxs G (z + nI 2).toNatClampNeg)]) (rest := []) dL_law_345 vl_L_40 jlt_0 jsh_0 (RX7, TX7, 8) rfl rfl (call_at (d := d) (P := jPI) hR (jxs G (z + nI 1).toNatClampNeg) (jxs G (z + nI 2).toNatClampNeg) (fun r M' h => ⟨rfl, h⟩)) rfl rfl (Nat.le_of_ble_eq_true rfl) (Nat.le_refl _) (Nat.le_refl _) (fun r1 M1 hC => ?_)
  refine J_aload_2 dL_law_348 ?_
  refine J_aload_0 dL_law_349 ?_
  refine J_iload_3 dL_law_350 ?_
  refine J_iconst (1 : Int32) dL_law_351 (by decide) ?_
  refine J_iadd dL_law_352 ?_
  refine J_ialdO (N := jL G) (f := jxs G) dL_law_353 rfl (hv 1 (by omega)) ?_
  refine J_aload_0 dL_law_354 ?_
  refine J_iload_3 dL_law_355 ?_
  refine J_iconst (2 : Int32) dL_law_356 (by decide) ?_
  refine J_iadd dL_law_357 ?_
  refine J_ialdO (N := jL G) (f := jxs G) dL_law_358 rfl (hv 2 (by omega)) ?_
  refine L_callVI (As := [.int (jxs G (z + nI 1).toNatClampNeg), .int (jxs G (z + nI 2).toNatClampNeg)]) (rest := [.int r1]) dL_law_359 vl_L_43 jlt_117 jsh_117 (RX8, TX8, 31) rfl rfl hC rfl rfl (Nat.le_of_ble_eq_true rfl) (Nat.le_refl _) (Nat.le_refl _) (fun r2 M2 hp => ?_)
  obtain ⟨rfl, hR2⟩ := hp
  refine J_icmp_eq (t := 1210) dL_law_362 (by decide) (fun _ => k M2 hR2) (fun e => absurd rfl e)
theorem lawc_7 (hR : Rel M) (hv : ∀ k, k < 5 → vp_in (z + nI k) (jL G)) (k : ∀ M2, Rel M2 → jLaw G nm d 1210 z M2 mc ms post) : jLaw G nm d 367 z M mc ms post := by
  unfold jLaw at *
  refine J_aload_1 dL_law_367 ?_
  refine J_aload_0 dL_law_368 ?_
  refine J_iload_3 dL_law_369 ?_
  refine J_iconst (1 : Int32) dL_law_370 (by decide) ?_
  refine J_iadd dL_law_371 ?_
  refine J_ialdO (N := jL G) (f := jxs G) dL_law_372 rfl (hv 1 (by omega)) ?_
  refine J_aload_0 dL_law_373 ?_
  refine J_iload_3 dL_law_374 ?_
  refine J_iconst (2 : Int32) dL_law_375 (by decide) ?_
  refine J_iadd dL_law_376 ?_
  refine J_ialdO (N := jL G) (f := jxs G) dL_law_377 rfl (hv 2 (by omega)) ?_
  refine J_aload_0 dL_law_378 ?_
  refine J_iload_3 dL_law_379 ?_
  refine J_iconst (3 : Int32) dL_law_380 (by decide) ?_
  refine J_iadd dL_law_381 ?_
  refine J_ialdO (N := jL G) (f := jxs G) dL_law_382 rfl (hv 3 (by omega)) ?_
  refine L_callVI (As := [.int (jxs G (z + nI 1).toNatClampNeg), .int (jxs G (z + nI 2).toNatClampNeg), .int (jxs G (z + nI 3).toNatClampNeg)]) (rest := []) dL_law_383 vl_L_44 jlt_0 jsh_0 (RX7, TX7, 8) rfl rfl (call_row (d := d) (P := jPI) hR (jxs G (z + nI 1).toNatClampNeg) (jxs G (z + nI 2).toNatClampNeg) (jxs G (z + nI 3).toNatClampNeg) (fun r M' h => ⟨rfl, h⟩)) rfl rfl (Nat.le_of_ble_eq_true rfl) (Nat.le_refl _) (Nat.le_refl _) (fun r1 M1 hC => ?_)
  refine J_aload_2 dL_law_386 ?_
  refine J_aload_0 dL_law_387 ?_
  refine J_iload_3 dL_law_388 ?_
  refine J_iconst (1 : Int32) dL_law_389 (by decide) ?_
  refine J_iadd dL_law_390 ?_
  refine J_ialdO (N := jL G) (f := jxs G) dL_law_391 rfl (hv 1 (by omega)) ?_
  refine J_aload_0 dL_law_392 ?_
  refine J_iload_3 dL_law_393 ?_
  refine J_iconst (2 : Int32) dL_law_394 (by decide) ?_
  refine J_iadd dL_law_395 ?_
  refine J_ialdO (N := jL G) (f := jxs G) dL_law_396 rfl (hv 2 (by omega)) ?_
  refine J_aload_0 dL_law_397 ?_
  refine J_iload_3 dL_law_398 ?_
  refine J_iconst (3 : Int32) dL_law_399 (by decide) ?_
  refine J_iadd dL_law_400 ?_
  refine J_ialdO (N := jL G) (f := jxs G) dL_law_401 rfl (hv 3 (by omega)) ?_
  refine L_callVI (As := [.int (jxs G (z + nI 1).toNatClampNeg), .int (jxs G (z + nI 2).toNatClampNeg), .int (jxs G (z + nI 3).toNatClampNeg)]) (rest := [.int r1]) dL_law_402 vl_L_48 jlt_117 jsh_117 (RX8, TX8, 31) rfl rfl hC rfl rfl (Nat.le_of_ble_eq_true rfl) (Nat.le_refl _) (Nat.le_refl _) (fun r2 M2 hp => ?_)
  obtain ⟨rfl, hR2⟩ := hp
  refine J_icmp_eq (t := 1210) dL_law_405 (by decide) (fun _ => k M2 hR2) (fun e => absurd rfl e)
theorem lawc_8 (hR : Rel M) (hv : ∀ k, k < 5 → vp_in (z + nI k) (jL G)) (k : ∀ M2, Rel M2 → jLaw G nm d 1210 z M2 mc ms post) : jLaw G nm d 410 z M mc ms post := by
  unfold jLaw at *
  refine J_aload_1 dL_law_410 ?_
  refine J_aload_0 dL_law_411 ?_
  refine J_iload_3 dL_law_412 ?_
  refine J_iconst (1 : Int32) dL_law_413 (by decide) ?_
  refine J_iadd dL_law_414 ?_
  refine J_ialdO (N := jL G) (f := jxs G) dL_law_415 rfl (hv 1 (by omega)) ?_
  refine L_callVI (As := [.int (jxs G (z + nI 1).toNatClampNeg)]) (rest := []) dL_law_416 vl_L_49 jlt_0 jsh_0 (RX7, TX7, 8) rfl rfl (call_told (d := d) (P := jPI) hR (jxs G (z + nI 1).toNatClampNeg) (fun r M' h => ⟨rfl, h⟩)) rfl rfl (Nat.le_of_ble_eq_true rfl) (Nat.le_refl _) (Nat.le_refl _) (fun r1 M1 hC => ?_)
  refine J_aload_2 dL_law_419 ?_
  refine J_aload_0 dL_law_420 ?_
  refine J_iload_3 dL_law_421 ?_
  refine J_iconst (1 : Int32) dL_law_422 (by decide) ?_
  refine J_iadd dL_law_423 ?_
  refine J_ialdO (N := jL G) (f := jxs G) dL_law_424 rfl (hv 1 (by omega)) ?_
  refine L_callVI (As := [.int (jxs G (z + nI 1).toNatClampNeg)]) (rest := [.int r1]) dL_law_425 vl_L_52 jlt_117 jsh_117 (RX8, TX8, 31) rfl rfl hC rfl rfl (Nat.le_of_ble_eq_true rfl) (Nat.le_refl _) (Nat.le_refl _) (fun r2 M2 hp => ?_)
  obtain ⟨rfl, hR2⟩ := hp
  refine J_icmp_eq (t := 1210) dL_law_428 (by decide) (fun _ => k M2 hR2) (fun e => absurd rfl e)
theorem lawc_9 (hR : Rel M) (hv : ∀ k, k < 5 → vp_in (z + nI k) (jL G)) (k : ∀ M2, Rel M2 → jLaw G nm d 1210 z M2 mc ms post) : jLaw G nm d 433 z M mc ms post := by
  unfold jLaw at *
  refine J_aload_1 dL_law_433 ?_
  refine J_aload_0 dL_law_434 ?_
  refine J_iload_3 dL_law_435 ?_
  refine J_iconst (1 : Int32) dL_law_436 (by decide) ?_
  refine J_iadd dL_law_437 ?_
  refine J_ialdO (N := jL G) (f := jxs G) dL_law_438 rfl (hv 1 (by omega)) ?_
  refine J_aload_0 dL_law_439 ?_
  refine J_iload_3 dL_law_440 ?_
  refine J_iconst (2 : Int32) dL_law_441 (by decide) ?_
  refine J_iadd dL_law_442 ?_
  refine J_ialdO (N := jL G) (f := jxs G) dL_law_443 rfl (hv 2 (by omega)) ?_
  refine J_aload_0 dL_law_444 ?_
  refine J_iload_3 dL_law_445 ?_
  refine J_iconst (3 : Int32) dL_law_446 (by decide) ?_
  refine J_iadd dL_law_447 ?_
  refine J_ialdO (N := jL G) (f := jxs G) dL_law_448 rfl (hv 3 (by omega)) ?_
  refine L_callVI (As := [.int (jxs G (z + nI 1).toNatClampNeg), .int (jxs G (z + nI 2).toNatClampNeg), .int (jxs G (z + nI 3).toNatClampNeg)]) (rest := []) dL_law_449 vl_L_53 jlt_0 jsh_0 (RX7, TX7, 8) rfl rfl (call_score (d := d) (P := jPI) hR (jxs G (z + nI 1).toNatClampNeg) (jxs G (z + nI 2).toNatClampNeg) (jxs G (z + nI 3).toNatClampNeg) (fun r M' h => ⟨rfl, h⟩)) rfl rfl (Nat.le_of_ble_eq_true rfl) (Nat.le_refl _) (Nat.le_refl _) (fun r1 M1 hC => ?_)
  refine J_aload_2 dL_law_452 ?_
  refine J_aload_0 dL_law_453 ?_
  refine J_iload_3 dL_law_454 ?_
  refine J_iconst (1 : Int32) dL_law_455 (by decide) ?_
  refine J_iadd dL_law_456 ?_
  refine J_ialdO (N := jL G) (f := jxs G) dL_law_457 rfl (hv 1 (by omega)) ?_
  refine J_aload_0 dL_law_458 ?_
  refine J_iload_3 dL_law_459 ?_
  refine J_iconst (2 : Int32) dL_law_460 (by decide) ?_
  refine J_iadd dL_law_461 ?_
  refine J_ialdO (N := jL G) (f := jxs G) dL_law_462 rfl (hv 2 (by omega)) ?_
  refine J_aload_0 dL_law_463 ?_
  refine J_iload_3 dL_law_464 ?_
  refine J_iconst (3 : Int32) dL_law_465 (by decide) ?_
  refine J_iadd dL_law_466 ?_
  refine J_ialdO (N := jL G) (f := jxs G) dL_law_467 rfl (hv 3 (by omega)) ?_
  refine L_callVI (As := [.int (jxs G (z + nI 1).toNatClampNeg), .int (jxs G (z + nI 2).toNatClampNeg), .int (jxs G (z + nI 3).toNatClampNeg)]) (rest := [.int r1]) dL_law_468 vl_L_56 jlt_117 jsh_117 (RX8, TX8, 31) rfl rfl hC rfl rfl (Nat.le_of_ble_eq_true rfl) (Nat.le_refl _) (Nat.le_refl _) (fun r2 M2 hp => ?_)
  obtain ⟨rfl, hR2⟩ := hp
  refine J_icmp_eq (t := 1210) dL_law_471 (by decide) (fun _ => k M2 hR2) (fun e => absurd rfl e)
theorem lawc_10 (hR : Rel M) (hv : ∀ k, k < 5 → vp_in (z + nI k) (jL G)) (k : ∀ M2, Rel M2 → jLaw G nm d 1210 z M2 mc ms post) : jLaw G nm d 476 z M mc ms post := by
  unfold jLaw at *
  refine J_aload_1 dL_law_476 ?_
  refine J_aload_0 dL_law_477 ?_
  refine J_iload_3 dL_law_478 ?_
  refine J_iconst (1 : Int32) dL_law_479 (by decide) ?_
  refine J_iadd dL_law_480 ?_
  refine J_ialdO (N := jL G) (f := jxs G) dL_law_481 rfl (hv 1 (by omega)) ?_
  refine J_aload_0 dL_law_482 ?_
  refine J_iload_3 dL_law_483 ?_
  refine J_iconst (2 : Int32) dL_law_484 (by decide) ?_
  refine J_iadd dL_law_485 ?_
  refine J_ialdO (N := jL G) (f := jxs G) dL_law_486 rfl (hv 2 (by omega)) ?_
  refine J_aload_0 dL_law_487 ?_
  refine J_iload_3 dL_law_488 ?_
  refine J_iconst (3 : Int32) dL_law_489 (by decide) ?_
  refine J_iadd dL_law_490 ?_
  refine J_ialdO (N := jL G) (f := jxs G) dL_law_491 rfl (hv 3 (by omega)) ?_
  refine L_callVI (As := [.int (jxs G (z + nI 1).toNatClampNeg), .int (jxs G (z + nI 2).toNatClampNeg), .int (jxs G (z + nI 3).toNatClampNeg)]) (rest := []) dL_law_492 vl_L_57 jlt_0 jsh_0 (RX7, TX7, 8) rfl rfl (call_decides (d := d) (P := jPI) hR (jxs G (z + nI 1).toNatClampNeg) (jxs G (z + nI 2).toNatClampNeg) (jxs G (z + nI 3).toNatClampNeg) (fun r M' h => ⟨rfl, h⟩)) rfl rfl (Nat.le_of_ble_eq_true rfl) (Nat.le_refl _) (Nat.le_refl _) (fun r1 M1 hC => ?_)
  refine J_aload_2 dL_law_495 ?_
  refine J_aload_0 dL_law_496 ?_
  refine J_iload_3 dL_law_497 ?_
  refine J_iconst (1 : Int32) dL_law_498 (by decide) ?_
  refine J_iadd dL_law_499 ?_
  refine J_ialdO (N := jL G) (f := jxs G) dL_law_500 rfl (hv 1 (by omega)) ?_
  refine J_aload_0 dL_law_501 ?_
  refine J_iload_3 dL_law_502 ?_
  refine J_iconst (2 : Int32) dL_law_503 (by decide) ?_
  refine J_iadd dL_law_504 ?_
  refine J_ialdO (N := jL G) (f := jxs G) dL_law_505 rfl (hv 2 (by omega)) ?_
  refine J_aload_0 dL_law_506 ?_
  refine J_iload_3 dL_law_507 ?_
  refine J_iconst (3 : Int32) dL_law_508 (by decide) ?_
  refine J_iadd dL_law_509 ?_
  refine J_ialdO (N := jL G) (f := jxs G) dL_law_510 rfl (hv 3 (by omega)) ?_
  refine L_callVI (As := [.int (jxs G (z + nI 1).toNatClampNeg), .int (jxs G (z + nI 2).toNatClampNeg), .int (jxs G (z + nI 3).toNatClampNeg)]) (rest := [.int r1]) dL_law_511 vl_L_60 jlt_117 jsh_117 (RX8, TX8, 31) rfl rfl hC rfl rfl (Nat.le_of_ble_eq_true rfl) (Nat.le_refl _) (Nat.le_refl _) (fun r2 M2 hp => ?_)
  obtain ⟨rfl, hR2⟩ := hp
  refine J_icmp_eq (t := 1210) dL_law_514 (by decide) (fun _ => k M2 hR2) (fun e => absurd rfl e)
theorem lawc_11 (hR : Rel M) (hv : ∀ k, k < 5 → vp_in (z + nI k) (jL G)) (k : ∀ M2, Rel M2 → jLaw G nm d 1210 z M2 mc ms post) : jLaw G nm d 519 z M mc ms post := by
  unfold jLaw at *
  refine J_aload_1 dL_law_519 ?_
  refine J_aload_0 dL_law_520 ?_
  refine J_iload_3 dL_law_521 ?_
  refine J_iconst (1 : Int32) dL_law_522 (by decide) ?_
  refine J_iadd dL_law_523 ?_
  refine J_ialdO (N := jL G) (f := jxs G) dL_law_524 rfl (hv 1 (by omega)) ?_
  refine J_aload_0 dL_law_525 ?_
  refine J_iload_3 dL_law_526 ?_
  refine J_iconst (2 : Int32) dL_law_527 (by decide) ?_
  refine J_iadd dL_law_528 ?_
  refine J_ialdO (N := jL G) (f := jxs G) dL_law_529 rfl (hv 2 (by omega)) ?_
  refine L_callVI (As := [.int (jxs G (z + nI 1).toNatClampNeg), .int (jxs G (z + nI 2).toNatClampNeg)]) (rest := []) dL_law_530 vl_L_61 jlt_0 jsh_0 (RX7, TX7, 8) rfl rfl (call_hear (d := d) (P := jPI) hR (jxs G (z + nI 1).toNatClampNeg) (jxs G (z + nI 2).toNatClampNeg) (fun r M' h => ⟨rfl, h⟩)) rfl rfl (Nat.le_of_ble_eq_true rfl) (Nat.le_refl _) (Nat.le_refl _) (fun r1 M1 hC => ?_)
  refine J_aload_2 dL_law_533 ?_
  refine J_aload_0 dL_law_534 ?_
  refine J_iload_3 dL_law_535 ?_
  refine J_iconst (1 : Int32) dL_law_536 (by decide) ?_
  refine J_iadd dL_law_537 ?_
  refine J_ialdO (N := jL G) (f := jxs G) dL_law_538 rfl (hv 1 (by omega)) ?_
  refine J_aload_0 dL_law_539 ?_
  refine J_iload_3 dL_law_540 ?_
  refine J_iconst (2 : Int32) dL_law_541 (by decide) ?_
  refine J_iadd dL_law_542 ?_
  refine J_ialdO (N := jL G) (f := jxs G) dL_law_543 rfl (hv 2 (by omega)) ?_
  refine L_callVI (As := [.int (jxs G (z + nI 1).toNatClampNeg), .int (jxs G (z + nI 2).toNatClampNeg)]) (rest := [.int r1]) dL_law_544 vl_L_64 jlt_117 jsh_117 (RX8, TX8, 31) rfl rfl hC rfl rfl (Nat.le_of_ble_eq_true rfl) (Nat.le_refl _) (Nat.le_refl _) (fun r2 M2 hp => ?_)
  obtain ⟨rfl, hR2⟩ := hp
  refine J_icmp_eq (t := 1210) dL_law_547 (by decide) (fun _ => k M2 hR2) (fun e => absurd rfl e)
theorem lawc_12 (hR : Rel M) (hv : ∀ k, k < 5 → vp_in (z + nI k) (jL G)) (k : ∀ M2, Rel M2 → jLaw G nm d 1210 z M2 mc ms post) : jLaw G nm d 552 z M mc ms post := by
  unfold jLaw at *
  refine J_aload_1 dL_law_552 ?_
  refine J_aload_0 dL_law_553 ?_
  refine J_iload_3 dL_law_554 ?_
  refine J_iconst (1 : Int32) dL_law_555 (by decide) ?_
  refine J_iadd dL_law_556 ?_
  refine J_ialdO (N := jL G) (f := jxs G) dL_law_557 rfl (hv 1 (by omega)) ?_
  refine J_aload_0 dL_law_558 ?_
  refine J_iload_3 dL_law_559 ?_
  refine J_iconst (2 : Int32) dL_law_560 (by decide) ?_
  refine J_iadd dL_law_561 ?_
  refine J_ialdO (N := jL G) (f := jxs G) dL_law_562 rfl (hv 2 (by omega)) ?_
  refine J_if_eq (t := 570) dL_law_563 (by decide) (fun c0 => ?_) (fun c0 => ?_)
  · refine J_iconst (0 : Int32) dL_law_570 (by decide) ?_
    refine L_callVI (As := [.int (jxs G (z + nI 1).toNatClampNeg), .int 0]) (rest := []) dL_law_571 vl_L_65 jlt_0 jsh_0 (RX7, TX7, 8) rfl rfl (call_enter (d := d) (P := jPI) hR (jxs G (z + nI 1).toNatClampNeg) (f := 0) (by omega) (fun r M' h => ⟨rfl, h⟩)) rfl rfl (Nat.le_of_ble_eq_true rfl) (Nat.le_refl _) (Nat.le_refl _) (fun r1 M1 hC => ?_)
    refine J_aload_2 dL_law_574 ?_
    refine J_aload_0 dL_law_575 ?_
    refine J_iload_3 dL_law_576 ?_
    refine J_iconst (1 : Int32) dL_law_577 (by decide) ?_
    refine J_iadd dL_law_578 ?_
    refine J_ialdO (N := jL G) (f := jxs G) dL_law_579 rfl (hv 1 (by omega)) ?_
    refine J_aload_0 dL_law_580 ?_
    refine J_iload_3 dL_law_581 ?_
    refine J_iconst (2 : Int32) dL_law_582 (by decide) ?_
    refine J_iadd dL_law_583 ?_
    refine J_ialdO (N := jL G) (f := jxs G) dL_law_584 rfl (hv 2 (by omega)) ?_
    refine J_if_eq (t := 592) dL_law_585 (by decide) (fun _ => ?_) (fun e => absurd c0 e)
    refine J_iconst (0 : Int32) dL_law_592 (by decide) ?_
    refine L_callVI (As := [.int (jxs G (z + nI 1).toNatClampNeg), .int 0]) (rest := [.int r1]) dL_law_593 vl_L_69 jlt_117 jsh_117 (RX8, TX8, 31) rfl rfl hC rfl rfl (Nat.le_of_ble_eq_true rfl) (Nat.le_refl _) (Nat.le_refl _) (fun r2 M2 hp => ?_)
    obtain ⟨rfl, hR2⟩ := hp
    refine J_icmp_eq (t := 1210) dL_law_596 (by decide) (fun _ => k M2 hR2) (fun e => absurd rfl e)
  · refine J_iconst (1 : Int32) dL_law_566 (by decide) ?_
    refine J_goto (t := 571) dL_law_567 (by decide) ?_
    refine L_callVI (As := [.int (jxs G (z + nI 1).toNatClampNeg), .int 1]) (rest := []) dL_law_571 vl_L_65 jlt_0 jsh_0 (RX7, TX7, 8) rfl rfl (call_enter (d := d) (P := jPI) hR (jxs G (z + nI 1).toNatClampNeg) (f := 1) (by omega) (fun r M' h => ⟨rfl, h⟩)) rfl rfl (Nat.le_of_ble_eq_true rfl) (Nat.le_refl _) (Nat.le_refl _) (fun r1 M1 hC => ?_)
    refine J_aload_2 dL_law_574 ?_
    refine J_aload_0 dL_law_575 ?_
    refine J_iload_3 dL_law_576 ?_
    refine J_iconst (1 : Int32) dL_law_577 (by decide) ?_
    refine J_iadd dL_law_578 ?_
    refine J_ialdO (N := jL G) (f := jxs G) dL_law_579 rfl (hv 1 (by omega)) ?_
    refine J_aload_0 dL_law_580 ?_
    refine J_iload_3 dL_law_581 ?_
    refine J_iconst (2 : Int32) dL_law_582 (by decide) ?_
    refine J_iadd dL_law_583 ?_
    refine J_ialdO (N := jL G) (f := jxs G) dL_law_584 rfl (hv 2 (by omega)) ?_
    refine J_if_eq (t := 592) dL_law_585 (by decide) (fun e => absurd e c0) (fun _ => ?_)
    refine J_iconst (1 : Int32) dL_law_588 (by decide) ?_
    refine J_goto (t := 593) dL_law_589 (by decide) ?_
    refine L_callVI (As := [.int (jxs G (z + nI 1).toNatClampNeg), .int 1]) (rest := [.int r1]) dL_law_593 vl_L_69 jlt_117 jsh_117 (RX8, TX8, 31) rfl rfl hC rfl rfl (Nat.le_of_ble_eq_true rfl) (Nat.le_refl _) (Nat.le_refl _) (fun r2 M2 hp => ?_)
    obtain ⟨rfl, hR2⟩ := hp
    refine J_icmp_eq (t := 1210) dL_law_596 (by decide) (fun _ => k M2 hR2) (fun e => absurd rfl e)
theorem lawc_13 (hR : Rel M) (hv : ∀ k, k < 5 → vp_in (z + nI k) (jL G)) (k : ∀ M2, Rel M2 → jLaw G nm d 1210 z M2 mc ms post) : jLaw G nm d 601 z M mc ms post := by
  unfold jLaw at *
  refine J_aload_1 dL_law_601 ?_
  refine J_aload_0 dL_law_602 ?_
  refine J_iload_3 dL_law_603 ?_
  refine J_iconst (1 : Int32) dL_law_604 (by decide) ?_
  refine J_iadd dL_law_605 ?_
  refine J_ialdO (N := jL G) (f := jxs G) dL_law_606 rfl (hv 1 (by omega)) ?_
  refine L_callVI (As := [.int (jxs G (z + nI 1).toNatClampNeg)]) (rest := []) dL_law_607 vl_L_70 jlt_0 jsh_0 (RX7, TX7, 8) rfl rfl (call_entry (d := d) (P := jPI) hR (jxs G (z + nI 1).toNatClampNeg) (fun r M' h => ⟨rfl, h⟩)) rfl rfl (Nat.le_of_ble_eq_true rfl) (Nat.le_refl _) (Nat.le_refl _) (fun r1 M1 hC => ?_)
  refine J_aload_2 dL_law_610 ?_
  refine J_aload_0 dL_law_611 ?_
  refine J_iload_3 dL_law_612 ?_
  refine J_iconst (1 : Int32) dL_law_613 (by decide) ?_
  refine J_iadd dL_law_614 ?_
  refine J_ialdO (N := jL G) (f := jxs G) dL_law_615 rfl (hv 1 (by omega)) ?_
  refine L_callVI (As := [.int (jxs G (z + nI 1).toNatClampNeg)]) (rest := [.int r1]) dL_law_616 vl_L_73 jlt_117 jsh_117 (RX8, TX8, 31) rfl rfl hC rfl rfl (Nat.le_of_ble_eq_true rfl) (Nat.le_refl _) (Nat.le_refl _) (fun r2 M2 hp => ?_)
  obtain ⟨rfl, hR2⟩ := hp
  refine J_icmp_eq (t := 1210) dL_law_619 (by decide) (fun _ => k M2 hR2) (fun e => absurd rfl e)
theorem lawc_14 (hR : Rel M) (hv : ∀ k, k < 5 → vp_in (z + nI k) (jL G)) (k : ∀ M2, Rel M2 → jLaw G nm d 1210 z M2 mc ms post) : jLaw G nm d 624 z M mc ms post := by
  unfold jLaw at *
  refine J_aload_1 dL_law_624 ?_
  refine J_aload_0 dL_law_625 ?_
  refine J_iload_3 dL_law_626 ?_
  refine J_iconst (1 : Int32) dL_law_627 (by decide) ?_
  refine J_iadd dL_law_628 ?_
  refine J_ialdO (N := jL G) (f := jxs G) dL_law_629 rfl (hv 1 (by omega)) ?_
  refine J_aload_0 dL_law_630 ?_
  refine J_iload_3 dL_law_631 ?_
  refine J_iconst (2 : Int32) dL_law_632 (by decide) ?_
  refine J_iadd dL_law_633 ?_
  refine J_ialdO (N := jL G) (f := jxs G) dL_law_634 rfl (hv 2 (by omega)) ?_
  refine J_aload_0 dL_law_635 ?_
  refine J_iload_3 dL_law_636 ?_
  refine J_iconst (3 : Int32) dL_law_637 (by decide) ?_
  refine J_iadd dL_law_638 ?_
  refine J_ialdO (N := jL G) (f := jxs G) dL_law_639 rfl (hv 3 (by omega)) ?_
  refine L_callVI (As := [.int (jxs G (z + nI 1).toNatClampNeg), .int (jxs G (z + nI 2).toNatClampNeg), .int (jxs G (z + nI 3).toNatClampNeg)]) (rest := []) dL_law_640 vl_L_74 jlt_0 jsh_0 (RX7, TX7, 8) rfl rfl (call_best (d := d) (P := jPI) hR (jxs G (z + nI 1).toNatClampNeg) (jxs G (z + nI 2).toNatClampNeg) (jxs G (z + nI 3).toNatClampNeg) (fun r M' h => ⟨rfl, h⟩)) rfl rfl (Nat.le_of_ble_eq_true rfl) (Nat.le_refl _) (Nat.le_refl _) (fun r1 M1 hC => ?_)
  refine J_aload_2 dL_law_643 ?_
  refine J_aload_0 dL_law_644 ?_
  refine J_iload_3 dL_law_645 ?_
  refine J_iconst (1 : Int32) dL_law_646 (by decide) ?_
  refine J_iadd dL_law_647 ?_
  refine J_ialdO (N := jL G) (f := jxs G) dL_law_648 rfl (hv 1 (by omega)) ?_
  refine J_aload_0 dL_law_649 ?_
  refine J_iload_3 dL_law_650 ?_
  refine J_iconst (2 : Int32) dL_law_651 (by decide) ?_
  refine J_iadd dL_law_652 ?_
  refine J_ialdO (N := jL G) (f := jxs G) dL_law_653 rfl (hv 2 (by omega)) ?_
  refine J_aload_0 dL_law_654 ?_
  refine J_iload_3 dL_law_655 ?_
  refine J_iconst (3 : Int32) dL_law_656 (by decide) ?_
  refine J_iadd dL_law_657 ?_
  refine J_ialdO (N := jL G) (f := jxs G) dL_law_658 rfl (hv 3 (by omega)) ?_
  refine L_callVI (As := [.int (jxs G (z + nI 1).toNatClampNeg), .int (jxs G (z + nI 2).toNatClampNeg), .int (jxs G (z + nI 3).toNatClampNeg)]) (rest := [.int r1]) dL_law_659 vl_L_77 jlt_117 jsh_117 (RX8, TX8, 31) rfl rfl hC rfl rfl (Nat.le_of_ble_eq_true rfl) (Nat.le_refl _) (Nat.le_refl _) (fun r2 M2 hp => ?_)
  obtain ⟨rfl, hR2⟩ := hp
  refine J_icmp_eq (t := 1210) dL_law_662 (by decide) (fun _ => k M2 hR2) (fun e => absurd rfl e)
theorem lawc_15 (hR : Rel M) (hv : ∀ k, k < 5 → vp_in (z + nI k) (jL G)) (k : ∀ M2, Rel M2 → jLaw G nm d 1210 z M2 mc ms post) : jLaw G nm d 667 z M mc ms post := by
  unfold jLaw at *
  refine J_aload_1 dL_law_667 ?_
  refine J_aload_0 dL_law_668 ?_
  refine J_iload_3 dL_law_669 ?_
  refine J_iconst (1 : Int32) dL_law_670 (by decide) ?_
  refine J_iadd dL_law_671 ?_
  refine J_ialdO (N := jL G) (f := jxs G) dL_law_672 rfl (hv 1 (by omega)) ?_
  refine J_aload_0 dL_law_673 ?_
  refine J_iload_3 dL_law_674 ?_
  refine J_iconst (2 : Int32) dL_law_675 (by decide) ?_
  refine J_iadd dL_law_676 ?_
  refine J_ialdO (N := jL G) (f := jxs G) dL_law_677 rfl (hv 2 (by omega)) ?_
  refine J_aload_0 dL_law_678 ?_
  refine J_iload_3 dL_law_679 ?_
  refine J_iconst (3 : Int32) dL_law_680 (by decide) ?_
  refine J_iadd dL_law_681 ?_
  refine J_ialdO (N := jL G) (f := jxs G) dL_law_682 rfl (hv 3 (by omega)) ?_
  refine L_callVI (As := [.int (jxs G (z + nI 1).toNatClampNeg), .int (jxs G (z + nI 2).toNatClampNeg), .int (jxs G (z + nI 3).toNatClampNeg)]) (rest := []) dL_law_683 vl_L_78 jlt_0 jsh_0 (RX7, TX7, 8) rfl rfl (call_shams (d := d) (P := jPI) hR (jxs G (z + nI 1).toNatClampNeg) (jxs G (z + nI 2).toNatClampNeg) (jxs G (z + nI 3).toNatClampNeg) (fun r M' h => ⟨rfl, h⟩)) rfl rfl (Nat.le_of_ble_eq_true rfl) (Nat.le_refl _) (Nat.le_refl _) (fun r1 M1 hC => ?_)
  refine J_aload_2 dL_law_686 ?_
  refine J_aload_0 dL_law_687 ?_
  refine J_iload_3 dL_law_688 ?_
  refine J_iconst (1 : Int32) dL_law_689 (by decide) ?_
  refine J_iadd dL_law_690 ?_
  refine J_ialdO (N := jL G) (f := jxs G) dL_law_691 rfl (hv 1 (by omega)) ?_
  refine J_aload_0 dL_law_692 ?_
  refine J_iload_3 dL_law_693 ?_
  refine J_iconst (2 : Int32) dL_law_694 (by decide) ?_
  refine J_iadd dL_law_695 ?_
  refine J_ialdO (N := jL G) (f := jxs G) dL_law_696 rfl (hv 2 (by omega)) ?_
  refine J_aload_0 dL_law_697 ?_
  refine J_iload_3 dL_law_698 ?_
  refine J_iconst (3 : Int32) dL_law_699 (by decide) ?_
  refine J_iadd dL_law_700 ?_
  refine J_ialdO (N := jL G) (f := jxs G) dL_law_701 rfl (hv 3 (by omega)) ?_
  refine L_callVI (As := [.int (jxs G (z + nI 1).toNatClampNeg), .int (jxs G (z + nI 2).toNatClampNeg), .int (jxs G (z + nI 3).toNatClampNeg)]) (rest := [.int r1]) dL_law_702 vl_L_81 jlt_117 jsh_117 (RX8, TX8, 31) rfl rfl hC rfl rfl (Nat.le_of_ble_eq_true rfl) (Nat.le_refl _) (Nat.le_refl _) (fun r2 M2 hp => ?_)
  obtain ⟨rfl, hR2⟩ := hp
  refine J_icmp_eq (t := 1210) dL_law_705 (by decide) (fun _ => k M2 hR2) (fun e => absurd rfl e)
theorem lawc_16 (hR : Rel M) (hv : ∀ k, k < 5 → vp_in (z + nI k) (jL G)) (k : ∀ M2, Rel M2 → jLaw G nm d 1210 z M2 mc ms post) : jLaw G nm d 710 z M mc ms post := by
  unfold jLaw at *
  refine J_aload_1 dL_law_710 ?_
  refine J_aload_0 dL_law_711 ?_
  refine J_iload_3 dL_law_712 ?_
  refine J_iconst (1 : Int32) dL_law_713 (by decide) ?_
  refine J_iadd dL_law_714 ?_
  refine J_ialdO (N := jL G) (f := jxs G) dL_law_715 rfl (hv 1 (by omega)) ?_
  refine J_aload_0 dL_law_716 ?_
  refine J_iload_3 dL_law_717 ?_
  refine J_iconst (2 : Int32) dL_law_718 (by decide) ?_
  refine J_iadd dL_law_719 ?_
  refine J_ialdO (N := jL G) (f := jxs G) dL_law_720 rfl (hv 2 (by omega)) ?_
  refine J_aload_0 dL_law_721 ?_
  refine J_iload_3 dL_law_722 ?_
  refine J_iconst (3 : Int32) dL_law_723 (by decide) ?_
  refine J_iadd dL_law_724 ?_
  refine J_ialdO (N := jL G) (f := jxs G) dL_law_725 rfl (hv 3 (by omega)) ?_
  refine L_callVI (As := [.int (jxs G (z + nI 1).toNatClampNeg), .int (jxs G (z + nI 2).toNatClampNeg), .int (jxs G (z + nI 3).toNatClampNeg)]) (rest := []) dL_law_726 vl_L_82 jlt_0 jsh_0 (RX7, TX7, 8) rfl rfl (call_point (d := d) (P := jPI) hR (jxs G (z + nI 1).toNatClampNeg) (jxs G (z + nI 2).toNatClampNeg) (jxs G (z + nI 3).toNatClampNeg) (fun r M' h => ⟨rfl, h⟩)) rfl rfl (Nat.le_of_ble_eq_true rfl) (Nat.le_refl _) (Nat.le_refl _) (fun r1 M1 hC => ?_)
  refine J_aload_2 dL_law_729 ?_
  refine J_aload_0 dL_law_730 ?_
  refine J_iload_3 dL_law_731 ?_
  refine J_iconst (1 : Int32) dL_law_732 (by decide) ?_
  refine J_iadd dL_law_733 ?_
  refine J_ialdO (N := jL G) (f := jxs G) dL_law_734 rfl (hv 1 (by omega)) ?_
  refine J_aload_0 dL_law_735 ?_
  refine J_iload_3 dL_law_736 ?_
  refine J_iconst (2 : Int32) dL_law_737 (by decide) ?_
  refine J_iadd dL_law_738 ?_
  refine J_ialdO (N := jL G) (f := jxs G) dL_law_739 rfl (hv 2 (by omega)) ?_
  refine J_aload_0 dL_law_740 ?_
  refine J_iload_3 dL_law_741 ?_
  refine J_iconst (3 : Int32) dL_law_742 (by decide) ?_
  refine J_iadd dL_law_743 ?_
  refine J_ialdO (N := jL G) (f := jxs G) dL_law_744 rfl (hv 3 (by omega)) ?_
  refine L_callVI (As := [.int (jxs G (z + nI 1).toNatClampNeg), .int (jxs G (z + nI 2).toNatClampNeg), .int (jxs G (z + nI 3).toNatClampNeg)]) (rest := [.int r1]) dL_law_745 vl_L_85 jlt_117 jsh_117 (RX8, TX8, 31) rfl rfl hC rfl rfl (Nat.le_of_ble_eq_true rfl) (Nat.le_refl _) (Nat.le_refl _) (fun r2 M2 hp => ?_)
  obtain ⟨rfl, hR2⟩ := hp
  refine J_icmp_eq (t := 1210) dL_law_748 (by decide) (fun _ => k M2 hR2) (fun e => absurd rfl e)
theorem lawc_17 (hR : Rel M) (hv : ∀ k, k < 5 → vp_in (z + nI k) (jL G)) (k : ∀ M2, Rel M2 → jLaw G nm d 1210 z M2 mc ms post) : jLaw G nm d 753 z M mc ms post := by
  unfold jLaw at *
  refine J_aload_1 dL_law_753 ?_
  refine J_aload_0 dL_law_754 ?_
  refine J_iload_3 dL_law_755 ?_
  refine J_iconst (1 : Int32) dL_law_756 (by decide) ?_
  refine J_iadd dL_law_757 ?_
  refine J_ialdO (N := jL G) (f := jxs G) dL_law_758 rfl (hv 1 (by omega)) ?_
  refine J_aload_0 dL_law_759 ?_
  refine J_iload_3 dL_law_760 ?_
  refine J_iconst (2 : Int32) dL_law_761 (by decide) ?_
  refine J_iadd dL_law_762 ?_
  refine J_ialdO (N := jL G) (f := jxs G) dL_law_763 rfl (hv 2 (by omega)) ?_
  refine J_aload_0 dL_law_764 ?_
  refine J_iload_3 dL_law_765 ?_
  refine J_iconst (3 : Int32) dL_law_766 (by decide) ?_
  refine J_iadd dL_law_767 ?_
  refine J_ialdO (N := jL G) (f := jxs G) dL_law_768 rfl (hv 3 (by omega)) ?_
  refine J_aload_0 dL_law_769 ?_
  refine J_iload_3 dL_law_770 ?_
  refine J_iconst (4 : Int32) dL_law_771 (by decide) ?_
  refine J_iadd dL_law_772 ?_
  refine J_ialdO (N := jL G) (f := jxs G) dL_law_773 rfl (hv 4 (by omega)) ?_
  refine L_callVI (As := [.int (jxs G (z + nI 1).toNatClampNeg), .int (jxs G (z + nI 2).toNatClampNeg), .int (jxs G (z + nI 3).toNatClampNeg), .int (jxs G (z + nI 4).toNatClampNeg)]) (rest := []) dL_law_774 vl_L_86 jlt_0 jsh_0 (RX7, TX7, 8) rfl rfl (call_rival (d := d) (P := jPI) hR (jxs G (z + nI 1).toNatClampNeg) (jxs G (z + nI 2).toNatClampNeg) (jxs G (z + nI 3).toNatClampNeg) (jxs G (z + nI 4).toNatClampNeg) (fun r M' h => ⟨rfl, h⟩)) rfl rfl (Nat.le_of_ble_eq_true rfl) (Nat.le_refl _) (Nat.le_refl _) (fun r1 M1 hC => ?_)
  refine J_aload_2 dL_law_777 ?_
  refine J_aload_0 dL_law_778 ?_
  refine J_iload_3 dL_law_779 ?_
  refine J_iconst (1 : Int32) dL_law_780 (by decide) ?_
  refine J_iadd dL_law_781 ?_
  refine J_ialdO (N := jL G) (f := jxs G) dL_law_782 rfl (hv 1 (by omega)) ?_
  refine J_aload_0 dL_law_783 ?_
  refine J_iload_3 dL_law_784 ?_
  refine J_iconst (2 : Int32) dL_law_785 (by decide) ?_
  refine J_iadd dL_law_786 ?_
  refine J_ialdO (N := jL G) (f := jxs G) dL_law_787 rfl (hv 2 (by omega)) ?_
  refine J_aload_0 dL_law_788 ?_
  refine J_iload_3 dL_law_789 ?_
  refine J_iconst (3 : Int32) dL_law_790 (by decide) ?_
  refine J_iadd dL_law_791 ?_
  refine J_ialdO (N := jL G) (f := jxs G) dL_law_792 rfl (hv 3 (by omega)) ?_
  refine J_aload_0 dL_law_793 ?_
  refine J_iload_3 dL_law_794 ?_
  refine J_iconst (4 : Int32) dL_law_795 (by decide) ?_
  refine J_iadd dL_law_796 ?_
  refine J_ialdO (N := jL G) (f := jxs G) dL_law_797 rfl (hv 4 (by omega)) ?_
  refine L_callVI (As := [.int (jxs G (z + nI 1).toNatClampNeg), .int (jxs G (z + nI 2).toNatClampNeg), .int (jxs G (z + nI 3).toNatClampNeg), .int (jxs G (z + nI 4).toNatClampNeg)]) (rest := [.int r1]) dL_law_798 vl_L_90 jlt_117 jsh_117 (RX8, TX8, 31) rfl rfl hC rfl rfl (Nat.le_of_ble_eq_true rfl) (Nat.le_refl _) (Nat.le_refl _) (fun r2 M2 hp => ?_)
  obtain ⟨rfl, hR2⟩ := hp
  refine J_icmp_eq (t := 1210) dL_law_801 (by decide) (fun _ => k M2 hR2) (fun e => absurd rfl e)
theorem lawc_18 (hR : Rel M) (hv : ∀ k, k < 5 → vp_in (z + nI k) (jL G)) (k : ∀ M2, Rel M2 → jLaw G nm d 1210 z M2 mc ms post) : jLaw G nm d 806 z M mc ms post := by
  unfold jLaw at *
  refine J_aload_1 dL_law_806 ?_
  refine J_aload_0 dL_law_807 ?_
  refine J_iload_3 dL_law_808 ?_
  refine J_iconst (1 : Int32) dL_law_809 (by decide) ?_
  refine J_iadd dL_law_810 ?_
  refine J_ialdO (N := jL G) (f := jxs G) dL_law_811 rfl (hv 1 (by omega)) ?_
  refine J_aload_0 dL_law_812 ?_
  refine J_iload_3 dL_law_813 ?_
  refine J_iconst (2 : Int32) dL_law_814 (by decide) ?_
  refine J_iadd dL_law_815 ?_
  refine J_ialdO (N := jL G) (f := jxs G) dL_law_816 rfl (hv 2 (by omega)) ?_
  refine J_aload_0 dL_law_817 ?_
  refine J_iload_3 dL_law_818 ?_
  refine J_iconst (3 : Int32) dL_law_819 (by decide) ?_
  refine J_iadd dL_law_820 ?_
  refine J_ialdO (N := jL G) (f := jxs G) dL_law_821 rfl (hv 3 (by omega)) ?_
  refine L_callVI (As := [.int (jxs G (z + nI 1).toNatClampNeg), .int (jxs G (z + nI 2).toNatClampNeg), .int (jxs G (z + nI 3).toNatClampNeg)]) (rest := []) dL_law_822 vl_L_91 jlt_0 jsh_0 (RX7, TX7, 8) rfl rfl (call_again (d := d) (P := jPI) hR (jxs G (z + nI 1).toNatClampNeg) (jxs G (z + nI 2).toNatClampNeg) (jxs G (z + nI 3).toNatClampNeg) (fun r M' h => ⟨rfl, h⟩)) rfl rfl (Nat.le_of_ble_eq_true rfl) (Nat.le_refl _) (Nat.le_refl _) (fun r1 M1 hC => ?_)
  refine J_aload_2 dL_law_825 ?_
  refine J_aload_0 dL_law_826 ?_
  refine J_iload_3 dL_law_827 ?_
  refine J_iconst (1 : Int32) dL_law_828 (by decide) ?_
  refine J_iadd dL_law_829 ?_
  refine J_ialdO (N := jL G) (f := jxs G) dL_law_830 rfl (hv 1 (by omega)) ?_
  refine J_aload_0 dL_law_831 ?_
  refine J_iload_3 dL_law_832 ?_
  refine J_iconst (2 : Int32) dL_law_833 (by decide) ?_
  refine J_iadd dL_law_834 ?_
  refine J_ialdO (N := jL G) (f := jxs G) dL_law_835 rfl (hv 2 (by omega)) ?_
  refine J_aload_0 dL_law_836 ?_
  refine J_iload_3 dL_law_837 ?_
  refine J_iconst (3 : Int32) dL_law_838 (by decide) ?_
  refine J_iadd dL_law_839 ?_
  refine J_ialdO (N := jL G) (f := jxs G) dL_law_840 rfl (hv 3 (by omega)) ?_
  refine L_callVI (As := [.int (jxs G (z + nI 1).toNatClampNeg), .int (jxs G (z + nI 2).toNatClampNeg), .int (jxs G (z + nI 3).toNatClampNeg)]) (rest := [.int r1]) dL_law_841 vl_L_94 jlt_117 jsh_117 (RX8, TX8, 31) rfl rfl hC rfl rfl (Nat.le_of_ble_eq_true rfl) (Nat.le_refl _) (Nat.le_refl _) (fun r2 M2 hp => ?_)
  obtain ⟨rfl, hR2⟩ := hp
  refine J_icmp_eq (t := 1210) dL_law_844 (by decide) (fun _ => k M2 hR2) (fun e => absurd rfl e)
theorem lawc_19 (hR : Rel M) (hv : ∀ k, k < 5 → vp_in (z + nI k) (jL G)) (k : ∀ M2, Rel M2 → jLaw G nm d 1210 z M2 mc ms post) : jLaw G nm d 849 z M mc ms post := by
  unfold jLaw at *
  refine J_aload_1 dL_law_849 ?_
  refine J_aload_0 dL_law_850 ?_
  refine J_iload_3 dL_law_851 ?_
  refine J_iconst (1 : Int32) dL_law_852 (by decide) ?_
  refine J_iadd dL_law_853 ?_
  refine J_ialdO (N := jL G) (f := jxs G) dL_law_854 rfl (hv 1 (by omega)) ?_
  refine J_aload_0 dL_law_855 ?_
  refine J_iload_3 dL_law_856 ?_
  refine J_iconst (2 : Int32) dL_law_857 (by decide) ?_
  refine J_iadd dL_law_858 ?_
  refine J_ialdO (N := jL G) (f := jxs G) dL_law_859 rfl (hv 2 (by omega)) ?_
  refine L_callVI (As := [.int (jxs G (z + nI 1).toNatClampNeg), .int (jxs G (z + nI 2).toNatClampNeg)]) (rest := []) dL_law_860 vl_L_95 jlt_0 jsh_0 (RX7, TX7, 8) rfl rfl (call_swing (d := d) (P := jPI) hR (jxs G (z + nI 1).toNatClampNeg) (jxs G (z + nI 2).toNatClampNeg) (fun r M' h => ⟨rfl, h⟩)) rfl rfl (Nat.le_of_ble_eq_true rfl) (Nat.le_refl _) (Nat.le_refl _) (fun r1 M1 hC => ?_)
  refine J_aload_2 dL_law_863 ?_
  refine J_aload_0 dL_law_864 ?_
  refine J_iload_3 dL_law_865 ?_
  refine J_iconst (1 : Int32) dL_law_866 (by decide) ?_
  refine J_iadd dL_law_867 ?_
  refine J_ialdO (N := jL G) (f := jxs G) dL_law_868 rfl (hv 1 (by omega)) ?_
  refine J_aload_0 dL_law_869 ?_
  refine J_iload_3 dL_law_870 ?_
  refine J_iconst (2 : Int32) dL_law_871 (by decide) ?_
  refine J_iadd dL_law_872 ?_
  refine J_ialdO (N := jL G) (f := jxs G) dL_law_873 rfl (hv 2 (by omega)) ?_
  refine L_callVI (As := [.int (jxs G (z + nI 1).toNatClampNeg), .int (jxs G (z + nI 2).toNatClampNeg)]) (rest := [.int r1]) dL_law_874 vl_L_98 jlt_117 jsh_117 (RX8, TX8, 31) rfl rfl hC rfl rfl (Nat.le_of_ble_eq_true rfl) (Nat.le_refl _) (Nat.le_refl _) (fun r2 M2 hp => ?_)
  obtain ⟨rfl, hR2⟩ := hp
  refine J_icmp_eq (t := 1210) dL_law_877 (by decide) (fun _ => k M2 hR2) (fun e => absurd rfl e)
theorem lawc_20 (hR : Rel M) (hv : ∀ k, k < 5 → vp_in (z + nI k) (jL G)) (k : ∀ M2, Rel M2 → jLaw G nm d 1210 z M2 mc ms post) : jLaw G nm d 882 z M mc ms post := by
  unfold jLaw at *
  refine J_aload_1 dL_law_882 ?_
  refine J_aload_0 dL_law_883 ?_
  refine J_iload_3 dL_law_884 ?_
  refine J_iconst (1 : Int32) dL_law_885 (by decide) ?_
  refine J_iadd dL_law_886 ?_
  refine J_ialdO (N := jL G) (f := jxs G) dL_law_887 rfl (hv 1 (by omega)) ?_
  refine L_callVI (As := [.int (jxs G (z + nI 1).toNatClampNeg)]) (rest := []) dL_law_888 vl_L_99 jlt_0 jsh_0 (RX7, TX7, 8) rfl rfl (call_unlawful (d := d) (P := jPI) hR (jxs G (z + nI 1).toNatClampNeg) (fun r M' h => ⟨rfl, h⟩)) rfl rfl (Nat.le_of_ble_eq_true rfl) (Nat.le_refl _) (Nat.le_refl _) (fun r1 M1 hC => ?_)
  refine J_aload_2 dL_law_891 ?_
  refine J_aload_0 dL_law_892 ?_
  refine J_iload_3 dL_law_893 ?_
  refine J_iconst (1 : Int32) dL_law_894 (by decide) ?_
  refine J_iadd dL_law_895 ?_
  refine J_ialdO (N := jL G) (f := jxs G) dL_law_896 rfl (hv 1 (by omega)) ?_
  refine L_callVI (As := [.int (jxs G (z + nI 1).toNatClampNeg)]) (rest := [.int r1]) dL_law_897 vl_L_102 jlt_117 jsh_117 (RX8, TX8, 31) rfl rfl hC rfl rfl (Nat.le_of_ble_eq_true rfl) (Nat.le_refl _) (Nat.le_refl _) (fun r2 M2 hp => ?_)
  obtain ⟨rfl, hR2⟩ := hp
  refine J_icmp_eq (t := 1210) dL_law_900 (by decide) (fun _ => k M2 hR2) (fun e => absurd rfl e)
theorem lawc_21 (hR : Rel M) (hv : ∀ k, k < 5 → vp_in (z + nI k) (jL G)) (k : ∀ M2, Rel M2 → jLaw G nm d 1210 z M2 mc ms post) : jLaw G nm d 905 z M mc ms post := by
  unfold jLaw at *
  refine J_aload_1 dL_law_905 ?_
  refine J_aload_0 dL_law_906 ?_
  refine J_iload_3 dL_law_907 ?_
  refine J_iconst (1 : Int32) dL_law_908 (by decide) ?_
  refine J_iadd dL_law_909 ?_
  refine J_ialdO (N := jL G) (f := jxs G) dL_law_910 rfl (hv 1 (by omega)) ?_
  refine L_callVI (As := [.int (jxs G (z + nI 1).toNatClampNeg)]) (rest := []) dL_law_911 vl_L_103 jlt_0 jsh_0 (RX7, TX7, 8) rfl rfl (call_wrong (d := d) (P := jPI) hR (jxs G (z + nI 1).toNatClampNeg) (fun r M' h => ⟨rfl, h⟩)) rfl rfl (Nat.le_of_ble_eq_true rfl) (Nat.le_refl _) (Nat.le_refl _) (fun r1 M1 hC => ?_)
  refine J_aload_2 dL_law_914 ?_
  refine J_aload_0 dL_law_915 ?_
  refine J_iload_3 dL_law_916 ?_
  refine J_iconst (1 : Int32) dL_law_917 (by decide) ?_
  refine J_iadd dL_law_918 ?_
  refine J_ialdO (N := jL G) (f := jxs G) dL_law_919 rfl (hv 1 (by omega)) ?_
  refine L_callVI (As := [.int (jxs G (z + nI 1).toNatClampNeg)]) (rest := [.int r1]) dL_law_920 vl_L_106 jlt_117 jsh_117 (RX8, TX8, 31) rfl rfl hC rfl rfl (Nat.le_of_ble_eq_true rfl) (Nat.le_refl _) (Nat.le_refl _) (fun r2 M2 hp => ?_)
  obtain ⟨rfl, hR2⟩ := hp
  refine J_icmp_eq (t := 1210) dL_law_923 (by decide) (fun _ => k M2 hR2) (fun e => absurd rfl e)
theorem lawc_22 (hR : Rel M) (hv : ∀ k, k < 5 → vp_in (z + nI k) (jL G)) (k : ∀ M2, Rel M2 → jLaw G nm d 1210 z M2 mc ms post) : jLaw G nm d 928 z M mc ms post := by
  unfold jLaw at *
  refine J_aload_1 dL_law_928 ?_
  refine J_aload_0 dL_law_929 ?_
  refine J_iload_3 dL_law_930 ?_
  refine J_iconst (1 : Int32) dL_law_931 (by decide) ?_
  refine J_iadd dL_law_932 ?_
  refine J_ialdO (N := jL G) (f := jxs G) dL_law_933 rfl (hv 1 (by omega)) ?_
  refine J_aload_0 dL_law_934 ?_
  refine J_iload_3 dL_law_935 ?_
  refine J_iconst (2 : Int32) dL_law_936 (by decide) ?_
  refine J_iadd dL_law_937 ?_
  refine J_ialdO (N := jL G) (f := jxs G) dL_law_938 rfl (hv 2 (by omega)) ?_
  refine L_callVI (As := [.int (jxs G (z + nI 1).toNatClampNeg), .int (jxs G (z + nI 2).toNatClampNeg)]) (rest := []) dL_law_939 vl_L_107 jlt_0 jsh_0 (RX7, TX7, 8) rfl rfl (call_bars (d := d) (P := jPI) hR (jxs G (z + nI 1).toNatClampNeg) (jxs G (z + nI 2).toNatClampNeg) (fun r M' h => ⟨rfl, h⟩)) rfl rfl (Nat.le_of_ble_eq_true rfl) (Nat.le_refl _) (Nat.le_refl _) (fun r1 M1 hC => ?_)
  refine J_aload_2 dL_law_942 ?_
  refine J_aload_0 dL_law_943 ?_
  refine J_iload_3 dL_law_944 ?_
  refine J_iconst (1 : Int32) dL_law_945 (by decide) ?_
  refine J_iadd dL_law_946 ?_
  refine J_ialdO (N := jL G) (f := jxs G) dL_law_947 rfl (hv 1 (by omega)) ?_
  refine J_aload_0 dL_law_948 ?_
  refine J_iload_3 dL_law_949 ?_
  refine J_iconst (2 : Int32) dL_law_950 (by decide) ?_
  refine J_iadd dL_law_951 ?_
  refine J_ialdO (N := jL G) (f := jxs G) dL_law_952 rfl (hv 2 (by omega)) ?_
  refine L_callVI (As := [.int (jxs G (z + nI 1).toNatClampNeg), .int (jxs G (z + nI 2).toNatClampNeg)]) (rest := [.int r1]) dL_law_953 vl_L_110 jlt_117 jsh_117 (RX8, TX8, 31) rfl rfl hC rfl rfl (Nat.le_of_ble_eq_true rfl) (Nat.le_refl _) (Nat.le_refl _) (fun r2 M2 hp => ?_)
  obtain ⟨rfl, hR2⟩ := hp
  refine J_icmp_eq (t := 1210) dL_law_956 (by decide) (fun _ => k M2 hR2) (fun e => absurd rfl e)
theorem lawc_23 (hR : Rel M) (hv : ∀ k, k < 5 → vp_in (z + nI k) (jL G)) (k : ∀ M2, Rel M2 → jLaw G nm d 1210 z M2 mc ms post) : jLaw G nm d 961 z M mc ms post := by
  unfold jLaw at *
  refine J_aload_1 dL_law_961 ?_
  refine J_aload_0 dL_law_962 ?_
  refine J_iload_3 dL_law_963 ?_
  refine J_iconst (1 : Int32) dL_law_964 (by decide) ?_
  refine J_iadd dL_law_965 ?_
  refine J_ialdO (N := jL G) (f := jxs G) dL_law_966 rfl (hv 1 (by omega)) ?_
  refine L_callVI (As := [.int (jxs G (z + nI 1).toNatClampNeg)]) (rest := []) dL_law_967 vl_L_111 jlt_0 jsh_0 (RX7, TX7, 8) rfl rfl (call_queue (d := d) (P := jPI) hR (jxs G (z + nI 1).toNatClampNeg) (fun r M' h => ⟨rfl, h⟩)) rfl rfl (Nat.le_of_ble_eq_true rfl) (Nat.le_refl _) (Nat.le_refl _) (fun r1 M1 hC => ?_)
  refine J_aload_2 dL_law_970 ?_
  refine J_aload_0 dL_law_971 ?_
  refine J_iload_3 dL_law_972 ?_
  refine J_iconst (1 : Int32) dL_law_973 (by decide) ?_
  refine J_iadd dL_law_974 ?_
  refine J_ialdO (N := jL G) (f := jxs G) dL_law_975 rfl (hv 1 (by omega)) ?_
  refine L_callVI (As := [.int (jxs G (z + nI 1).toNatClampNeg)]) (rest := [.int r1]) dL_law_976 vl_L_114 jlt_117 jsh_117 (RX8, TX8, 31) rfl rfl hC rfl rfl (Nat.le_of_ble_eq_true rfl) (Nat.le_refl _) (Nat.le_refl _) (fun r2 M2 hp => ?_)
  obtain ⟨rfl, hR2⟩ := hp
  refine J_icmp_eq (t := 1210) dL_law_979 (by decide) (fun _ => k M2 hR2) (fun e => absurd rfl e)
theorem lawc_24 (hR : Rel M) (hv : ∀ k, k < 5 → vp_in (z + nI k) (jL G)) (k : ∀ M2, Rel M2 → jLaw G nm d 1210 z M2 mc ms post) : jLaw G nm d 984 z M mc ms post := by
  unfold jLaw at *
  refine J_aload_1 dL_law_984 ?_
  refine J_aload_0 dL_law_985 ?_
  refine J_iload_3 dL_law_986 ?_
  refine J_iconst (1 : Int32) dL_law_987 (by decide) ?_
  refine J_iadd dL_law_988 ?_
  refine J_ialdO (N := jL G) (f := jxs G) dL_law_989 rfl (hv 1 (by omega)) ?_
  refine J_aload_0 dL_law_990 ?_
  refine J_iload_3 dL_law_991 ?_
  refine J_iconst (2 : Int32) dL_law_992 (by decide) ?_
  refine J_iadd dL_law_993 ?_
  refine J_ialdO (N := jL G) (f := jxs G) dL_law_994 rfl (hv 2 (by omega)) ?_
  refine J_aload_0 dL_law_995 ?_
  refine J_iload_3 dL_law_996 ?_
  refine J_iconst (3 : Int32) dL_law_997 (by decide) ?_
  refine J_iadd dL_law_998 ?_
  refine J_ialdO (N := jL G) (f := jxs G) dL_law_999 rfl (hv 3 (by omega)) ?_
  refine L_callVL (As := [.int (jxs G (z + nI 1).toNatClampNeg), .int (jxs G (z + nI 2).toNatClampNeg), .int (jxs G (z + nI 3).toNatClampNeg)]) (rest := []) dL_law_1000 vl_L_115 jlt_0 jsh_0 (RX7, TX7, 8) rfl rfl (call_odds (d := d) (P := jPL2) hR (jxs G (z + nI 1).toNatClampNeg) (jxs G (z + nI 2).toNatClampNeg) (jxs G (z + nI 3).toNatClampNeg) (fun r M' h => ⟨rfl, h⟩)) rfl rfl (Nat.le_of_ble_eq_true rfl) (Nat.le_refl _) (Nat.le_refl _) (fun r1 M1 hC => ?_)
  refine J_aload_2 dL_law_1003 ?_
  refine J_aload_0 dL_law_1004 ?_
  refine J_iload_3 dL_law_1005 ?_
  refine J_iconst (1 : Int32) dL_law_1006 (by decide) ?_
  refine J_iadd dL_law_1007 ?_
  refine J_ialdO (N := jL G) (f := jxs G) dL_law_1008 rfl (hv 1 (by omega)) ?_
  refine J_aload_0 dL_law_1009 ?_
  refine J_iload_3 dL_law_1010 ?_
  refine J_iconst (2 : Int32) dL_law_1011 (by decide) ?_
  refine J_iadd dL_law_1012 ?_
  refine J_ialdO (N := jL G) (f := jxs G) dL_law_1013 rfl (hv 2 (by omega)) ?_
  refine J_aload_0 dL_law_1014 ?_
  refine J_iload_3 dL_law_1015 ?_
  refine J_iconst (3 : Int32) dL_law_1016 (by decide) ?_
  refine J_iadd dL_law_1017 ?_
  refine J_ialdO (N := jL G) (f := jxs G) dL_law_1018 rfl (hv 3 (by omega)) ?_
  refine L_callVL (As := [.int (jxs G (z + nI 1).toNatClampNeg), .int (jxs G (z + nI 2).toNatClampNeg), .int (jxs G (z + nI 3).toNatClampNeg)]) (rest := [.long r1]) dL_law_1019 vl_L_119 jlt_117 jsh_117 (RX8, TX8, 31) rfl rfl hC rfl rfl (Nat.le_of_ble_eq_true rfl) (Nat.le_refl _) (Nat.le_refl _) (fun r2 M2 hp => ?_)
  obtain ⟨rfl, hR2⟩ := hp
  refine J_lcmp dL_law_1022 ?_
  refine J_if_eq (t := 1210) dL_law_1023 (by decide) (fun _ => k M2 hR2) (fun e => absurd ((lg_cmp_eq _ _).mpr rfl) e)
theorem lawc_25 (hR : Rel M) (hv : ∀ k, k < 5 → vp_in (z + nI k) (jL G)) (k : ∀ M2, Rel M2 → jLaw G nm d 1210 z M2 mc ms post) : jLaw G nm d 1028 z M mc ms post := by
  unfold jLaw at *
  refine J_aload_1 dL_law_1028 ?_
  refine J_aload_0 dL_law_1029 ?_
  refine J_iload_3 dL_law_1030 ?_
  refine J_iconst (1 : Int32) dL_law_1031 (by decide) ?_
  refine J_iadd dL_law_1032 ?_
  refine J_ialdO (N := jL G) (f := jxs G) dL_law_1033 rfl (hv 1 (by omega)) ?_
  refine J_aload_0 dL_law_1034 ?_
  refine J_iload_3 dL_law_1035 ?_
  refine J_iconst (2 : Int32) dL_law_1036 (by decide) ?_
  refine J_iadd dL_law_1037 ?_
  refine J_ialdO (N := jL G) (f := jxs G) dL_law_1038 rfl (hv 2 (by omega)) ?_
  refine L_callVL (As := [.int (jxs G (z + nI 1).toNatClampNeg), .int (jxs G (z + nI 2).toNatClampNeg)]) (rest := []) dL_law_1039 vl_L_120 jlt_0 jsh_0 (RX7, TX7, 8) rfl rfl (call_expects (d := d) (P := jPL2) hR (jxs G (z + nI 1).toNatClampNeg) (jxs G (z + nI 2).toNatClampNeg) (fun r M' h => ⟨rfl, h⟩)) rfl rfl (Nat.le_of_ble_eq_true rfl) (Nat.le_refl _) (Nat.le_refl _) (fun r1 M1 hC => ?_)
  refine J_aload_2 dL_law_1042 ?_
  refine J_aload_0 dL_law_1043 ?_
  refine J_iload_3 dL_law_1044 ?_
  refine J_iconst (1 : Int32) dL_law_1045 (by decide) ?_
  refine J_iadd dL_law_1046 ?_
  refine J_ialdO (N := jL G) (f := jxs G) dL_law_1047 rfl (hv 1 (by omega)) ?_
  refine J_aload_0 dL_law_1048 ?_
  refine J_iload_3 dL_law_1049 ?_
  refine J_iconst (2 : Int32) dL_law_1050 (by decide) ?_
  refine J_iadd dL_law_1051 ?_
  refine J_ialdO (N := jL G) (f := jxs G) dL_law_1052 rfl (hv 2 (by omega)) ?_
  refine L_callVL (As := [.int (jxs G (z + nI 1).toNatClampNeg), .int (jxs G (z + nI 2).toNatClampNeg)]) (rest := [.long r1]) dL_law_1053 vl_L_124 jlt_117 jsh_117 (RX8, TX8, 31) rfl rfl hC rfl rfl (Nat.le_of_ble_eq_true rfl) (Nat.le_refl _) (Nat.le_refl _) (fun r2 M2 hp => ?_)
  obtain ⟨rfl, hR2⟩ := hp
  refine J_lcmp dL_law_1056 ?_
  refine J_if_eq (t := 1210) dL_law_1057 (by decide) (fun _ => k M2 hR2) (fun e => absurd ((lg_cmp_eq _ _).mpr rfl) e)
theorem lawc_26 (hR : Rel M) (hv : ∀ k, k < 5 → vp_in (z + nI k) (jL G)) (k : ∀ M2, Rel M2 → jLaw G nm d 1210 z M2 mc ms post) : jLaw G nm d 1062 z M mc ms post := by
  unfold jLaw at *
  refine J_aload_1 dL_law_1062 ?_
  refine J_aload_0 dL_law_1063 ?_
  refine J_iload_3 dL_law_1064 ?_
  refine J_iconst (1 : Int32) dL_law_1065 (by decide) ?_
  refine J_iadd dL_law_1066 ?_
  refine J_ialdO (N := jL G) (f := jxs G) dL_law_1067 rfl (hv 1 (by omega)) ?_
  refine J_aload_0 dL_law_1068 ?_
  refine J_iload_3 dL_law_1069 ?_
  refine J_iconst (2 : Int32) dL_law_1070 (by decide) ?_
  refine J_iadd dL_law_1071 ?_
  refine J_ialdO (N := jL G) (f := jxs G) dL_law_1072 rfl (hv 2 (by omega)) ?_
  refine J_aload_0 dL_law_1073 ?_
  refine J_iload_3 dL_law_1074 ?_
  refine J_iconst (3 : Int32) dL_law_1075 (by decide) ?_
  refine J_iadd dL_law_1076 ?_
  refine J_ialdO (N := jL G) (f := jxs G) dL_law_1077 rfl (hv 3 (by omega)) ?_
  refine L_callVI (As := [.int (jxs G (z + nI 1).toNatClampNeg), .int (jxs G (z + nI 2).toNatClampNeg), .int (jxs G (z + nI 3).toNatClampNeg)]) (rest := []) dL_law_1078 vl_L_125 jlt_0 jsh_0 (RX7, TX7, 8) rfl rfl (call_act (d := d) (P := jPI) hR (jxs G (z + nI 1).toNatClampNeg) (jxs G (z + nI 2).toNatClampNeg) (jxs G (z + nI 3).toNatClampNeg) (fun r M' h => ⟨rfl, h⟩)) rfl rfl (Nat.le_of_ble_eq_true rfl) (Nat.le_refl _) (Nat.le_refl _) (fun r1 M1 hC => ?_)
  refine J_aload_2 dL_law_1081 ?_
  refine J_aload_0 dL_law_1082 ?_
  refine J_iload_3 dL_law_1083 ?_
  refine J_iconst (1 : Int32) dL_law_1084 (by decide) ?_
  refine J_iadd dL_law_1085 ?_
  refine J_ialdO (N := jL G) (f := jxs G) dL_law_1086 rfl (hv 1 (by omega)) ?_
  refine J_aload_0 dL_law_1087 ?_
  refine J_iload_3 dL_law_1088 ?_
  refine J_iconst (2 : Int32) dL_law_1089 (by decide) ?_
  refine J_iadd dL_law_1090 ?_
  refine J_ialdO (N := jL G) (f := jxs G) dL_law_1091 rfl (hv 2 (by omega)) ?_
  refine J_aload_0 dL_law_1092 ?_
  refine J_iload_3 dL_law_1093 ?_
  refine J_iconst (3 : Int32) dL_law_1094 (by decide) ?_
  refine J_iadd dL_law_1095 ?_
  refine J_ialdO (N := jL G) (f := jxs G) dL_law_1096 rfl (hv 3 (by omega)) ?_
  refine L_callVI (As := [.int (jxs G (z + nI 1).toNatClampNeg), .int (jxs G (z + nI 2).toNatClampNeg), .int (jxs G (z + nI 3).toNatClampNeg)]) (rest := [.int r1]) dL_law_1097 vl_L_128 jlt_117 jsh_117 (RX8, TX8, 31) rfl rfl hC rfl rfl (Nat.le_of_ble_eq_true rfl) (Nat.le_refl _) (Nat.le_refl _) (fun r2 M2 hp => ?_)
  obtain ⟨rfl, hR2⟩ := hp
  refine J_icmp_eq (t := 1210) dL_law_1100 (by decide) (fun _ => k M2 hR2) (fun e => absurd rfl e)
theorem lawc_27 (hR : Rel M) (hv : ∀ k, k < 5 → vp_in (z + nI k) (jL G)) (k : ∀ M2, Rel M2 → jLaw G nm d 1210 z M2 mc ms post) : jLaw G nm d 1105 z M mc ms post := by
  unfold jLaw at *
  refine J_aload_1 dL_law_1105 ?_
  refine J_aload_0 dL_law_1106 ?_
  refine J_iload_3 dL_law_1107 ?_
  refine J_iconst (1 : Int32) dL_law_1108 (by decide) ?_
  refine J_iadd dL_law_1109 ?_
  refine J_ialdO (N := jL G) (f := jxs G) dL_law_1110 rfl (hv 1 (by omega)) ?_
  refine L_callVI (As := [.int (jxs G (z + nI 1).toNatClampNeg)]) (rest := []) dL_law_1111 vl_L_129 jlt_0 jsh_0 (RX7, TX7, 8) rfl rfl (call_trace (d := d) (P := jPI) hR (jxs G (z + nI 1).toNatClampNeg) (fun r M' h => ⟨rfl, h⟩)) rfl rfl (Nat.le_of_ble_eq_true rfl) (Nat.le_refl _) (Nat.le_refl _) (fun r1 M1 hC => ?_)
  refine J_aload_2 dL_law_1114 ?_
  refine J_aload_0 dL_law_1115 ?_
  refine J_iload_3 dL_law_1116 ?_
  refine J_iconst (1 : Int32) dL_law_1117 (by decide) ?_
  refine J_iadd dL_law_1118 ?_
  refine J_ialdO (N := jL G) (f := jxs G) dL_law_1119 rfl (hv 1 (by omega)) ?_
  refine L_callVI (As := [.int (jxs G (z + nI 1).toNatClampNeg)]) (rest := [.int r1]) dL_law_1120 vl_L_132 jlt_117 jsh_117 (RX8, TX8, 31) rfl rfl hC rfl rfl (Nat.le_of_ble_eq_true rfl) (Nat.le_refl _) (Nat.le_refl _) (fun r2 M2 hp => ?_)
  obtain ⟨rfl, hR2⟩ := hp
  refine J_icmp_eq (t := 1210) dL_law_1123 (by decide) (fun _ => k M2 hR2) (fun e => absurd rfl e)
theorem lawc_28 (hR : Rel M) (hv : ∀ k, k < 5 → vp_in (z + nI k) (jL G)) (k : ∀ M2, Rel M2 → jLaw G nm d 1210 z M2 mc ms post) : jLaw G nm d 1128 z M mc ms post := by
  unfold jLaw at *
  refine J_aload_1 dL_law_1128 ?_
  refine J_aload_0 dL_law_1129 ?_
  refine J_iload_3 dL_law_1130 ?_
  refine J_iconst (1 : Int32) dL_law_1131 (by decide) ?_
  refine J_iadd dL_law_1132 ?_
  refine J_ialdO (N := jL G) (f := jxs G) dL_law_1133 rfl (hv 1 (by omega)) ?_
  refine J_aload_0 dL_law_1134 ?_
  refine J_iload_3 dL_law_1135 ?_
  refine J_iconst (2 : Int32) dL_law_1136 (by decide) ?_
  refine J_iadd dL_law_1137 ?_
  refine J_ialdO (N := jL G) (f := jxs G) dL_law_1138 rfl (hv 2 (by omega)) ?_
  refine L_callVI (As := [.int (jxs G (z + nI 1).toNatClampNeg), .int (jxs G (z + nI 2).toNatClampNeg)]) (rest := []) dL_law_1139 vl_L_133 jlt_0 jsh_0 (RX7, TX7, 8) rfl rfl (call_as (d := d) (P := jPI) hR (jxs G (z + nI 1).toNatClampNeg) (jxs G (z + nI 2).toNatClampNeg) (fun r M' h => ⟨rfl, h⟩)) rfl rfl (Nat.le_of_ble_eq_true rfl) (Nat.le_refl _) (Nat.le_refl _) (fun r1 M1 hC => ?_)
  refine J_aload_2 dL_law_1142 ?_
  refine J_aload_0 dL_law_1143 ?_
  refine J_iload_3 dL_law_1144 ?_
  refine J_iconst (1 : Int32) dL_law_1145 (by decide) ?_
  refine J_iadd dL_law_1146 ?_
  refine J_ialdO (N := jL G) (f := jxs G) dL_law_1147 rfl (hv 1 (by omega)) ?_
  refine J_aload_0 dL_law_1148 ?_
  refine J_iload_3 dL_law_1149 ?_
  refine J_iconst (2 : Int32) dL_law_1150 (by decide) ?_
  refine J_iadd dL_law_1151 ?_
  refine J_ialdO (N := jL G) (f := jxs G) dL_law_1152 rfl (hv 2 (by omega)) ?_
  refine L_callVI (As := [.int (jxs G (z + nI 1).toNatClampNeg), .int (jxs G (z + nI 2).toNatClampNeg)]) (rest := [.int r1]) dL_law_1153 vl_L_136 jlt_117 jsh_117 (RX8, TX8, 31) rfl rfl hC rfl rfl (Nat.le_of_ble_eq_true rfl) (Nat.le_refl _) (Nat.le_refl _) (fun r2 M2 hp => ?_)
  obtain ⟨rfl, hR2⟩ := hp
  refine J_icmp_eq (t := 1210) dL_law_1156 (by decide) (fun _ => k M2 hR2) (fun e => absurd rfl e)
theorem lawc_29 (hR : Rel M) (hv : ∀ k, k < 5 → vp_in (z + nI k) (jL G)) (k : ∀ M2, Rel M2 → jLaw G nm d 1210 z M2 mc ms post) : jLaw G nm d 1161 z M mc ms post := by
  unfold jLaw at *
  refine J_aload_1 dL_law_1161 ?_
  refine L_callVI (As := []) (rest := []) dL_law_1162 vl_L_137 jlt_0 jsh_0 (RX7, TX7, 8) rfl rfl (call_image (d := d) (P := jPI) hR  (fun r M' h => ⟨rfl, h⟩)) rfl rfl (Nat.le_of_ble_eq_true rfl) (Nat.le_refl _) (Nat.le_refl _) (fun r1 M1 hC => ?_)
  refine J_aload_2 dL_law_1165 ?_
  refine L_callVI (As := []) (rest := [.int r1]) dL_law_1166 vl_L_140 jlt_117 jsh_117 (RX8, TX8, 31) rfl rfl hC rfl rfl (Nat.le_of_ble_eq_true rfl) (Nat.le_refl _) (Nat.le_refl _) (fun r2 M2 hp => ?_)
  obtain ⟨rfl, hR2⟩ := hp
  refine J_icmp_eq (t := 1210) dL_law_1169 (by decide) (fun _ => k M2 hR2) (fun e => absurd rfl e)
theorem lawc_30 (hR : Rel M) (hv : ∀ k, k < 5 → vp_in (z + nI k) (jL G)) (k : ∀ M2, Rel M2 → jLaw G nm d 1210 z M2 mc ms post) : jLaw G nm d 1174 z M mc ms post := by
  unfold jLaw at *
  refine J_aload_1 dL_law_1174 ?_
  refine L_callVI (As := []) (rest := []) dL_law_1175 vl_L_141 jlt_0 jsh_0 (RX7, TX7, 8) rfl rfl (call_undo (d := d) (P := jPI) hR  (fun r M' h => ⟨rfl, h⟩)) rfl rfl (Nat.le_of_ble_eq_true rfl) (Nat.le_refl _) (Nat.le_refl _) (fun r1 M1 hC => ?_)
  refine J_aload_2 dL_law_1178 ?_
  refine L_callVI (As := []) (rest := [.int r1]) dL_law_1179 vl_L_144 jlt_117 jsh_117 (RX8, TX8, 31) rfl rfl hC rfl rfl (Nat.le_of_ble_eq_true rfl) (Nat.le_refl _) (Nat.le_refl _) (fun r2 M2 hp => ?_)
  obtain ⟨rfl, hR2⟩ := hp
  refine J_icmp_eq (t := 1210) dL_law_1182 (by decide) (fun _ => k M2 hR2) (fun e => absurd rfl e)
theorem lawc_31 (hR : Rel M) (hv : ∀ k, k < 5 → vp_in (z + nI k) (jL G)) (k : ∀ M2, Rel M2 → jLaw G nm d 1210 z M2 mc ms post) : jLaw G nm d 1187 z M mc ms post := by
  unfold jLaw at *
  refine J_aload_1 dL_law_1187 ?_
  refine J_aload_0 dL_law_1188 ?_
  refine J_iload_3 dL_law_1189 ?_
  refine J_iconst (1 : Int32) dL_law_1190 (by decide) ?_
  refine J_iadd dL_law_1191 ?_
  refine J_ialdO (N := jL G) (f := jxs G) dL_law_1192 rfl (hv 1 (by omega)) ?_
  refine L_callVI (As := [.int (jxs G (z + nI 1).toNatClampNeg)]) (rest := []) dL_law_1193 vl_L_145 jlt_0 jsh_0 (RX7, TX7, 8) rfl rfl (call_count (d := d) (P := jPI) hR (jxs G (z + nI 1).toNatClampNeg) (fun r M' h => ⟨rfl, h⟩)) rfl rfl (Nat.le_of_ble_eq_true rfl) (Nat.le_refl _) (Nat.le_refl _) (fun r1 M1 hC => ?_)
  refine J_aload_2 dL_law_1196 ?_
  refine J_aload_0 dL_law_1197 ?_
  refine J_iload_3 dL_law_1198 ?_
  refine J_iconst (1 : Int32) dL_law_1199 (by decide) ?_
  refine J_iadd dL_law_1200 ?_
  refine J_ialdO (N := jL G) (f := jxs G) dL_law_1201 rfl (hv 1 (by omega)) ?_
  refine L_callVI (As := [.int (jxs G (z + nI 1).toNatClampNeg)]) (rest := [.int r1]) dL_law_1202 vl_L_148 jlt_117 jsh_117 (RX8, TX8, 31) rfl rfl hC rfl rfl (Nat.le_of_ble_eq_true rfl) (Nat.le_refl _) (Nat.le_refl _) (fun r2 M2 hp => ?_)
  obtain ⟨rfl, hR2⟩ := hp
  refine J_icmp_eq (t := 1210) dL_law_1205 (by decide) (fun _ => k M2 hR2) (fun e => absurd rfl e)
end LC
