/-! ===== the law meets its function (by program: wip/whole/gen.py) ===== -/
set_option maxRecDepth 100000 in
set_option maxHeartbeats 4000000 in
theorem pL_law_b18 {E : wE} {n : Nat} (hE : wGE E) {a0 : Nat} {ln : Nat} {xs : Int → Int} (hro : wro E a0 = some (.int, ln, fun j : Nat => .int (iI (xs j)))) (hln : ln ≤ 3584) : ∀ (fuel : Nat) (x3 : Int)  (G : gR) (ca : caT), WF E (n + 12) x cL_law 4 (some .boolean) vI (fun G : gR => G) ca 18 (wLs [some (.ref a0), some (.ref (aTop E)), some (.ref (aM E 0)), some (.int (iI x3))]) [] G (fL_law_b18 ln xs fuel x3 G) := by
  intro fuel
  induction fuel with
  | zero =>
    intro x3 G ca
    exact wf_none
  | succ fuel ih =>
    intro x3 G ca
    unfold fL_law_b18
    refine wf_iload_n dL_law_18 rfl ?_
    refine wf_aload_n dL_law_19 rfl ?_
    refine wf_rolen dL_law_20 hro ?_
    refine wf_bipush dL_law_21 ?_
    refine wf_isub dL_law_23 ?_
    refine wf_gd (fun g24 => ?_)
    refine wf_icmp_gt 1079 dL_law_24 g24.1 g24.2 (fun h24 => ?_) (fun h24 => ?_)
    · refine wf_iconst dL_law_1079 ?_
      exact wf_ireturn dL_law_1080 ⟨_, rfl, rfl⟩
    · refine wf_aload_n dL_law_27 rfl ?_
      refine wf_iload_n dL_law_28 rfl ?_
      refine wf_gd (fun g29 => ?_)
      refine wf_ro dL_law_29 hro g29 ?_ (by omega)
      refine wf_bipush dL_law_30 ?_
      refine wf_iand dL_law_32 ?_
      refine wf_gd (fun g33 => ?_)
      refine wf_ite (fun e33_0 => ?_) (fun e33_0 => ?_)
      · refine wf_tsK 0 168 dL_law_33 e33_0 ?_
        refine wf_aload_n dL_law_168 rfl ?_
        refine wf_aload_n dL_law_169 rfl ?_
        refine wf_iload_n dL_law_170 rfl ?_
        refine wf_iconst dL_law_171 ?_
        refine wf_iadd dL_law_172 ?_
        refine wf_gd (fun g173 => ?_)
        refine wf_ro dL_law_173 hro g173 ?_ (by omega)
        refine wf_aload_n dL_law_174 rfl ?_
        refine wf_iload_n dL_law_175 rfl ?_
        refine wf_iconst dL_law_176 ?_
        refine wf_iadd dL_law_177 ?_
        refine wf_gd (fun g178 => ?_)
        refine wf_ro dL_law_178 hro g178 ?_ (by omega)
        refine wf_cV (put := fun q => (q, G.2)) dL_law_179 k_RL_13 b_yX6_set x_yX6_set (pX6_set (n := n + 4) hE (M := G.2) (xs (x3 + 1)) (xs (x3 + 2)) _ _) rfl (fun _ => rfl) (fun h hr => rd_top hr) rfl (fun r179 t179 ca => ?_)
        refine wf_bnd (fun G179 => ?_)
        refine wf_aload_n dL_law_182 rfl ?_
        refine wf_aload_n dL_law_183 rfl ?_
        refine wf_iload_n dL_law_184 rfl ?_
        refine wf_iconst dL_law_185 ?_
        refine wf_iadd dL_law_186 ?_
        refine wf_gd (fun g187 => ?_)
        refine wf_ro dL_law_187 hro g187 ?_ (by omega)
        refine wf_aload_n dL_law_188 rfl ?_
        refine wf_iload_n dL_law_189 rfl ?_
        refine wf_iconst dL_law_190 ?_
        refine wf_iadd dL_law_191 ?_
        refine wf_gd (fun g192 => ?_)
        refine wf_ro dL_law_192 hro g192 ?_ (by omega)
        refine wf_cV (put := fun q => (G179.1, q)) dL_law_193 k_RL_17 b_yX7_set x_yX7_set (pX7_set (n := n + 9) hE (C := G179.1) (xs (x3 + 1)) (xs (x3 + 2)) _ _) rfl (fun _ => rfl) (fun h hr => rd_mod hr) rfl (fun r193 t193 ca => ?_)
        refine wf_bnd (fun G193 => ?_)
        refine wf_gd (fun g196 => ?_)
        refine wf_icmp_eqL 1073 dL_law_196 g196 ?_
        refine wf_iinc dL_law_1073 rfl ?_
        refine wf_goto 18 dL_law_1076 ?_
        exact wf_at (ih (x3 + 7) _ _) ⟨rfl, rfl, rfl, rfl, trivial⟩
      refine wf_ite (fun e33_1 => ?_) (fun e33_1 => ?_)
      · refine wf_tsK 1 201 dL_law_33 e33_1 ?_
        refine wf_aload_n dL_law_201 rfl ?_
        refine wf_aload_n dL_law_202 rfl ?_
        refine wf_iload_n dL_law_203 rfl ?_
        refine wf_iconst dL_law_204 ?_
        refine wf_iadd dL_law_205 ?_
        refine wf_gd (fun g206 => ?_)
        refine wf_ro dL_law_206 hro g206 ?_ (by omega)
        refine wf_aload_n dL_law_207 rfl ?_
        refine wf_iload_n dL_law_208 rfl ?_
        refine wf_iconst dL_law_209 ?_
        refine wf_iadd dL_law_210 ?_
        refine wf_gd (fun g211 => ?_)
        refine wf_ro dL_law_211 hro g211 ?_ (by omega)
        refine wf_cV (put := fun q => (q, G.2)) dL_law_212 k_RL_18 b_yX6_holiday x_yX6_holiday (pX6_holiday (n := n + 4) hE (M := G.2) (xs (x3 + 1)) (xs (x3 + 2)) _ _) rfl (fun _ => rfl) (fun h hr => rd_top hr) rfl (fun r212 t212 ca => ?_)
        refine wf_bnd (fun G212 => ?_)
        refine wf_aload_n dL_law_215 rfl ?_
        refine wf_aload_n dL_law_216 rfl ?_
        refine wf_iload_n dL_law_217 rfl ?_
        refine wf_iconst dL_law_218 ?_
        refine wf_iadd dL_law_219 ?_
        refine wf_gd (fun g220 => ?_)
        refine wf_ro dL_law_220 hro g220 ?_ (by omega)
        refine wf_aload_n dL_law_221 rfl ?_
        refine wf_iload_n dL_law_222 rfl ?_
        refine wf_iconst dL_law_223 ?_
        refine wf_iadd dL_law_224 ?_
        refine wf_gd (fun g225 => ?_)
        refine wf_ro dL_law_225 hro g225 ?_ (by omega)
        refine wf_cV (put := fun q => (G212.1, q)) dL_law_226 k_RL_21 b_yX7_holiday x_yX7_holiday (pX7_holiday (n := n + 9) hE (C := G212.1) (xs (x3 + 1)) (xs (x3 + 2)) _ _) rfl (fun _ => rfl) (fun h hr => rd_mod hr) rfl (fun r226 t226 ca => ?_)
        refine wf_bnd (fun G226 => ?_)
        refine wf_gd (fun g229 => ?_)
        refine wf_icmp_eqL 1073 dL_law_229 g229 ?_
        refine wf_iinc dL_law_1073 rfl ?_
        refine wf_goto 18 dL_law_1076 ?_
        exact wf_at (ih (x3 + 7) _ _) ⟨rfl, rfl, rfl, rfl, trivial⟩
      refine wf_ite (fun e33_2 => ?_) (fun e33_2 => ?_)
      · refine wf_tsK 2 234 dL_law_33 e33_2 ?_
        refine wf_aload_n dL_law_234 rfl ?_
        refine wf_aload_n dL_law_235 rfl ?_
        refine wf_iload_n dL_law_236 rfl ?_
        refine wf_iconst dL_law_237 ?_
        refine wf_iadd dL_law_238 ?_
        refine wf_gd (fun g239 => ?_)
        refine wf_ro dL_law_239 hro g239 ?_ (by omega)
        refine wf_aload_n dL_law_240 rfl ?_
        refine wf_iload_n dL_law_241 rfl ?_
        refine wf_iconst dL_law_242 ?_
        refine wf_iadd dL_law_243 ?_
        refine wf_gd (fun g244 => ?_)
        refine wf_ro dL_law_244 hro g244 ?_ (by omega)
        refine wf_cV (put := fun q => (q, G.2)) dL_law_245 k_RL_22 b_yX6_account x_yX6_account (pX6_account (n := n + 4) hE (M := G.2) (xs (x3 + 1)) (xs (x3 + 2)) _ _) rfl (fun _ => rfl) (fun h hr => rd_top hr) rfl (fun r245 t245 ca => ?_)
        refine wf_bnd (fun G245 => ?_)
        refine wf_aload_n dL_law_248 rfl ?_
        refine wf_aload_n dL_law_249 rfl ?_
        refine wf_iload_n dL_law_250 rfl ?_
        refine wf_iconst dL_law_251 ?_
        refine wf_iadd dL_law_252 ?_
        refine wf_gd (fun g253 => ?_)
        refine wf_ro dL_law_253 hro g253 ?_ (by omega)
        refine wf_aload_n dL_law_254 rfl ?_
        refine wf_iload_n dL_law_255 rfl ?_
        refine wf_iconst dL_law_256 ?_
        refine wf_iadd dL_law_257 ?_
        refine wf_gd (fun g258 => ?_)
        refine wf_ro dL_law_258 hro g258 ?_ (by omega)
        refine wf_cV (put := fun q => (G245.1, q)) dL_law_259 k_RL_25 b_yX7_account x_yX7_account (pX7_account (n := n + 9) hE (C := G245.1) (xs (x3 + 1)) (xs (x3 + 2)) _ _) rfl (fun _ => rfl) (fun h hr => rd_mod hr) rfl (fun r259 t259 ca => ?_)
        refine wf_bnd (fun G259 => ?_)
        refine wf_gd (fun g262 => ?_)
        refine wf_icmp_eqL 1073 dL_law_262 g262 ?_
        refine wf_iinc dL_law_1073 rfl ?_
        refine wf_goto 18 dL_law_1076 ?_
        exact wf_at (ih (x3 + 7) _ _) ⟨rfl, rfl, rfl, rfl, trivial⟩
      refine wf_ite (fun e33_3 => ?_) (fun e33_3 => ?_)
      · refine wf_tsK 3 267 dL_law_33 e33_3 ?_
        refine wf_aload_n dL_law_267 rfl ?_
        refine wf_aload_n dL_law_268 rfl ?_
        refine wf_iload_n dL_law_269 rfl ?_
        refine wf_iconst dL_law_270 ?_
        refine wf_iadd dL_law_271 ?_
        refine wf_gd (fun g272 => ?_)
        refine wf_ro dL_law_272 hro g272 ?_ (by omega)
        refine wf_aload_n dL_law_273 rfl ?_
        refine wf_iload_n dL_law_274 rfl ?_
        refine wf_iconst dL_law_275 ?_
        refine wf_iadd dL_law_276 ?_
        refine wf_gd (fun g277 => ?_)
        refine wf_ro dL_law_277 hro g277 ?_ (by omega)
        refine wf_cV (put := fun q => (q, G.2)) dL_law_278 k_RL_26 b_yX6_feed x_yX6_feed (pX6_feed (n := n + 4) hE (M := G.2) (xs (x3 + 1)) (xs (x3 + 2)) _ _) rfl (fun _ => rfl) (fun h hr => rd_top hr) rfl (fun r278 t278 ca => ?_)
        refine wf_bnd (fun G278 => ?_)
        refine wf_aload_n dL_law_281 rfl ?_
        refine wf_aload_n dL_law_282 rfl ?_
        refine wf_iload_n dL_law_283 rfl ?_
        refine wf_iconst dL_law_284 ?_
        refine wf_iadd dL_law_285 ?_
        refine wf_gd (fun g286 => ?_)
        refine wf_ro dL_law_286 hro g286 ?_ (by omega)
        refine wf_aload_n dL_law_287 rfl ?_
        refine wf_iload_n dL_law_288 rfl ?_
        refine wf_iconst dL_law_289 ?_
        refine wf_iadd dL_law_290 ?_
        refine wf_gd (fun g291 => ?_)
        refine wf_ro dL_law_291 hro g291 ?_ (by omega)
        refine wf_cV (put := fun q => (G278.1, q)) dL_law_292 k_RL_29 b_yX7_feed x_yX7_feed (pX7_feed (n := n + 9) hE (C := G278.1) (xs (x3 + 1)) (xs (x3 + 2)) _ _) rfl (fun _ => rfl) (fun h hr => rd_mod hr) rfl (fun r292 t292 ca => ?_)
        refine wf_bnd (fun G292 => ?_)
        refine wf_gd (fun g295 => ?_)
        refine wf_icmp_eqL 1073 dL_law_295 g295 ?_
        refine wf_iinc dL_law_1073 rfl ?_
        refine wf_goto 18 dL_law_1076 ?_
        exact wf_at (ih (x3 + 7) _ _) ⟨rfl, rfl, rfl, rfl, trivial⟩
      refine wf_ite (fun e33_4 => ?_) (fun e33_4 => ?_)
      · refine wf_tsK 4 300 dL_law_33 e33_4 ?_
        refine wf_aload_n dL_law_300 rfl ?_
        refine wf_aload_n dL_law_301 rfl ?_
        refine wf_iload_n dL_law_302 rfl ?_
        refine wf_iconst dL_law_303 ?_
        refine wf_iadd dL_law_304 ?_
        refine wf_gd (fun g305 => ?_)
        refine wf_ro dL_law_305 hro g305 ?_ (by omega)
        refine wf_aload_n dL_law_306 rfl ?_
        refine wf_iload_n dL_law_307 rfl ?_
        refine wf_iconst dL_law_308 ?_
        refine wf_iadd dL_law_309 ?_
        refine wf_gd (fun g310 => ?_)
        refine wf_ro dL_law_310 hro g310 ?_ (by omega)
        refine wf_cV (put := fun q => (q, G.2)) dL_law_311 k_RL_30 b_yX6_deposit x_yX6_deposit (pX6_deposit (n := n + 4) hE (M := G.2) (xs (x3 + 1)) (xs (x3 + 2)) _ _) rfl (fun _ => rfl) (fun h hr => rd_top hr) rfl (fun r311 t311 ca => ?_)
        refine wf_bnd (fun G311 => ?_)
        refine wf_aload_n dL_law_314 rfl ?_
        refine wf_aload_n dL_law_315 rfl ?_
        refine wf_iload_n dL_law_316 rfl ?_
        refine wf_iconst dL_law_317 ?_
        refine wf_iadd dL_law_318 ?_
        refine wf_gd (fun g319 => ?_)
        refine wf_ro dL_law_319 hro g319 ?_ (by omega)
        refine wf_aload_n dL_law_320 rfl ?_
        refine wf_iload_n dL_law_321 rfl ?_
        refine wf_iconst dL_law_322 ?_
        refine wf_iadd dL_law_323 ?_
        refine wf_gd (fun g324 => ?_)
        refine wf_ro dL_law_324 hro g324 ?_ (by omega)
        refine wf_cV (put := fun q => (G311.1, q)) dL_law_325 k_RL_33 b_yX7_deposit x_yX7_deposit (pX7_deposit (n := n + 8) hE (C := G311.1) (xs (x3 + 1)) (xs (x3 + 2)) _ _) rfl (fun _ => rfl) (fun h hr => rd_mod hr) rfl (fun r325 t325 ca => ?_)
        refine wf_bnd (fun G325 => ?_)
        refine wf_gd (fun g328 => ?_)
        refine wf_icmp_eqL 1073 dL_law_328 g328 ?_
        refine wf_iinc dL_law_1073 rfl ?_
        refine wf_goto 18 dL_law_1076 ?_
        exact wf_at (ih (x3 + 7) _ _) ⟨rfl, rfl, rfl, rfl, trivial⟩
      refine wf_ite (fun e33_5 => ?_) (fun e33_5 => ?_)
      · refine wf_tsK 5 333 dL_law_33 e33_5 ?_
        refine wf_aload_n dL_law_333 rfl ?_
        refine wf_aload_n dL_law_334 rfl ?_
        refine wf_iload_n dL_law_335 rfl ?_
        refine wf_iconst dL_law_336 ?_
        refine wf_iadd dL_law_337 ?_
        refine wf_gd (fun g338 => ?_)
        refine wf_ro dL_law_338 hro g338 ?_ (by omega)
        refine wf_aload_n dL_law_339 rfl ?_
        refine wf_iload_n dL_law_340 rfl ?_
        refine wf_iconst dL_law_341 ?_
        refine wf_iadd dL_law_342 ?_
        refine wf_gd (fun g343 => ?_)
        refine wf_ro dL_law_343 hro g343 ?_ (by omega)
        refine wf_aload_n dL_law_344 rfl ?_
        refine wf_iload_n dL_law_345 rfl ?_
        refine wf_iconst dL_law_346 ?_
        refine wf_iadd dL_law_347 ?_
        refine wf_gd (fun g348 => ?_)
        refine wf_ro dL_law_348 hro g348 ?_ (by omega)
        refine wf_aload_n dL_law_349 rfl ?_
        refine wf_iload_n dL_law_350 rfl ?_
        refine wf_iconst dL_law_351 ?_
        refine wf_iadd dL_law_352 ?_
        refine wf_gd (fun g353 => ?_)
        refine wf_ro dL_law_353 hro g353 ?_ (by omega)
        refine wf_aload_n dL_law_354 rfl ?_
        refine wf_iload_n dL_law_355 rfl ?_
        refine wf_iconst dL_law_356 ?_
        refine wf_iadd dL_law_357 ?_
        refine wf_gd (fun g358 => ?_)
        refine wf_ro dL_law_358 hro g358 ?_ (by omega)
        refine wf_aload_n dL_law_359 rfl ?_
        refine wf_iload_n dL_law_360 rfl ?_
        refine wf_bipush dL_law_361 ?_
        refine wf_iadd dL_law_363 ?_
        refine wf_gd (fun g364 => ?_)
        refine wf_ro dL_law_364 hro g364 ?_ (by omega)
        refine wf_cV (put := fun q => (q, G.2)) dL_law_365 k_RL_34 b_yX6_order x_yX6_order (pX6_order (n := n + 4) hE (M := G.2) (xs (x3 + 1)) (xs (x3 + 2)) (xs (x3 + 3)) (xs (x3 + 4)) (xs (x3 + 5)) (xs (x3 + 6)) _ _) rfl (fun _ => rfl) (fun h hr => rd_top hr) rfl (fun r365 t365 ca => ?_)
        refine wf_bnd (fun G365 => ?_)
        refine wf_aload_n dL_law_368 rfl ?_
        refine wf_aload_n dL_law_369 rfl ?_
        refine wf_iload_n dL_law_370 rfl ?_
        refine wf_iconst dL_law_371 ?_
        refine wf_iadd dL_law_372 ?_
        refine wf_gd (fun g373 => ?_)
        refine wf_ro dL_law_373 hro g373 ?_ (by omega)
        refine wf_aload_n dL_law_374 rfl ?_
        refine wf_iload_n dL_law_375 rfl ?_
        refine wf_iconst dL_law_376 ?_
        refine wf_iadd dL_law_377 ?_
        refine wf_gd (fun g378 => ?_)
        refine wf_ro dL_law_378 hro g378 ?_ (by omega)
        refine wf_aload_n dL_law_379 rfl ?_
        refine wf_iload_n dL_law_380 rfl ?_
        refine wf_iconst dL_law_381 ?_
        refine wf_iadd dL_law_382 ?_
        refine wf_gd (fun g383 => ?_)
        refine wf_ro dL_law_383 hro g383 ?_ (by omega)
        refine wf_aload_n dL_law_384 rfl ?_
        refine wf_iload_n dL_law_385 rfl ?_
        refine wf_iconst dL_law_386 ?_
        refine wf_iadd dL_law_387 ?_
        refine wf_gd (fun g388 => ?_)
        refine wf_ro dL_law_388 hro g388 ?_ (by omega)
        refine wf_aload_n dL_law_389 rfl ?_
        refine wf_iload_n dL_law_390 rfl ?_
        refine wf_iconst dL_law_391 ?_
        refine wf_iadd dL_law_392 ?_
        refine wf_gd (fun g393 => ?_)
        refine wf_ro dL_law_393 hro g393 ?_ (by omega)
        refine wf_aload_n dL_law_394 rfl ?_
        refine wf_iload_n dL_law_395 rfl ?_
        refine wf_bipush dL_law_396 ?_
        refine wf_iadd dL_law_398 ?_
        refine wf_gd (fun g399 => ?_)
        refine wf_ro dL_law_399 hro g399 ?_ (by omega)
        refine wf_cV (put := fun q => (G365.1, q)) dL_law_400 k_RL_38 b_yX7_order x_yX7_order (pX7_order (n := n + 2) hE (C := G365.1) (xs (x3 + 1)) (xs (x3 + 2)) (xs (x3 + 3)) (xs (x3 + 4)) (xs (x3 + 5)) (xs (x3 + 6)) _ _) rfl (fun _ => rfl) (fun h hr => rd_mod hr) rfl (fun r400 t400 ca => ?_)
        refine wf_bnd (fun G400 => ?_)
        refine wf_gd (fun g403 => ?_)
        refine wf_icmp_eqL 1073 dL_law_403 g403 ?_
        refine wf_iinc dL_law_1073 rfl ?_
        refine wf_goto 18 dL_law_1076 ?_
        exact wf_at (ih (x3 + 7) _ _) ⟨rfl, rfl, rfl, rfl, trivial⟩
      refine wf_ite (fun e33_6 => ?_) (fun e33_6 => ?_)
      · refine wf_tsK 6 408 dL_law_33 e33_6 ?_
        refine wf_aload_n dL_law_408 rfl ?_
        refine wf_aload_n dL_law_409 rfl ?_
        refine wf_iload_n dL_law_410 rfl ?_
        refine wf_iconst dL_law_411 ?_
        refine wf_iadd dL_law_412 ?_
        refine wf_gd (fun g413 => ?_)
        refine wf_ro dL_law_413 hro g413 ?_ (by omega)
        refine wf_aload_n dL_law_414 rfl ?_
        refine wf_iload_n dL_law_415 rfl ?_
        refine wf_iconst dL_law_416 ?_
        refine wf_iadd dL_law_417 ?_
        refine wf_gd (fun g418 => ?_)
        refine wf_ro dL_law_418 hro g418 ?_ (by omega)
        refine wf_aload_n dL_law_419 rfl ?_
        refine wf_iload_n dL_law_420 rfl ?_
        refine wf_iconst dL_law_421 ?_
        refine wf_iadd dL_law_422 ?_
        refine wf_gd (fun g423 => ?_)
        refine wf_ro dL_law_423 hro g423 ?_ (by omega)
        refine wf_cV (put := fun q => (q, G.2)) dL_law_424 k_RL_39 b_yX6_change x_yX6_change (pX6_change (n := n + 4) hE (M := G.2) (xs (x3 + 1)) (xs (x3 + 2)) (xs (x3 + 3)) _ _) rfl (fun _ => rfl) (fun h hr => rd_top hr) rfl (fun r424 t424 ca => ?_)
        refine wf_bnd (fun G424 => ?_)
        refine wf_aload_n dL_law_427 rfl ?_
        refine wf_aload_n dL_law_428 rfl ?_
        refine wf_iload_n dL_law_429 rfl ?_
        refine wf_iconst dL_law_430 ?_
        refine wf_iadd dL_law_431 ?_
        refine wf_gd (fun g432 => ?_)
        refine wf_ro dL_law_432 hro g432 ?_ (by omega)
        refine wf_aload_n dL_law_433 rfl ?_
        refine wf_iload_n dL_law_434 rfl ?_
        refine wf_iconst dL_law_435 ?_
        refine wf_iadd dL_law_436 ?_
        refine wf_gd (fun g437 => ?_)
        refine wf_ro dL_law_437 hro g437 ?_ (by omega)
        refine wf_aload_n dL_law_438 rfl ?_
        refine wf_iload_n dL_law_439 rfl ?_
        refine wf_iconst dL_law_440 ?_
        refine wf_iadd dL_law_441 ?_
        refine wf_gd (fun g442 => ?_)
        refine wf_ro dL_law_442 hro g442 ?_ (by omega)
        refine wf_cV (put := fun q => (G424.1, q)) dL_law_443 k_RL_43 b_yX7_change x_yX7_change (pX7_change (n := n + 9) hE (C := G424.1) (xs (x3 + 1)) (xs (x3 + 2)) (xs (x3 + 3)) _ _) rfl (fun _ => rfl) (fun h hr => rd_mod hr) rfl (fun r443 t443 ca => ?_)
        refine wf_bnd (fun G443 => ?_)
        refine wf_gd (fun g446 => ?_)
        refine wf_icmp_eqL 1073 dL_law_446 g446 ?_
        refine wf_iinc dL_law_1073 rfl ?_
        refine wf_goto 18 dL_law_1076 ?_
        exact wf_at (ih (x3 + 7) _ _) ⟨rfl, rfl, rfl, rfl, trivial⟩
      refine wf_ite (fun e33_7 => ?_) (fun e33_7 => ?_)
      · refine wf_tsK 7 451 dL_law_33 e33_7 ?_
        refine wf_aload_n dL_law_451 rfl ?_
        refine wf_aload_n dL_law_452 rfl ?_
        refine wf_iload_n dL_law_453 rfl ?_
        refine wf_iconst dL_law_454 ?_
        refine wf_iadd dL_law_455 ?_
        refine wf_gd (fun g456 => ?_)
        refine wf_ro dL_law_456 hro g456 ?_ (by omega)
        refine wf_cV (put := fun q => (q, G.2)) dL_law_457 k_RL_44 b_yX6_stop x_yX6_stop (pX6_stop (n := n + 4) hE (M := G.2) (xs (x3 + 1)) _ _) rfl (fun _ => rfl) (fun h hr => rd_top hr) rfl (fun r457 t457 ca => ?_)
        refine wf_bnd (fun G457 => ?_)
        refine wf_aload_n dL_law_460 rfl ?_
        refine wf_aload_n dL_law_461 rfl ?_
        refine wf_iload_n dL_law_462 rfl ?_
        refine wf_iconst dL_law_463 ?_
        refine wf_iadd dL_law_464 ?_
        refine wf_gd (fun g465 => ?_)
        refine wf_ro dL_law_465 hro g465 ?_ (by omega)
        refine wf_cV (put := fun q => (G457.1, q)) dL_law_466 k_RL_48 b_yX7_stop x_yX7_stop (pX7_stop (n := n + 8) hE (C := G457.1) (xs (x3 + 1)) _ _) rfl (fun _ => rfl) (fun h hr => rd_mod hr) rfl (fun r466 t466 ca => ?_)
        refine wf_bnd (fun G466 => ?_)
        refine wf_gd (fun g469 => ?_)
        refine wf_icmp_eqL 1073 dL_law_469 g469 ?_
        refine wf_iinc dL_law_1073 rfl ?_
        refine wf_goto 18 dL_law_1076 ?_
        exact wf_at (ih (x3 + 7) _ _) ⟨rfl, rfl, rfl, rfl, trivial⟩
      refine wf_ite (fun e33_8 => ?_) (fun e33_8 => ?_)
      · refine wf_tsK 8 474 dL_law_33 e33_8 ?_
        refine wf_aload_n dL_law_474 rfl ?_
        refine wf_aload_n dL_law_475 rfl ?_
        refine wf_iload_n dL_law_476 rfl ?_
        refine wf_iconst dL_law_477 ?_
        refine wf_iadd dL_law_478 ?_
        refine wf_gd (fun g479 => ?_)
        refine wf_ro dL_law_479 hro g479 ?_ (by omega)
        refine wf_cV (put := fun q => (q, G.2)) dL_law_480 k_RL_49 b_yX6_goOn x_yX6_goOn (pX6_goOn (n := n + 4) hE (M := G.2) (xs (x3 + 1)) _ _) rfl (fun _ => rfl) (fun h hr => rd_top hr) rfl (fun r480 t480 ca => ?_)
        refine wf_bnd (fun G480 => ?_)
        refine wf_aload_n dL_law_483 rfl ?_
        refine wf_aload_n dL_law_484 rfl ?_
        refine wf_iload_n dL_law_485 rfl ?_
        refine wf_iconst dL_law_486 ?_
        refine wf_iadd dL_law_487 ?_
        refine wf_gd (fun g488 => ?_)
        refine wf_ro dL_law_488 hro g488 ?_ (by omega)
        refine wf_cV (put := fun q => (G480.1, q)) dL_law_489 k_RL_52 b_yX7_goOn x_yX7_goOn (pX7_goOn (n := n + 2) hE (C := G480.1) (xs (x3 + 1)) _ _) rfl (fun _ => rfl) (fun h hr => rd_mod hr) rfl (fun r489 t489 ca => ?_)
        refine wf_bnd (fun G489 => ?_)
        refine wf_gd (fun g492 => ?_)
        refine wf_icmp_eqL 1073 dL_law_492 g492 ?_
        refine wf_iinc dL_law_1073 rfl ?_
        refine wf_goto 18 dL_law_1076 ?_
        exact wf_at (ih (x3 + 7) _ _) ⟨rfl, rfl, rfl, rfl, trivial⟩
      refine wf_ite (fun e33_9 => ?_) (fun e33_9 => ?_)
      · refine wf_tsK 9 497 dL_law_33 e33_9 ?_
        refine wf_aload_n dL_law_497 rfl ?_
        refine wf_aload_n dL_law_498 rfl ?_
        refine wf_iload_n dL_law_499 rfl ?_
        refine wf_iconst dL_law_500 ?_
        refine wf_iadd dL_law_501 ?_
        refine wf_gd (fun g502 => ?_)
        refine wf_ro dL_law_502 hro g502 ?_ (by omega)
        refine wf_cV (put := fun q => (q, G.2)) dL_law_503 k_RL_53 b_yX6_giveUp x_yX6_giveUp (pX6_giveUp (n := n + 4) hE (M := G.2) (xs (x3 + 1)) _ _) rfl (fun _ => rfl) (fun h hr => rd_top hr) rfl (fun r503 t503 ca => ?_)
        refine wf_bnd (fun G503 => ?_)
        refine wf_aload_n dL_law_506 rfl ?_
        refine wf_aload_n dL_law_507 rfl ?_
        refine wf_iload_n dL_law_508 rfl ?_
        refine wf_iconst dL_law_509 ?_
        refine wf_iadd dL_law_510 ?_
        refine wf_gd (fun g511 => ?_)
        refine wf_ro dL_law_511 hro g511 ?_ (by omega)
        refine wf_cV (put := fun q => (G503.1, q)) dL_law_512 k_RL_56 b_yX7_giveUp x_yX7_giveUp (pX7_giveUp (n := n + 9) hE (C := G503.1) (xs (x3 + 1)) _ _) rfl (fun _ => rfl) (fun h hr => rd_mod hr) rfl (fun r512 t512 ca => ?_)
        refine wf_bnd (fun G512 => ?_)
        refine wf_gd (fun g515 => ?_)
        refine wf_icmp_eqL 1073 dL_law_515 g515 ?_
        refine wf_iinc dL_law_1073 rfl ?_
        refine wf_goto 18 dL_law_1076 ?_
        exact wf_at (ih (x3 + 7) _ _) ⟨rfl, rfl, rfl, rfl, trivial⟩
      refine wf_ite (fun e33_10 => ?_) (fun e33_10 => ?_)
      · refine wf_tsK 10 520 dL_law_33 e33_10 ?_
        refine wf_aload_n dL_law_520 rfl ?_
        refine wf_aload_n dL_law_521 rfl ?_
        refine wf_iload_n dL_law_522 rfl ?_
        refine wf_iconst dL_law_523 ?_
        refine wf_iadd dL_law_524 ?_
        refine wf_gd (fun g525 => ?_)
        refine wf_ro dL_law_525 hro g525 ?_ (by omega)
        refine wf_cV (put := fun q => (q, G.2)) dL_law_526 k_RL_57 b_yX6_days x_yX6_days (pX6_days (n := n + 3) hE (M := G.2) (xs (x3 + 1)) _ _) rfl (fun _ => rfl) (fun h hr => rd_top hr) rfl (fun r526 t526 ca => ?_)
        refine wf_bnd (fun G526 => ?_)
        refine wf_aload_n dL_law_529 rfl ?_
        refine wf_aload_n dL_law_530 rfl ?_
        refine wf_iload_n dL_law_531 rfl ?_
        refine wf_iconst dL_law_532 ?_
        refine wf_iadd dL_law_533 ?_
        refine wf_gd (fun g534 => ?_)
        refine wf_ro dL_law_534 hro g534 ?_ (by omega)
        refine wf_cV (put := fun q => (G526.1, q)) dL_law_535 k_RL_60 b_yX7_days x_yX7_days (pX7_days (n := n + 1) hE (C := G526.1) (xs (x3 + 1)) _ _) rfl (fun _ => rfl) (fun h hr => rd_mod hr) rfl (fun r535 t535 ca => ?_)
        refine wf_bnd (fun G535 => ?_)
        refine wf_gd (fun g538 => ?_)
        refine wf_icmp_eqL 1073 dL_law_538 g538 ?_
        refine wf_iinc dL_law_1073 rfl ?_
        refine wf_goto 18 dL_law_1076 ?_
        exact wf_at (ih (x3 + 7) _ _) ⟨rfl, rfl, rfl, rfl, trivial⟩
      refine wf_ite (fun e33_11 => ?_) (fun e33_11 => ?_)
      · refine wf_tsK 11 543 dL_law_33 e33_11 ?_
        refine wf_aload_n dL_law_543 rfl ?_
        refine wf_aload_n dL_law_544 rfl ?_
        refine wf_iload_n dL_law_545 rfl ?_
        refine wf_iconst dL_law_546 ?_
        refine wf_iadd dL_law_547 ?_
        refine wf_gd (fun g548 => ?_)
        refine wf_ro dL_law_548 hro g548 ?_ (by omega)
        refine wf_aload_n dL_law_549 rfl ?_
        refine wf_iload_n dL_law_550 rfl ?_
        refine wf_iconst dL_law_551 ?_
        refine wf_iadd dL_law_552 ?_
        refine wf_gd (fun g553 => ?_)
        refine wf_ro dL_law_553 hro g553 ?_ (by omega)
        refine wf_rV dL_law_554 k_RL_61 b_yX6_ofDay x_yX6_ofDay (fun h hr => pX6_ofDay (n := n + 8) hE (M := G.2) (c := G.1) hr (xs (x3 + 1)) (xs (x3 + 2))) (fun h hr => rd_top hr) rfl (fun r554 => ?_)
        refine wf_aload_n dL_law_557 rfl ?_
        refine wf_aload_n dL_law_558 rfl ?_
        refine wf_iload_n dL_law_559 rfl ?_
        refine wf_iconst dL_law_560 ?_
        refine wf_iadd dL_law_561 ?_
        refine wf_gd (fun g562 => ?_)
        refine wf_ro dL_law_562 hro g562 ?_ (by omega)
        refine wf_aload_n dL_law_563 rfl ?_
        refine wf_iload_n dL_law_564 rfl ?_
        refine wf_iconst dL_law_565 ?_
        refine wf_iadd dL_law_566 ?_
        refine wf_gd (fun g567 => ?_)
        refine wf_ro dL_law_567 hro g567 ?_ (by omega)
        refine wf_rV dL_law_568 k_RL_64 b_yX7_ofDay x_yX7_ofDay (fun h hr => pX7_ofDay (n := n + 7) hE (C := G.1) (m := G.2) hr (xs (x3 + 1)) (xs (x3 + 2))) (fun h hr => rd_mod hr) rfl (fun r568 => ?_)
        refine wf_gd (fun g571 => ?_)
        refine wf_icmp_eqL 1073 dL_law_571 g571 ?_
        refine wf_iinc dL_law_1073 rfl ?_
        refine wf_goto 18 dL_law_1076 ?_
        exact wf_at (ih (x3 + 7) _ _) ⟨rfl, rfl, rfl, rfl, trivial⟩
      refine wf_ite (fun e33_12 => ?_) (fun e33_12 => ?_)
      · refine wf_tsK 12 576 dL_law_33 e33_12 ?_
        refine wf_aload_n dL_law_576 rfl ?_
        refine wf_aload_n dL_law_577 rfl ?_
        refine wf_iload_n dL_law_578 rfl ?_
        refine wf_iconst dL_law_579 ?_
        refine wf_iadd dL_law_580 ?_
        refine wf_gd (fun g581 => ?_)
        refine wf_ro dL_law_581 hro g581 ?_ (by omega)
        refine wf_aload_n dL_law_582 rfl ?_
        refine wf_iload_n dL_law_583 rfl ?_
        refine wf_iconst dL_law_584 ?_
        refine wf_iadd dL_law_585 ?_
        refine wf_gd (fun g586 => ?_)
        refine wf_ro dL_law_586 hro g586 ?_ (by omega)
        refine wf_rV dL_law_587 k_RL_65 b_yX6_money x_yX6_money (fun h hr => pX6_money (n := n + 10) hE (M := G.2) (c := G.1) hr (xs (x3 + 1)) (xs (x3 + 2))) (fun h hr => rd_top hr) rfl (fun r587 => ?_)
        refine wf_aload_n dL_law_590 rfl ?_
        refine wf_aload_n dL_law_591 rfl ?_
        refine wf_iload_n dL_law_592 rfl ?_
        refine wf_iconst dL_law_593 ?_
        refine wf_iadd dL_law_594 ?_
        refine wf_gd (fun g595 => ?_)
        refine wf_ro dL_law_595 hro g595 ?_ (by omega)
        refine wf_aload_n dL_law_596 rfl ?_
        refine wf_iload_n dL_law_597 rfl ?_
        refine wf_iconst dL_law_598 ?_
        refine wf_iadd dL_law_599 ?_
        refine wf_gd (fun g600 => ?_)
        refine wf_ro dL_law_600 hro g600 ?_ (by omega)
        refine wf_rV dL_law_601 k_RL_69 b_yX7_money x_yX7_money (fun h hr => pX7_money (n := n + 8) hE (C := G.1) (m := G.2) hr (xs (x3 + 1)) (xs (x3 + 2))) (fun h hr => rd_mod hr) rfl (fun r601 => ?_)
        refine wf_gd (fun g604 => ?_)
        refine wf_jcmp_eqL 1073 dL_law_604 dL_law_605 g604 ?_
        refine wf_iinc dL_law_1073 rfl ?_
        refine wf_goto 18 dL_law_1076 ?_
        exact wf_at (ih (x3 + 7) _ _) ⟨rfl, rfl, rfl, rfl, trivial⟩
      refine wf_ite (fun e33_13 => ?_) (fun e33_13 => ?_)
      · refine wf_tsK 13 610 dL_law_33 e33_13 ?_
        refine wf_aload_n dL_law_610 rfl ?_
        refine wf_aload_n dL_law_611 rfl ?_
        refine wf_iload_n dL_law_612 rfl ?_
        refine wf_iconst dL_law_613 ?_
        refine wf_iadd dL_law_614 ?_
        refine wf_gd (fun g615 => ?_)
        refine wf_ro dL_law_615 hro g615 ?_ (by omega)
        refine wf_rV dL_law_616 k_RL_70 b_yX6_owedBits x_yX6_owedBits (fun h hr => pX6_owedBits (n := n + 10) hE (M := G.2) (c := G.1) hr (xs (x3 + 1))) (fun h hr => rd_top hr) rfl (fun r616 => ?_)
        refine wf_aload_n dL_law_619 rfl ?_
        refine wf_aload_n dL_law_620 rfl ?_
        refine wf_iload_n dL_law_621 rfl ?_
        refine wf_iconst dL_law_622 ?_
        refine wf_iadd dL_law_623 ?_
        refine wf_gd (fun g624 => ?_)
        refine wf_ro dL_law_624 hro g624 ?_ (by omega)
        refine wf_rV dL_law_625 k_RL_74 b_yX7_owedBits x_yX7_owedBits (fun h hr => pX7_owedBits (n := n + 9) hE (C := G.1) (m := G.2) hr (xs (x3 + 1))) (fun h hr => rd_mod hr) rfl (fun r625 => ?_)
        refine wf_gd (fun g628 => ?_)
        refine wf_jcmp_eqL 1073 dL_law_628 dL_law_629 g628 ?_
        refine wf_iinc dL_law_1073 rfl ?_
        refine wf_goto 18 dL_law_1076 ?_
        exact wf_at (ih (x3 + 7) _ _) ⟨rfl, rfl, rfl, rfl, trivial⟩
      refine wf_ite (fun e33_14 => ?_) (fun e33_14 => ?_)
      · refine wf_tsK 14 634 dL_law_33 e33_14 ?_
        refine wf_aload_n dL_law_634 rfl ?_
        refine wf_aload_n dL_law_635 rfl ?_
        refine wf_iload_n dL_law_636 rfl ?_
        refine wf_iconst dL_law_637 ?_
        refine wf_iadd dL_law_638 ?_
        refine wf_gd (fun g639 => ?_)
        refine wf_ro dL_law_639 hro g639 ?_ (by omega)
        refine wf_aload_n dL_law_640 rfl ?_
        refine wf_iload_n dL_law_641 rfl ?_
        refine wf_iconst dL_law_642 ?_
        refine wf_iadd dL_law_643 ?_
        refine wf_gd (fun g644 => ?_)
        refine wf_ro dL_law_644 hro g644 ?_ (by omega)
        refine wf_cV (put := fun q => (q, G.2)) dL_law_645 k_RL_75 b_yX6_ofOrder x_yX6_ofOrder (pX6_ofOrder (n := n + 6) hE (M := G.2) (xs (x3 + 1)) (xs (x3 + 2)) _ _) rfl (fun _ => rfl) (fun h hr => rd_top hr) rfl (fun r645 t645 ca => ?_)
        refine wf_bnd (fun G645 => ?_)
        refine wf_aload_n dL_law_648 rfl ?_
        refine wf_aload_n dL_law_649 rfl ?_
        refine wf_iload_n dL_law_650 rfl ?_
        refine wf_iconst dL_law_651 ?_
        refine wf_iadd dL_law_652 ?_
        refine wf_gd (fun g653 => ?_)
        refine wf_ro dL_law_653 hro g653 ?_ (by omega)
        refine wf_aload_n dL_law_654 rfl ?_
        refine wf_iload_n dL_law_655 rfl ?_
        refine wf_iconst dL_law_656 ?_
        refine wf_iadd dL_law_657 ?_
        refine wf_gd (fun g658 => ?_)
        refine wf_ro dL_law_658 hro g658 ?_ (by omega)
        refine wf_rV dL_law_659 k_RL_78 b_yX7_ofOrder x_yX7_ofOrder (fun h hr => pX7_ofOrder (n := n + 4) hE (C := G645.1) (m := G645.2) hr (xs (x3 + 1)) (xs (x3 + 2))) (fun h hr => rd_mod hr) rfl (fun r659 => ?_)
        refine wf_gd (fun g662 => ?_)
        refine wf_icmp_eqL 1073 dL_law_662 g662 ?_
        refine wf_iinc dL_law_1073 rfl ?_
        refine wf_goto 18 dL_law_1076 ?_
        exact wf_at (ih (x3 + 7) _ _) ⟨rfl, rfl, rfl, rfl, trivial⟩
      refine wf_ite (fun e33_15 => ?_) (fun e33_15 => ?_)
      · refine wf_tsK 15 667 dL_law_33 e33_15 ?_
        refine wf_aload_n dL_law_667 rfl ?_
        refine wf_aload_n dL_law_668 rfl ?_
        refine wf_iload_n dL_law_669 rfl ?_
        refine wf_iconst dL_law_670 ?_
        refine wf_iadd dL_law_671 ?_
        refine wf_gd (fun g672 => ?_)
        refine wf_ro dL_law_672 hro g672 ?_ (by omega)
        refine wf_aload_n dL_law_673 rfl ?_
        refine wf_iload_n dL_law_674 rfl ?_
        refine wf_iconst dL_law_675 ?_
        refine wf_iadd dL_law_676 ?_
        refine wf_gd (fun g677 => ?_)
        refine wf_ro dL_law_677 hro g677 ?_ (by omega)
        refine wf_rV dL_law_678 k_RL_79 b_yX6_ofPayment x_yX6_ofPayment (fun h hr => pX6_ofPayment (n := n + 10) hE (M := G.2) (c := G.1) hr (xs (x3 + 1)) (xs (x3 + 2))) (fun h hr => rd_top hr) rfl (fun r678 => ?_)
        refine wf_aload_n dL_law_681 rfl ?_
        refine wf_aload_n dL_law_682 rfl ?_
        refine wf_iload_n dL_law_683 rfl ?_
        refine wf_iconst dL_law_684 ?_
        refine wf_iadd dL_law_685 ?_
        refine wf_gd (fun g686 => ?_)
        refine wf_ro dL_law_686 hro g686 ?_ (by omega)
        refine wf_aload_n dL_law_687 rfl ?_
        refine wf_iload_n dL_law_688 rfl ?_
        refine wf_iconst dL_law_689 ?_
        refine wf_iadd dL_law_690 ?_
        refine wf_gd (fun g691 => ?_)
        refine wf_ro dL_law_691 hro g691 ?_ (by omega)
        refine wf_rV dL_law_692 k_RL_82 b_yX7_ofPayment x_yX7_ofPayment (fun h hr => pX7_ofPayment (n := n + 10) hE (C := G.1) (m := G.2) hr (xs (x3 + 1)) (xs (x3 + 2))) (fun h hr => rd_mod hr) rfl (fun r692 => ?_)
        refine wf_gd (fun g695 => ?_)
        refine wf_icmp_eqL 1073 dL_law_695 g695 ?_
        refine wf_iinc dL_law_1073 rfl ?_
        refine wf_goto 18 dL_law_1076 ?_
        exact wf_at (ih (x3 + 7) _ _) ⟨rfl, rfl, rfl, rfl, trivial⟩
      refine wf_ite (fun e33_16 => ?_) (fun e33_16 => ?_)
      · refine wf_tsK 16 700 dL_law_33 e33_16 ?_
        refine wf_aload_n dL_law_700 rfl ?_
        refine wf_aload_n dL_law_701 rfl ?_
        refine wf_iload_n dL_law_702 rfl ?_
        refine wf_iconst dL_law_703 ?_
        refine wf_iadd dL_law_704 ?_
        refine wf_gd (fun g705 => ?_)
        refine wf_ro dL_law_705 hro g705 ?_ (by omega)
        refine wf_rV dL_law_706 k_RL_83 b_yX6_count x_yX6_count (fun h hr => pX6_count (n := n + 8) hE (M := G.2) (c := G.1) hr (xs (x3 + 1))) (fun h hr => rd_top hr) rfl (fun r706 => ?_)
        refine wf_aload_n dL_law_709 rfl ?_
        refine wf_aload_n dL_law_710 rfl ?_
        refine wf_iload_n dL_law_711 rfl ?_
        refine wf_iconst dL_law_712 ?_
        refine wf_iadd dL_law_713 ?_
        refine wf_gd (fun g714 => ?_)
        refine wf_ro dL_law_714 hro g714 ?_ (by omega)
        refine wf_rV dL_law_715 k_RL_86 b_yX7_count x_yX7_count (fun h hr => pX7_count (n := n + 10) hE (C := G.1) (m := G.2) hr (xs (x3 + 1))) (fun h hr => rd_mod hr) rfl (fun r715 => ?_)
        refine wf_gd (fun g718 => ?_)
        refine wf_icmp_eqL 1073 dL_law_718 g718 ?_
        refine wf_iinc dL_law_1073 rfl ?_
        refine wf_goto 18 dL_law_1076 ?_
        exact wf_at (ih (x3 + 7) _ _) ⟨rfl, rfl, rfl, rfl, trivial⟩
      refine wf_ite (fun e33_17 => ?_) (fun e33_17 => ?_)
      · refine wf_tsK 17 723 dL_law_33 e33_17 ?_
        refine wf_aload_n dL_law_723 rfl ?_
        refine wf_aload_n dL_law_724 rfl ?_
        refine wf_iload_n dL_law_725 rfl ?_
        refine wf_iconst dL_law_726 ?_
        refine wf_iadd dL_law_727 ?_
        refine wf_gd (fun g728 => ?_)
        refine wf_ro dL_law_728 hro g728 ?_ (by omega)
        refine wf_aload_n dL_law_729 rfl ?_
        refine wf_iload_n dL_law_730 rfl ?_
        refine wf_iconst dL_law_731 ?_
        refine wf_iadd dL_law_732 ?_
        refine wf_gd (fun g733 => ?_)
        refine wf_ro dL_law_733 hro g733 ?_ (by omega)
        refine wf_cV (put := fun q => (q, G.2)) dL_law_734 k_RL_87 b_yX6_dateOf x_yX6_dateOf (pX6_dateOf (n := n + 6) hE (M := G.2) (xs (x3 + 1)) (xs (x3 + 2)) _ _) rfl (fun _ => rfl) (fun h hr => rd_top hr) rfl (fun r734 t734 ca => ?_)
        refine wf_bnd (fun G734 => ?_)
        refine wf_aload_n dL_law_737 rfl ?_
        refine wf_aload_n dL_law_738 rfl ?_
        refine wf_iload_n dL_law_739 rfl ?_
        refine wf_iconst dL_law_740 ?_
        refine wf_iadd dL_law_741 ?_
        refine wf_gd (fun g742 => ?_)
        refine wf_ro dL_law_742 hro g742 ?_ (by omega)
        refine wf_aload_n dL_law_743 rfl ?_
        refine wf_iload_n dL_law_744 rfl ?_
        refine wf_iconst dL_law_745 ?_
        refine wf_iadd dL_law_746 ?_
        refine wf_gd (fun g747 => ?_)
        refine wf_ro dL_law_747 hro g747 ?_ (by omega)
        refine wf_rV dL_law_748 k_RL_90 b_yX7_dateOf x_yX7_dateOf (fun h hr => pX7_dateOf (n := n + 4) hE (C := G734.1) (m := G734.2) hr (xs (x3 + 1)) (xs (x3 + 2))) (fun h hr => rd_mod hr) rfl (fun r748 => ?_)
        refine wf_gd (fun g751 => ?_)
        refine wf_icmp_eqL 1073 dL_law_751 g751 ?_
        refine wf_iinc dL_law_1073 rfl ?_
        refine wf_goto 18 dL_law_1076 ?_
        exact wf_at (ih (x3 + 7) _ _) ⟨rfl, rfl, rfl, rfl, trivial⟩
      refine wf_ite (fun e33_18 => ?_) (fun e33_18 => ?_)
      · refine wf_tsK 18 756 dL_law_33 e33_18 ?_
        refine wf_aload_n dL_law_756 rfl ?_
        refine wf_aload_n dL_law_757 rfl ?_
        refine wf_iload_n dL_law_758 rfl ?_
        refine wf_iconst dL_law_759 ?_
        refine wf_iadd dL_law_760 ?_
        refine wf_gd (fun g761 => ?_)
        refine wf_ro dL_law_761 hro g761 ?_ (by omega)
        refine wf_aload_n dL_law_762 rfl ?_
        refine wf_iload_n dL_law_763 rfl ?_
        refine wf_iconst dL_law_764 ?_
        refine wf_iadd dL_law_765 ?_
        refine wf_gd (fun g766 => ?_)
        refine wf_ro dL_law_766 hro g766 ?_ (by omega)
        refine wf_rV dL_law_767 k_RL_91 b_yX6_shift x_yX6_shift (fun h hr => pX6_shift (n := n + 8) hE (M := G.2) (c := G.1) hr (xs (x3 + 1)) (xs (x3 + 2))) (fun h hr => rd_top hr) rfl (fun r767 => ?_)
        refine wf_aload_n dL_law_770 rfl ?_
        refine wf_aload_n dL_law_771 rfl ?_
        refine wf_iload_n dL_law_772 rfl ?_
        refine wf_iconst dL_law_773 ?_
        refine wf_iadd dL_law_774 ?_
        refine wf_gd (fun g775 => ?_)
        refine wf_ro dL_law_775 hro g775 ?_ (by omega)
        refine wf_aload_n dL_law_776 rfl ?_
        refine wf_iload_n dL_law_777 rfl ?_
        refine wf_iconst dL_law_778 ?_
        refine wf_iadd dL_law_779 ?_
        refine wf_gd (fun g780 => ?_)
        refine wf_ro dL_law_780 hro g780 ?_ (by omega)
        refine wf_rV dL_law_781 k_RL_94 b_yX7_shift x_yX7_shift (fun h hr => pX7_shift (n := n + 6) hE (C := G.1) (m := G.2) hr (xs (x3 + 1)) (xs (x3 + 2))) (fun h hr => rd_mod hr) rfl (fun r781 => ?_)
        refine wf_gd (fun g784 => ?_)
        refine wf_icmp_eqL 1073 dL_law_784 g784 ?_
        refine wf_iinc dL_law_1073 rfl ?_
        refine wf_goto 18 dL_law_1076 ?_
        exact wf_at (ih (x3 + 7) _ _) ⟨rfl, rfl, rfl, rfl, trivial⟩
      refine wf_ite (fun e33_19 => ?_) (fun e33_19 => ?_)
      · refine wf_tsK 19 789 dL_law_33 e33_19 ?_
        refine wf_aload_n dL_law_789 rfl ?_
        refine wf_aload_n dL_law_790 rfl ?_
        refine wf_iload_n dL_law_791 rfl ?_
        refine wf_iconst dL_law_792 ?_
        refine wf_iadd dL_law_793 ?_
        refine wf_gd (fun g794 => ?_)
        refine wf_ro dL_law_794 hro g794 ?_ (by omega)
        refine wf_aload_n dL_law_795 rfl ?_
        refine wf_iload_n dL_law_796 rfl ?_
        refine wf_iconst dL_law_797 ?_
        refine wf_iadd dL_law_798 ?_
        refine wf_gd (fun g799 => ?_)
        refine wf_ro dL_law_799 hro g799 ?_ (by omega)
        refine wf_cV (put := fun q => (q, G.2)) dL_law_800 k_RL_95 b_yX6_balanceIn x_yX6_balanceIn (pX6_balanceIn (n := n + 3) hE (M := G.2) (xs (x3 + 1)) (xs (x3 + 2)) _ _) rfl (fun _ => rfl) (fun h hr => rd_top hr) rfl (fun r800 t800 ca => ?_)
        refine wf_bnd (fun G800 => ?_)
        refine wf_aload_n dL_law_803 rfl ?_
        refine wf_aload_n dL_law_804 rfl ?_
        refine wf_iload_n dL_law_805 rfl ?_
        refine wf_iconst dL_law_806 ?_
        refine wf_iadd dL_law_807 ?_
        refine wf_gd (fun g808 => ?_)
        refine wf_ro dL_law_808 hro g808 ?_ (by omega)
        refine wf_aload_n dL_law_809 rfl ?_
        refine wf_iload_n dL_law_810 rfl ?_
        refine wf_iconst dL_law_811 ?_
        refine wf_iadd dL_law_812 ?_
        refine wf_gd (fun g813 => ?_)
        refine wf_ro dL_law_813 hro g813 ?_ (by omega)
        refine wf_cV (put := fun q => (G800.1, q)) dL_law_814 k_RL_98 b_yX7_balanceIn x_yX7_balanceIn (pX7_balanceIn (n := n + 1) hE (C := G800.1) (xs (x3 + 1)) (xs (x3 + 2)) _ _) rfl (fun _ => rfl) (fun h hr => rd_mod hr) rfl (fun r814 t814 ca => ?_)
        refine wf_bnd (fun G814 => ?_)
        refine wf_gd (fun g817 => ?_)
        refine wf_jcmp_eqL 1073 dL_law_817 dL_law_818 g817 ?_
        refine wf_iinc dL_law_1073 rfl ?_
        refine wf_goto 18 dL_law_1076 ?_
        exact wf_at (ih (x3 + 7) _ _) ⟨rfl, rfl, rfl, rfl, trivial⟩
      refine wf_ite (fun e33_20 => ?_) (fun e33_20 => ?_)
      · refine wf_tsK 20 823 dL_law_33 e33_20 ?_
        refine wf_aload_n dL_law_823 rfl ?_
        refine wf_aload_n dL_law_824 rfl ?_
        refine wf_iload_n dL_law_825 rfl ?_
        refine wf_iconst dL_law_826 ?_
        refine wf_iadd dL_law_827 ?_
        refine wf_gd (fun g828 => ?_)
        refine wf_ro dL_law_828 hro g828 ?_ (by omega)
        refine wf_cV (put := fun q => (q, G.2)) dL_law_829 k_RL_99 b_yX6_firstFailure x_yX6_firstFailure (pX6_firstFailure (n := n + 3) hE (M := G.2) (xs (x3 + 1)) _ _) rfl (fun _ => rfl) (fun h hr => rd_top hr) rfl (fun r829 t829 ca => ?_)
        refine wf_bnd (fun G829 => ?_)
        refine wf_aload_n dL_law_832 rfl ?_
        refine wf_aload_n dL_law_833 rfl ?_
        refine wf_iload_n dL_law_834 rfl ?_
        refine wf_iconst dL_law_835 ?_
        refine wf_iadd dL_law_836 ?_
        refine wf_gd (fun g837 => ?_)
        refine wf_ro dL_law_837 hro g837 ?_ (by omega)
        refine wf_cV (put := fun q => (G829.1, q)) dL_law_838 k_RL_102 b_yX7_firstFailure x_yX7_firstFailure (pX7_firstFailure (n := n + 1) hE (C := G829.1) (xs (x3 + 1)) _ _) rfl (fun _ => rfl) (fun h hr => rd_mod hr) rfl (fun r838 t838 ca => ?_)
        refine wf_bnd (fun G838 => ?_)
        refine wf_gd (fun g841 => ?_)
        refine wf_icmp_eqL 1073 dL_law_841 g841 ?_
        refine wf_iinc dL_law_1073 rfl ?_
        refine wf_goto 18 dL_law_1076 ?_
        exact wf_at (ih (x3 + 7) _ _) ⟨rfl, rfl, rfl, rfl, trivial⟩
      refine wf_ite (fun e33_21 => ?_) (fun e33_21 => ?_)
      · refine wf_tsK 21 846 dL_law_33 e33_21 ?_
        refine wf_aload_n dL_law_846 rfl ?_
        refine wf_aload_n dL_law_847 rfl ?_
        refine wf_iload_n dL_law_848 rfl ?_
        refine wf_iconst dL_law_849 ?_
        refine wf_iadd dL_law_850 ?_
        refine wf_gd (fun g851 => ?_)
        refine wf_ro dL_law_851 hro g851 ?_ (by omega)
        refine wf_aload_n dL_law_852 rfl ?_
        refine wf_iload_n dL_law_853 rfl ?_
        refine wf_iconst dL_law_854 ?_
        refine wf_iadd dL_law_855 ?_
        refine wf_gd (fun g856 => ?_)
        refine wf_ro dL_law_856 hro g856 ?_ (by omega)
        refine wf_cV (put := fun q => (q, G.2)) dL_law_857 k_RL_103 b_yX6_leastDeposit x_yX6_leastDeposit (pX6_leastDeposit (n := n + 3) hE (M := G.2) (xs (x3 + 1)) (xs (x3 + 2)) _ _) rfl (fun _ => rfl) (fun h hr => rd_top hr) rfl (fun r857 t857 ca => ?_)
        refine wf_bnd (fun G857 => ?_)
        refine wf_aload_n dL_law_860 rfl ?_
        refine wf_aload_n dL_law_861 rfl ?_
        refine wf_iload_n dL_law_862 rfl ?_
        refine wf_iconst dL_law_863 ?_
        refine wf_iadd dL_law_864 ?_
        refine wf_gd (fun g865 => ?_)
        refine wf_ro dL_law_865 hro g865 ?_ (by omega)
        refine wf_aload_n dL_law_866 rfl ?_
        refine wf_iload_n dL_law_867 rfl ?_
        refine wf_iconst dL_law_868 ?_
        refine wf_iadd dL_law_869 ?_
        refine wf_gd (fun g870 => ?_)
        refine wf_ro dL_law_870 hro g870 ?_ (by omega)
        refine wf_cV (put := fun q => (G857.1, q)) dL_law_871 k_RL_106 b_yX7_leastDeposit x_yX7_leastDeposit (pX7_leastDeposit (n := n + 1) hE (C := G857.1) (xs (x3 + 1)) (xs (x3 + 2)) _ _) rfl (fun _ => rfl) (fun h hr => rd_mod hr) rfl (fun r871 t871 ca => ?_)
        refine wf_bnd (fun G871 => ?_)
        refine wf_gd (fun g874 => ?_)
        refine wf_icmp_eqL 1073 dL_law_874 g874 ?_
        refine wf_iinc dL_law_1073 rfl ?_
        refine wf_goto 18 dL_law_1076 ?_
        exact wf_at (ih (x3 + 7) _ _) ⟨rfl, rfl, rfl, rfl, trivial⟩
      refine wf_ite (fun e33_22 => ?_) (fun e33_22 => ?_)
      · refine wf_tsK 22 879 dL_law_33 e33_22 ?_
        refine wf_aload_n dL_law_879 rfl ?_
        refine wf_aload_n dL_law_880 rfl ?_
        refine wf_iload_n dL_law_881 rfl ?_
        refine wf_iconst dL_law_882 ?_
        refine wf_iadd dL_law_883 ?_
        refine wf_gd (fun g884 => ?_)
        refine wf_ro dL_law_884 hro g884 ?_ (by omega)
        refine wf_aload_n dL_law_885 rfl ?_
        refine wf_iload_n dL_law_886 rfl ?_
        refine wf_iconst dL_law_887 ?_
        refine wf_iadd dL_law_888 ?_
        refine wf_gd (fun g889 => ?_)
        refine wf_ro dL_law_889 hro g889 ?_ (by omega)
        refine wf_aload_n dL_law_890 rfl ?_
        refine wf_iload_n dL_law_891 rfl ?_
        refine wf_iconst dL_law_892 ?_
        refine wf_iadd dL_law_893 ?_
        refine wf_gd (fun g894 => ?_)
        refine wf_ro dL_law_894 hro g894 ?_ (by omega)
        refine wf_cV (put := fun q => (q, G.2)) dL_law_895 k_RL_107 b_yX6_ahead x_yX6_ahead (pX6_ahead (n := n + 3) hE (M := G.2) (xs (x3 + 1)) (xs (x3 + 2)) (xs (x3 + 3)) _ _) rfl (fun _ => rfl) (fun h hr => rd_top hr) rfl (fun r895 t895 ca => ?_)
        refine wf_bnd (fun G895 => ?_)
        refine wf_aload_n dL_law_898 rfl ?_
        refine wf_aload_n dL_law_899 rfl ?_
        refine wf_iload_n dL_law_900 rfl ?_
        refine wf_iconst dL_law_901 ?_
        refine wf_iadd dL_law_902 ?_
        refine wf_gd (fun g903 => ?_)
        refine wf_ro dL_law_903 hro g903 ?_ (by omega)
        refine wf_aload_n dL_law_904 rfl ?_
        refine wf_iload_n dL_law_905 rfl ?_
        refine wf_iconst dL_law_906 ?_
        refine wf_iadd dL_law_907 ?_
        refine wf_gd (fun g908 => ?_)
        refine wf_ro dL_law_908 hro g908 ?_ (by omega)
        refine wf_aload_n dL_law_909 rfl ?_
        refine wf_iload_n dL_law_910 rfl ?_
        refine wf_iconst dL_law_911 ?_
        refine wf_iadd dL_law_912 ?_
        refine wf_gd (fun g913 => ?_)
        refine wf_ro dL_law_913 hro g913 ?_ (by omega)
        refine wf_cV (put := fun q => (G895.1, q)) dL_law_914 k_RL_110 b_yX7_ahead x_yX7_ahead (pX7_ahead (n := n + 1) hE (C := G895.1) (xs (x3 + 1)) (xs (x3 + 2)) (xs (x3 + 3)) _ _) rfl (fun _ => rfl) (fun h hr => rd_mod hr) rfl (fun r914 t914 ca => ?_)
        refine wf_bnd (fun G914 => ?_)
        refine wf_gd (fun g917 => ?_)
        refine wf_icmp_eqL 1073 dL_law_917 g917 ?_
        refine wf_iinc dL_law_1073 rfl ?_
        refine wf_goto 18 dL_law_1076 ?_
        exact wf_at (ih (x3 + 7) _ _) ⟨rfl, rfl, rfl, rfl, trivial⟩
      refine wf_ite (fun e33_23 => ?_) (fun e33_23 => ?_)
      · refine wf_tsK 23 922 dL_law_33 e33_23 ?_
        refine wf_aload_n dL_law_922 rfl ?_
        refine wf_aload_n dL_law_923 rfl ?_
        refine wf_iload_n dL_law_924 rfl ?_
        refine wf_iconst dL_law_925 ?_
        refine wf_iadd dL_law_926 ?_
        refine wf_gd (fun g927 => ?_)
        refine wf_ro dL_law_927 hro g927 ?_ (by omega)
        refine wf_gd (fun g928 => ?_)
        refine wf_i2l dL_law_928 g928 ?_
        refine wf_bipush dL_law_929 ?_
        refine wf_lshl dL_law_931 ?_
        refine wf_aload_n dL_law_932 rfl ?_
        refine wf_iload_n dL_law_933 rfl ?_
        refine wf_iconst dL_law_934 ?_
        refine wf_iadd dL_law_935 ?_
        refine wf_gd (fun g936 => ?_)
        refine wf_ro dL_law_936 hro g936 ?_ (by omega)
        refine wf_gd (fun g937 => ?_)
        refine wf_i2l dL_law_937 g937 ?_
        refine wf_ldc2 dL_law_938 c_RL_111 ?_
        refine wf_land dL_law_941 ?_
        refine wf_lor dL_law_942 ?_
        refine wf_cV (put := fun q => (q, G.2)) dL_law_943 k_RL_113 b_yX6_put x_yX6_put (pX6_put (n := n + 9) hE (M := G.2) (lorI (lshlI (xs (x3 + 1)) 32) (landI (xs (x3 + 2)) 4294967295)) _ _) rfl (fun _ => rfl) (fun h hr => rd_top hr) rfl (fun r943 t943 ca => ?_)
        refine wf_bnd (fun G943 => ?_)
        refine wf_aload_n dL_law_946 rfl ?_
        refine wf_aload_n dL_law_947 rfl ?_
        refine wf_iload_n dL_law_948 rfl ?_
        refine wf_iconst dL_law_949 ?_
        refine wf_iadd dL_law_950 ?_
        refine wf_gd (fun g951 => ?_)
        refine wf_ro dL_law_951 hro g951 ?_ (by omega)
        refine wf_gd (fun g952 => ?_)
        refine wf_i2l dL_law_952 g952 ?_
        refine wf_bipush dL_law_953 ?_
        refine wf_lshl dL_law_955 ?_
        refine wf_aload_n dL_law_956 rfl ?_
        refine wf_iload_n dL_law_957 rfl ?_
        refine wf_iconst dL_law_958 ?_
        refine wf_iadd dL_law_959 ?_
        refine wf_gd (fun g960 => ?_)
        refine wf_ro dL_law_960 hro g960 ?_ (by omega)
        refine wf_gd (fun g961 => ?_)
        refine wf_i2l dL_law_961 g961 ?_
        refine wf_ldc2 dL_law_962 c_RL_111 ?_
        refine wf_land dL_law_965 ?_
        refine wf_lor dL_law_966 ?_
        refine wf_cV (put := fun q => (G943.1, q)) dL_law_967 k_RL_117 b_yX7_put x_yX7_put (pX7_put (n := n + 10) hE (C := G943.1) (lorI (lshlI (xs (x3 + 1)) 32) (landI (xs (x3 + 2)) 4294967295)) _ _) rfl (fun _ => rfl) (fun h hr => rd_mod hr) rfl (fun r967 t967 ca => ?_)
        refine wf_bnd (fun G967 => ?_)
        refine wf_gd (fun g970 => ?_)
        refine wf_icmp_eqL 1073 dL_law_970 g970 ?_
        refine wf_iinc dL_law_1073 rfl ?_
        refine wf_goto 18 dL_law_1076 ?_
        exact wf_at (ih (x3 + 7) _ _) ⟨rfl, rfl, rfl, rfl, trivial⟩
      refine wf_ite (fun e33_24 => ?_) (fun e33_24 => ?_)
      · refine wf_tsK 24 975 dL_law_33 e33_24 ?_
        refine wf_aload_n dL_law_975 rfl ?_
        refine wf_cV (put := fun q => (q, G.2)) dL_law_976 k_RL_118 b_yX6_wipe x_yX6_wipe (pX6_wipe (n := n + 11) hE (M := G.2) _ _) rfl (fun _ => rfl) (fun h hr => rd_top hr) rfl (fun r976 t976 ca => ?_)
        refine wf_bnd (fun G976 => ?_)
        refine wf_aload_n dL_law_979 rfl ?_
        refine wf_cV (put := fun q => (G976.1, q)) dL_law_980 k_RL_122 b_yX7_wipe x_yX7_wipe (pX7_wipe (n := n + 11) hE (C := G976.1) _ _) rfl (fun _ => rfl) (fun h hr => rd_mod hr) rfl (fun r980 t980 ca => ?_)
        refine wf_bnd (fun G980 => ?_)
        refine wf_gd (fun g983 => ?_)
        refine wf_icmp_eqL 1073 dL_law_983 g983 ?_
        refine wf_iinc dL_law_1073 rfl ?_
        refine wf_goto 18 dL_law_1076 ?_
        exact wf_at (ih (x3 + 7) _ _) ⟨rfl, rfl, rfl, rfl, trivial⟩
      refine wf_ite (fun e33_25 => ?_) (fun e33_25 => ?_)
      · refine wf_tsK 25 988 dL_law_33 e33_25 ?_
        refine wf_aload_n dL_law_988 rfl ?_
        refine wf_cV (put := fun q => (q, G.2)) dL_law_989 k_RL_123 b_yX6_fault x_yX6_fault (pX6_fault (n := n + 1) hE (M := G.2) _ _) rfl (fun _ => rfl) (fun h hr => rd_top hr) rfl (fun r989 t989 ca => ?_)
        refine wf_bnd (fun G989 => ?_)
        refine wf_aload_n dL_law_992 rfl ?_
        refine wf_cV (put := fun q => (G989.1, q)) dL_law_993 k_RL_126 b_yX7_fault x_yX7_fault (pX7_fault (n := n + 5) hE (C := G989.1) _ _) rfl (fun _ => rfl) (fun h hr => rd_mod hr) rfl (fun r993 t993 ca => ?_)
        refine wf_bnd (fun G993 => ?_)
        refine wf_gd (fun g996 => ?_)
        refine wf_icmp_eqL 1073 dL_law_996 g996 ?_
        refine wf_iinc dL_law_1073 rfl ?_
        refine wf_goto 18 dL_law_1076 ?_
        exact wf_at (ih (x3 + 7) _ _) ⟨rfl, rfl, rfl, rfl, trivial⟩
      refine wf_ite (fun e33_26 => ?_) (fun e33_26 => ?_)
      · refine wf_tsK 26 1001 dL_law_33 e33_26 ?_
        refine wf_aload_n dL_law_1001 rfl ?_
        refine wf_cV (put := fun q => (q, G.2)) dL_law_1002 k_RL_127 b_yX6_carryOut x_yX6_carryOut (pX6_carryOut (n := n + 1) hE (M := G.2) _ _) rfl (fun _ => rfl) (fun h hr => rd_top hr) rfl (fun r1002 t1002 ca => ?_)
        refine wf_bnd (fun G1002 => ?_)
        refine wf_aload_n dL_law_1005 rfl ?_
        refine wf_cV (put := fun q => (G1002.1, q)) dL_law_1006 k_RL_130 b_yX7_carryOut x_yX7_carryOut (pX7_carryOut (n := n) hE (C := G1002.1) _ _) rfl (fun _ => rfl) (fun h hr => rd_mod hr) rfl (fun r1006 t1006 ca => ?_)
        refine wf_bnd (fun G1006 => ?_)
        refine wf_gd (fun g1009 => ?_)
        refine wf_icmp_eqL 1073 dL_law_1009 g1009 ?_
        refine wf_iinc dL_law_1073 rfl ?_
        refine wf_goto 18 dL_law_1076 ?_
        exact wf_at (ih (x3 + 7) _ _) ⟨rfl, rfl, rfl, rfl, trivial⟩
      refine wf_ite (fun e33_27 => ?_) (fun e33_27 => ?_)
      · refine wf_tsK 27 1014 dL_law_33 e33_27 ?_
        refine wf_aload_n dL_law_1014 rfl ?_
        refine wf_cV (put := fun q => (q, G.2)) dL_law_1015 k_RL_131 b_yX6_undo x_yX6_undo (pX6_undo (n := n + 5) hE (M := G.2) _ _) rfl (fun _ => rfl) (fun h hr => rd_top hr) rfl (fun r1015 t1015 ca => ?_)
        refine wf_bnd (fun G1015 => ?_)
        refine wf_aload_n dL_law_1018 rfl ?_
        refine wf_cV (put := fun q => (G1015.1, q)) dL_law_1019 k_RL_134 b_yX7_undo x_yX7_undo (pX7_undo (n := n + 10) hE (C := G1015.1) _ _) rfl (fun _ => rfl) (fun h hr => rd_mod hr) rfl (fun r1019 t1019 ca => ?_)
        refine wf_bnd (fun G1019 => ?_)
        refine wf_gd (fun g1022 => ?_)
        refine wf_icmp_eqL 1073 dL_law_1022 g1022 ?_
        refine wf_iinc dL_law_1073 rfl ?_
        refine wf_goto 18 dL_law_1076 ?_
        exact wf_at (ih (x3 + 7) _ _) ⟨rfl, rfl, rfl, rfl, trivial⟩
      refine wf_ite (fun e33_28 => ?_) (fun e33_28 => ?_)
      · refine wf_tsK 28 1027 dL_law_33 e33_28 ?_
        refine wf_aload_n dL_law_1027 rfl ?_
        refine wf_aload_n dL_law_1028 rfl ?_
        refine wf_iload_n dL_law_1029 rfl ?_
        refine wf_iconst dL_law_1030 ?_
        refine wf_iadd dL_law_1031 ?_
        refine wf_gd (fun g1032 => ?_)
        refine wf_ro dL_law_1032 hro g1032 ?_ (by omega)
        refine wf_cV (put := fun q => (q, G.2)) dL_law_1033 k_RL_135 b_yX6_save x_yX6_save (pX6_save (n := n + 5) hE (M := G.2) (xs (x3 + 1)) _ _) rfl (fun _ => rfl) (fun h hr => rd_top hr) rfl (fun r1033 t1033 ca => ?_)
        refine wf_bnd (fun G1033 => ?_)
        refine wf_aload_n dL_law_1036 rfl ?_
        refine wf_aload_n dL_law_1037 rfl ?_
        refine wf_iload_n dL_law_1038 rfl ?_
        refine wf_iconst dL_law_1039 ?_
        refine wf_iadd dL_law_1040 ?_
        refine wf_gd (fun g1041 => ?_)
        refine wf_ro dL_law_1041 hro g1041 ?_ (by omega)
        refine wf_cV (put := fun q => (G1033.1, q)) dL_law_1042 k_RL_138 b_yX7_save x_yX7_save (pX7_save (n := n + 9) hE (C := G1033.1) (xs (x3 + 1)) _ _) rfl (fun _ => rfl) (fun h hr => rd_mod hr) rfl (fun r1042 t1042 ca => ?_)
        refine wf_bnd (fun G1042 => ?_)
        refine wf_gd (fun g1045 => ?_)
        refine wf_icmp_eqL 1073 dL_law_1045 g1045 ?_
        refine wf_iinc dL_law_1073 rfl ?_
        refine wf_goto 18 dL_law_1076 ?_
        exact wf_at (ih (x3 + 7) _ _) ⟨rfl, rfl, rfl, rfl, trivial⟩
      refine wf_ite (fun e33_29 => ?_) (fun e33_29 => ?_)
      · refine wf_tsK 29 1050 dL_law_33 e33_29 ?_
        refine wf_aload_n dL_law_1050 rfl ?_
        refine wf_aload_n dL_law_1051 rfl ?_
        refine wf_iload_n dL_law_1052 rfl ?_
        refine wf_iconst dL_law_1053 ?_
        refine wf_iadd dL_law_1054 ?_
        refine wf_gd (fun g1055 => ?_)
        refine wf_ro dL_law_1055 hro g1055 ?_ (by omega)
        refine wf_cV (put := fun q => (q, G.2)) dL_law_1056 k_RL_139 b_yX6_restore x_yX6_restore (pX6_restore (n := n + 4) hE (M := G.2) (xs (x3 + 1)) _ _) rfl (fun _ => rfl) (fun h hr => rd_top hr) rfl (fun r1056 t1056 ca => ?_)
        refine wf_bnd (fun G1056 => ?_)
        refine wf_aload_n dL_law_1059 rfl ?_
        refine wf_aload_n dL_law_1060 rfl ?_
        refine wf_iload_n dL_law_1061 rfl ?_
        refine wf_iconst dL_law_1062 ?_
        refine wf_iadd dL_law_1063 ?_
        refine wf_gd (fun g1064 => ?_)
        refine wf_ro dL_law_1064 hro g1064 ?_ (by omega)
        refine wf_cV (put := fun q => (G1056.1, q)) dL_law_1065 k_RL_142 b_yX7_restore x_yX7_restore (pX7_restore (n := n + 9) hE (C := G1056.1) (xs (x3 + 1)) _ _) rfl (fun _ => rfl) (fun h hr => rd_mod hr) rfl (fun r1065 t1065 ca => ?_)
        refine wf_bnd (fun G1065 => ?_)
        refine wf_gd (fun g1068 => ?_)
        refine wf_icmp_eqL 1073 dL_law_1068 g1068 ?_
        refine wf_iinc dL_law_1073 rfl ?_
        refine wf_goto 18 dL_law_1076 ?_
        exact wf_at (ih (x3 + 7) _ _) ⟨rfl, rfl, rfl, rfl, trivial⟩
      refine wf_tsOut (z := (andI (xs x3) 31)) 1073 dL_law_33 g33 (by omega) ?_
      refine wf_iinc dL_law_1073 rfl ?_
      refine wf_goto 18 dL_law_1076 ?_
      exact wf_at (ih (x3 + 7) _ _) ⟨rfl, rfl, rfl, rfl, trivial⟩
