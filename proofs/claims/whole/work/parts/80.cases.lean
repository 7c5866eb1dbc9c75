-- THE LAW'S CASES (printed by wip/whole/gen_law.py)
set_option maxRecDepth 20000 in
theorem l_things {b L n : Nat} {xs : Nat → Int32} {μ : sM} {Z : tZ} (hn : n + 6 ≤ L) (hL : L ≤ 3072) (hE : ∀ μ Z, zW Z → zC μ Z → zM μ Z → lG b L xs 915 (nI n) [] μ) (hW : zW Z) (hC : zC μ Z) (hM : zM μ Z) : lG b L xs 160 (nI n) [] μ := by
  refine l_a1 dL_law_160 ?_
  refine l_arg (j2 := 1) dL_law_161 dL_law_162 dL_law_163 dL_law_164 dL_law_165 (by decide) (by decide) hn hL ?_
  refine l_callI (mi2 := mX8_things) (st := []) [sI (xs (n + 1))] dL_law_166 lL_13 kX8_things vX8_things rfl rfl rfl (Nat.le_of_ble_eq_true rfl) (Nat.le_of_ble_eq_true rfl) (Nat.le_of_ble_eq_true rfl) rfl ?_
  refine sG.mono (q_things (d := 0) (K := fun r r2 μ2 => lG b L xs 178 (nI n) [sI r2, sI r] μ2) hW hC hM (fun r μ2 Z2 hW2 hC2 hM2 => ?_)) (kI_mono fun r μ1 h => ?_)
  · exact l_eq dL_law_178 (by decide) (hE μ2 Z2 hW2 hC2 hM2)
  · refine l_a2 dL_law_169 ?_
    refine l_arg (j2 := 1) dL_law_170 dL_law_171 dL_law_172 dL_law_173 dL_law_174 (by decide) (by decide) hn hL ?_
    exact l_callI (mi2 := mX9_things) (st := [sI r]) [sI (xs (n + 1))] dL_law_175 lL_17 kX9_things vX9_things rfl rfl rfl (Nat.le_of_ble_eq_true rfl) (Nat.le_of_ble_eq_true rfl) (Nat.le_of_ble_eq_true rfl) rfl h
set_option maxRecDepth 20000 in
theorem l_thing {b L n : Nat} {xs : Nat → Int32} {μ : sM} {Z : tZ} (hn : n + 6 ≤ L) (hL : L ≤ 3072) (hE : ∀ μ Z, zW Z → zC μ Z → zM μ Z → lG b L xs 915 (nI n) [] μ) (hW : zW Z) (hC : zC μ Z) (hM : zM μ Z) : lG b L xs 183 (nI n) [] μ := by
  refine l_a1 dL_law_183 ?_
  refine l_arg (j2 := 1) dL_law_184 dL_law_185 dL_law_186 dL_law_187 dL_law_188 (by decide) (by decide) hn hL ?_
  refine l_arg (j2 := 2) dL_law_189 dL_law_190 dL_law_191 dL_law_192 dL_law_193 (by decide) (by decide) hn hL ?_
  refine l_arg (j2 := 3) dL_law_194 dL_law_195 dL_law_196 dL_law_197 dL_law_198 (by decide) (by decide) hn hL ?_
  refine l_callI (mi2 := mX8_thing) (st := []) [sI (xs (n + 1)), sI (xs (n + 2)), sI (xs (n + 3))] dL_law_199 lL_18 kX8_thing vX8_thing rfl rfl rfl (Nat.le_of_ble_eq_true rfl) (Nat.le_of_ble_eq_true rfl) (Nat.le_of_ble_eq_true rfl) rfl ?_
  refine sG.mono (q_thing (d := 0) (K := fun r r2 μ2 => lG b L xs 221 (nI n) [sI r2, sI r] μ2) hW hC hM (fun r μ2 Z2 hW2 hC2 hM2 => ?_)) (kI_mono fun r μ1 h => ?_)
  · exact l_eq dL_law_221 (by decide) (hE μ2 Z2 hW2 hC2 hM2)
  · refine l_a2 dL_law_202 ?_
    refine l_arg (j2 := 1) dL_law_203 dL_law_204 dL_law_205 dL_law_206 dL_law_207 (by decide) (by decide) hn hL ?_
    refine l_arg (j2 := 2) dL_law_208 dL_law_209 dL_law_210 dL_law_211 dL_law_212 (by decide) (by decide) hn hL ?_
    refine l_arg (j2 := 3) dL_law_213 dL_law_214 dL_law_215 dL_law_216 dL_law_217 (by decide) (by decide) hn hL ?_
    exact l_callI (mi2 := mX9_thing) (st := [sI r]) [sI (xs (n + 1)), sI (xs (n + 2)), sI (xs (n + 3))] dL_law_218 lL_22 kX9_thing vX9_thing rfl rfl rfl (Nat.le_of_ble_eq_true rfl) (Nat.le_of_ble_eq_true rfl) (Nat.le_of_ble_eq_true rfl) rfl h
set_option maxRecDepth 20000 in
theorem l_guest {b L n : Nat} {xs : Nat → Int32} {μ : sM} {Z : tZ} (hn : n + 6 ≤ L) (hL : L ≤ 3072) (hE : ∀ μ Z, zW Z → zC μ Z → zM μ Z → lG b L xs 915 (nI n) [] μ) (hW : zW Z) (hC : zC μ Z) (hM : zM μ Z) : lG b L xs 226 (nI n) [] μ := by
  refine l_a1 dL_law_226 ?_
  refine l_arg (j2 := 1) dL_law_227 dL_law_228 dL_law_229 dL_law_230 dL_law_231 (by decide) (by decide) hn hL ?_
  refine l_arg (j2 := 2) dL_law_232 dL_law_233 dL_law_234 dL_law_235 dL_law_236 (by decide) (by decide) hn hL ?_
  refine l_arg (j2 := 3) dL_law_237 dL_law_238 dL_law_239 dL_law_240 dL_law_241 (by decide) (by decide) hn hL ?_
  refine l_arg (j2 := 4) dL_law_242 dL_law_243 dL_law_244 dL_law_245 dL_law_246 (by decide) (by decide) hn hL ?_
  refine l_arg (j2 := 5) dL_law_247 dL_law_248 dL_law_249 dL_law_250 dL_law_251 (by decide) (by decide) hn hL ?_
  refine l_callI (mi2 := mX8_guest) (st := []) [sI (xs (n + 1)), sI (xs (n + 2)), sI (xs (n + 3)), sI (xs (n + 4)), sI (xs (n + 5))] dL_law_252 lL_23 kX8_guest vX8_guest rfl rfl rfl (Nat.le_of_ble_eq_true rfl) (Nat.le_of_ble_eq_true rfl) (Nat.le_of_ble_eq_true rfl) rfl ?_
  refine sG.mono (q_guest (d := 0) (K := fun r r2 μ2 => lG b L xs 284 (nI n) [sI r2, sI r] μ2) hW hC hM (fun r μ2 Z2 hW2 hC2 hM2 => ?_)) (kI_mono fun r μ1 h => ?_)
  · exact l_eq dL_law_284 (by decide) (hE μ2 Z2 hW2 hC2 hM2)
  · refine l_a2 dL_law_255 ?_
    refine l_arg (j2 := 1) dL_law_256 dL_law_257 dL_law_258 dL_law_259 dL_law_260 (by decide) (by decide) hn hL ?_
    refine l_arg (j2 := 2) dL_law_261 dL_law_262 dL_law_263 dL_law_264 dL_law_265 (by decide) (by decide) hn hL ?_
    refine l_arg (j2 := 3) dL_law_266 dL_law_267 dL_law_268 dL_law_269 dL_law_270 (by decide) (by decide) hn hL ?_
    refine l_arg (j2 := 4) dL_law_271 dL_law_272 dL_law_273 dL_law_274 dL_law_275 (by decide) (by decide) hn hL ?_
    refine l_arg (j2 := 5) dL_law_276 dL_law_277 dL_law_278 dL_law_279 dL_law_280 (by decide) (by decide) hn hL ?_
    exact l_callI (mi2 := mX9_guest) (st := [sI r]) [sI (xs (n + 1)), sI (xs (n + 2)), sI (xs (n + 3)), sI (xs (n + 4)), sI (xs (n + 5))] dL_law_281 lL_27 kX9_guest vX9_guest rfl rfl rfl (Nat.le_of_ble_eq_true rfl) (Nat.le_of_ble_eq_true rfl) (Nat.le_of_ble_eq_true rfl) rfl h
set_option maxRecDepth 20000 in
theorem l_leave {b L n : Nat} {xs : Nat → Int32} {μ : sM} {Z : tZ} (hn : n + 6 ≤ L) (hL : L ≤ 3072) (hE : ∀ μ Z, zW Z → zC μ Z → zM μ Z → lG b L xs 915 (nI n) [] μ) (hW : zW Z) (hC : zC μ Z) (hM : zM μ Z) : lG b L xs 289 (nI n) [] μ := by
  refine l_a1 dL_law_289 ?_
  refine l_arg (j2 := 1) dL_law_290 dL_law_291 dL_law_292 dL_law_293 dL_law_294 (by decide) (by decide) hn hL ?_
  refine l_callI (mi2 := mX8_leave) (st := []) [sI (xs (n + 1))] dL_law_295 lL_28 kX8_leave vX8_leave rfl rfl rfl (Nat.le_of_ble_eq_true rfl) (Nat.le_of_ble_eq_true rfl) (Nat.le_of_ble_eq_true rfl) rfl ?_
  refine sG.mono (q_leave (d := 0) (K := fun r r2 μ2 => lG b L xs 307 (nI n) [sI r2, sI r] μ2) hW hC hM (fun r μ2 Z2 hW2 hC2 hM2 => ?_)) (kI_mono fun r μ1 h => ?_)
  · exact l_eq dL_law_307 (by decide) (hE μ2 Z2 hW2 hC2 hM2)
  · refine l_a2 dL_law_298 ?_
    refine l_arg (j2 := 1) dL_law_299 dL_law_300 dL_law_301 dL_law_302 dL_law_303 (by decide) (by decide) hn hL ?_
    exact l_callI (mi2 := mX9_leave) (st := [sI r]) [sI (xs (n + 1))] dL_law_304 lL_31 kX9_leave vX9_leave rfl rfl rfl (Nat.le_of_ble_eq_true rfl) (Nat.le_of_ble_eq_true rfl) (Nat.le_of_ble_eq_true rfl) rfl h
set_option maxRecDepth 20000 in
theorem l_say {b L n : Nat} {xs : Nat → Int32} {μ : sM} {Z : tZ} (hn : n + 6 ≤ L) (hL : L ≤ 3072) (hE : ∀ μ Z, zW Z → zC μ Z → zM μ Z → lG b L xs 915 (nI n) [] μ) (hW : zW Z) (hC : zC μ Z) (hM : zM μ Z) : lG b L xs 312 (nI n) [] μ := by
  refine l_a1 dL_law_312 ?_
  refine l_arg (j2 := 1) dL_law_313 dL_law_314 dL_law_315 dL_law_316 dL_law_317 (by decide) (by decide) hn hL ?_
  refine l_callI (mi2 := mX8_say) (st := []) [sI (xs (n + 1))] dL_law_318 lL_32 kX8_say vX8_say rfl rfl rfl (Nat.le_of_ble_eq_true rfl) (Nat.le_of_ble_eq_true rfl) (Nat.le_of_ble_eq_true rfl) rfl ?_
  refine sG.mono (q_say (d := 0) (K := fun r r2 μ2 => lG b L xs 330 (nI n) [sI r2, sI r] μ2) hW hC hM (fun r μ2 Z2 hW2 hC2 hM2 => ?_)) (kI_mono fun r μ1 h => ?_)
  · exact l_eq dL_law_330 (by decide) (hE μ2 Z2 hW2 hC2 hM2)
  · refine l_a2 dL_law_321 ?_
    refine l_arg (j2 := 1) dL_law_322 dL_law_323 dL_law_324 dL_law_325 dL_law_326 (by decide) (by decide) hn hL ?_
    exact l_callI (mi2 := mX9_say) (st := [sI r]) [sI (xs (n + 1))] dL_law_327 lL_35 kX9_say vX9_say rfl rfl rfl (Nat.le_of_ble_eq_true rfl) (Nat.le_of_ble_eq_true rfl) (Nat.le_of_ble_eq_true rfl) rfl h
set_option maxRecDepth 20000 in
theorem l_wipe {b L n : Nat} {xs : Nat → Int32} {μ : sM} {Z : tZ} (hn : n + 6 ≤ L) (hL : L ≤ 3072) (hE : ∀ μ Z, zW Z → zC μ Z → zM μ Z → lG b L xs 915 (nI n) [] μ) (hW : zW Z) (hC : zC μ Z) (hM : zM μ Z) : lG b L xs 335 (nI n) [] μ := by
  refine l_a1 dL_law_335 ?_
  refine l_callI (mi2 := mX8_wipe) (st := []) [] dL_law_336 lL_36 kX8_wipe vX8_wipe rfl rfl rfl (Nat.le_of_ble_eq_true rfl) (Nat.le_of_ble_eq_true rfl) (Nat.le_of_ble_eq_true rfl) rfl ?_
  refine sG.mono (q_wipe (d := 0) (K := fun r r2 μ2 => lG b L xs 343 (nI n) [sI r2, sI r] μ2) hW hC hM (fun r μ2 Z2 hW2 hC2 hM2 => ?_)) (kI_mono fun r μ1 h => ?_)
  · exact l_eq dL_law_343 (by decide) (hE μ2 Z2 hW2 hC2 hM2)
  · refine l_a2 dL_law_339 ?_
    exact l_callI (mi2 := mX9_wipe) (st := [sI r]) [] dL_law_340 lL_40 kX9_wipe vX9_wipe rfl rfl rfl (Nat.le_of_ble_eq_true rfl) (Nat.le_of_ble_eq_true rfl) (Nat.le_of_ble_eq_true rfl) rfl h
set_option maxRecDepth 20000 in
theorem l_fault {b L n : Nat} {xs : Nat → Int32} {μ : sM} {Z : tZ} (hn : n + 6 ≤ L) (hL : L ≤ 3072) (hE : ∀ μ Z, zW Z → zC μ Z → zM μ Z → lG b L xs 915 (nI n) [] μ) (hW : zW Z) (hC : zC μ Z) (hM : zM μ Z) : lG b L xs 348 (nI n) [] μ := by
  refine l_a1 dL_law_348 ?_
  refine l_callI (mi2 := mX8_fault) (st := []) [] dL_law_349 lL_41 kX8_fault vX8_fault rfl rfl rfl (Nat.le_of_ble_eq_true rfl) (Nat.le_of_ble_eq_true rfl) (Nat.le_of_ble_eq_true rfl) rfl ?_
  refine sG.mono (q_fault (d := 0) (K := fun r r2 μ2 => lG b L xs 356 (nI n) [sI r2, sI r] μ2) hW hC hM (fun r μ2 Z2 hW2 hC2 hM2 => ?_)) (kI_mono fun r μ1 h => ?_)
  · exact l_eq dL_law_356 (by decide) (hE μ2 Z2 hW2 hC2 hM2)
  · refine l_a2 dL_law_352 ?_
    exact l_callI (mi2 := mX9_fault) (st := [sI r]) [] dL_law_353 lL_44 kX9_fault vX9_fault rfl rfl rfl (Nat.le_of_ble_eq_true rfl) (Nat.le_of_ble_eq_true rfl) (Nat.le_of_ble_eq_true rfl) rfl h
set_option maxRecDepth 20000 in
theorem l_judge {b L n : Nat} {xs : Nat → Int32} {μ : sM} {Z : tZ} (hn : n + 6 ≤ L) (hL : L ≤ 3072) (hE : ∀ μ Z, zW Z → zC μ Z → zM μ Z → lG b L xs 915 (nI n) [] μ) (hW : zW Z) (hC : zC μ Z) (hM : zM μ Z) : lG b L xs 361 (nI n) [] μ := by
  refine l_a1 dL_law_361 ?_
  refine l_arg (j2 := 1) dL_law_362 dL_law_363 dL_law_364 dL_law_365 dL_law_366 (by decide) (by decide) hn hL ?_
  refine l_callI (mi2 := mX8_judge) (st := []) [sI (xs (n + 1))] dL_law_367 lL_45 kX8_judge vX8_judge rfl rfl rfl (Nat.le_of_ble_eq_true rfl) (Nat.le_of_ble_eq_true rfl) (Nat.le_of_ble_eq_true rfl) rfl ?_
  refine sG.mono (q_judge (d := 0) (K := fun r r2 μ2 => lG b L xs 379 (nI n) [sI r2, sI r] μ2) hW hC hM (fun r μ2 Z2 hW2 hC2 hM2 => ?_)) (kI_mono fun r μ1 h => ?_)
  · exact l_eq dL_law_379 (by decide) (hE μ2 Z2 hW2 hC2 hM2)
  · refine l_a2 dL_law_370 ?_
    refine l_arg (j2 := 1) dL_law_371 dL_law_372 dL_law_373 dL_law_374 dL_law_375 (by decide) (by decide) hn hL ?_
    exact l_callI (mi2 := mX9_judge) (st := [sI r]) [sI (xs (n + 1))] dL_law_376 lL_48 kX9_judge vX9_judge rfl rfl rfl (Nat.le_of_ble_eq_true rfl) (Nat.le_of_ble_eq_true rfl) (Nat.le_of_ble_eq_true rfl) rfl h
set_option maxRecDepth 20000 in
theorem l_used {b L n : Nat} {xs : Nat → Int32} {μ : sM} {Z : tZ} (hn : n + 6 ≤ L) (hL : L ≤ 3072) (hE : ∀ μ Z, zW Z → zC μ Z → zM μ Z → lG b L xs 915 (nI n) [] μ) (hW : zW Z) (hC : zC μ Z) (hM : zM μ Z) : lG b L xs 384 (nI n) [] μ := by
  refine l_a1 dL_law_384 ?_
  refine l_arg (j2 := 1) dL_law_385 dL_law_386 dL_law_387 dL_law_388 dL_law_389 (by decide) (by decide) hn hL ?_
  refine l_callI (mi2 := mX8_used) (st := []) [sI (xs (n + 1))] dL_law_390 lL_49 kX8_used vX8_used rfl rfl rfl (Nat.le_of_ble_eq_true rfl) (Nat.le_of_ble_eq_true rfl) (Nat.le_of_ble_eq_true rfl) rfl ?_
  refine sG.mono (q_used (d := 0) (K := fun r r2 μ2 => lG b L xs 402 (nI n) [sI r2, sI r] μ2) hW hC hM (fun r μ2 Z2 hW2 hC2 hM2 => ?_)) (kI_mono fun r μ1 h => ?_)
  · exact l_eq dL_law_402 (by decide) (hE μ2 Z2 hW2 hC2 hM2)
  · refine l_a2 dL_law_393 ?_
    refine l_arg (j2 := 1) dL_law_394 dL_law_395 dL_law_396 dL_law_397 dL_law_398 (by decide) (by decide) hn hL ?_
    exact l_callI (mi2 := mX9_used) (st := [sI r]) [sI (xs (n + 1))] dL_law_399 lL_52 kX9_used vX9_used rfl rfl rfl (Nat.le_of_ble_eq_true rfl) (Nat.le_of_ble_eq_true rfl) (Nat.le_of_ble_eq_true rfl) rfl h
set_option maxRecDepth 20000 in
theorem l_behind {b L n : Nat} {xs : Nat → Int32} {μ : sM} {Z : tZ} (hn : n + 6 ≤ L) (hL : L ≤ 3072) (hE : ∀ μ Z, zW Z → zC μ Z → zM μ Z → lG b L xs 915 (nI n) [] μ) (hW : zW Z) (hC : zC μ Z) (hM : zM μ Z) : lG b L xs 407 (nI n) [] μ := by
  refine l_a1 dL_law_407 ?_
  refine l_arg (j2 := 1) dL_law_408 dL_law_409 dL_law_410 dL_law_411 dL_law_412 (by decide) (by decide) hn hL ?_
  refine l_arg (j2 := 2) dL_law_413 dL_law_414 dL_law_415 dL_law_416 dL_law_417 (by decide) (by decide) hn hL ?_
  refine l_callI (mi2 := mX8_behind) (st := []) [sI (xs (n + 1)), sI (xs (n + 2))] dL_law_418 lL_53 kX8_behind vX8_behind rfl rfl rfl (Nat.le_of_ble_eq_true rfl) (Nat.le_of_ble_eq_true rfl) (Nat.le_of_ble_eq_true rfl) rfl ?_
  refine sG.mono (q_behind (d := 0) (K := fun r r2 μ2 => lG b L xs 435 (nI n) [sI r2, sI r] μ2) hW hC hM (fun r μ2 Z2 hW2 hC2 hM2 => ?_)) (kI_mono fun r μ1 h => ?_)
  · exact l_eq dL_law_435 (by decide) (hE μ2 Z2 hW2 hC2 hM2)
  · refine l_a2 dL_law_421 ?_
    refine l_arg (j2 := 1) dL_law_422 dL_law_423 dL_law_424 dL_law_425 dL_law_426 (by decide) (by decide) hn hL ?_
    refine l_arg (j2 := 2) dL_law_427 dL_law_428 dL_law_429 dL_law_430 dL_law_431 (by decide) (by decide) hn hL ?_
    exact l_callI (mi2 := mX9_behind) (st := [sI r]) [sI (xs (n + 1)), sI (xs (n + 2))] dL_law_432 lL_57 kX9_behind vX9_behind rfl rfl rfl (Nat.le_of_ble_eq_true rfl) (Nat.le_of_ble_eq_true rfl) (Nat.le_of_ble_eq_true rfl) rfl h
set_option maxRecDepth 20000 in
theorem l_done {b L n : Nat} {xs : Nat → Int32} {μ : sM} {Z : tZ} (hn : n + 6 ≤ L) (hL : L ≤ 3072) (hE : ∀ μ Z, zW Z → zC μ Z → zM μ Z → lG b L xs 915 (nI n) [] μ) (hW : zW Z) (hC : zC μ Z) (hM : zM μ Z) : lG b L xs 440 (nI n) [] μ := by
  refine l_a1 dL_law_440 ?_
  refine l_callI (mi2 := mX8_done) (st := []) [] dL_law_441 lL_58 kX8_done vX8_done rfl rfl rfl (Nat.le_of_ble_eq_true rfl) (Nat.le_of_ble_eq_true rfl) (Nat.le_of_ble_eq_true rfl) rfl ?_
  refine sG.mono (q_done (d := 0) (K := fun r r2 μ2 => lG b L xs 448 (nI n) [sI r2, sI r] μ2) hW hC hM (fun r μ2 Z2 hW2 hC2 hM2 => ?_)) (kI_mono fun r μ1 h => ?_)
  · exact l_eq dL_law_448 (by decide) (hE μ2 Z2 hW2 hC2 hM2)
  · refine l_a2 dL_law_444 ?_
    exact l_callI (mi2 := mX9_done) (st := [sI r]) [] dL_law_445 lL_61 kX9_done vX9_done rfl rfl rfl (Nat.le_of_ble_eq_true rfl) (Nat.le_of_ble_eq_true rfl) (Nat.le_of_ble_eq_true rfl) rfl h
set_option maxRecDepth 20000 in
theorem l_state {b L n : Nat} {xs : Nat → Int32} {μ : sM} {Z : tZ} (hn : n + 6 ≤ L) (hL : L ≤ 3072) (hE : ∀ μ Z, zW Z → zC μ Z → zM μ Z → lG b L xs 915 (nI n) [] μ) (hW : zW Z) (hC : zC μ Z) (hM : zM μ Z) : lG b L xs 453 (nI n) [] μ := by
  refine l_a1 dL_law_453 ?_
  refine l_arg (j2 := 1) dL_law_454 dL_law_455 dL_law_456 dL_law_457 dL_law_458 (by decide) (by decide) hn hL ?_
  refine l_arg (j2 := 2) dL_law_459 dL_law_460 dL_law_461 dL_law_462 dL_law_463 (by decide) (by decide) hn hL ?_
  refine l_callI (mi2 := mX8_state) (st := []) [sI (xs (n + 1)), sI (xs (n + 2))] dL_law_464 lL_62 kX8_state vX8_state rfl rfl rfl (Nat.le_of_ble_eq_true rfl) (Nat.le_of_ble_eq_true rfl) (Nat.le_of_ble_eq_true rfl) rfl ?_
  refine sG.mono (q_state (d := 0) (K := fun r r2 μ2 => lG b L xs 481 (nI n) [sI r2, sI r] μ2) hW hC hM (fun r μ2 Z2 hW2 hC2 hM2 => ?_)) (kI_mono fun r μ1 h => ?_)
  · exact l_eq dL_law_481 (by decide) (hE μ2 Z2 hW2 hC2 hM2)
  · refine l_a2 dL_law_467 ?_
    refine l_arg (j2 := 1) dL_law_468 dL_law_469 dL_law_470 dL_law_471 dL_law_472 (by decide) (by decide) hn hL ?_
    refine l_arg (j2 := 2) dL_law_473 dL_law_474 dL_law_475 dL_law_476 dL_law_477 (by decide) (by decide) hn hL ?_
    exact l_callI (mi2 := mX9_state) (st := [sI r]) [sI (xs (n + 1)), sI (xs (n + 2))] dL_law_478 lL_65 kX9_state vX9_state rfl rfl rfl (Nat.le_of_ble_eq_true rfl) (Nat.le_of_ble_eq_true rfl) (Nat.le_of_ble_eq_true rfl) rfl h
set_option maxRecDepth 20000 in
theorem l_eats {b L n : Nat} {xs : Nat → Int32} {μ : sM} {Z : tZ} (hn : n + 6 ≤ L) (hL : L ≤ 3072) (hE : ∀ μ Z, zW Z → zC μ Z → zM μ Z → lG b L xs 915 (nI n) [] μ) (hW : zW Z) (hC : zC μ Z) (hM : zM μ Z) : lG b L xs 486 (nI n) [] μ := by
  refine l_a1 dL_law_486 ?_
  refine l_arg (j2 := 1) dL_law_487 dL_law_488 dL_law_489 dL_law_490 dL_law_491 (by decide) (by decide) hn hL ?_
  refine l_callI (mi2 := mX8_eats) (st := []) [sI (xs (n + 1))] dL_law_492 lL_66 kX8_eats vX8_eats rfl rfl rfl (Nat.le_of_ble_eq_true rfl) (Nat.le_of_ble_eq_true rfl) (Nat.le_of_ble_eq_true rfl) rfl ?_
  refine sG.mono (q_eats (d := 0) (K := fun r r2 μ2 => lG b L xs 504 (nI n) [sI r2, sI r] μ2) hW hC hM (fun r μ2 Z2 hW2 hC2 hM2 => ?_)) (kI_mono fun r μ1 h => ?_)
  · exact l_eq dL_law_504 (by decide) (hE μ2 Z2 hW2 hC2 hM2)
  · refine l_a2 dL_law_495 ?_
    refine l_arg (j2 := 1) dL_law_496 dL_law_497 dL_law_498 dL_law_499 dL_law_500 (by decide) (by decide) hn hL ?_
    exact l_callI (mi2 := mX9_eats) (st := [sI r]) [sI (xs (n + 1))] dL_law_501 lL_69 kX9_eats vX9_eats rfl rfl rfl (Nat.le_of_ble_eq_true rfl) (Nat.le_of_ble_eq_true rfl) (Nat.le_of_ble_eq_true rfl) rfl h
set_option maxRecDepth 20000 in
theorem l_seen {b L n : Nat} {xs : Nat → Int32} {μ : sM} {Z : tZ} (hn : n + 6 ≤ L) (hL : L ≤ 3072) (hE : ∀ μ Z, zW Z → zC μ Z → zM μ Z → lG b L xs 915 (nI n) [] μ) (hW : zW Z) (hC : zC μ Z) (hM : zM μ Z) : lG b L xs 509 (nI n) [] μ := by
  refine l_a1 dL_law_509 ?_
  refine l_arg (j2 := 1) dL_law_510 dL_law_511 dL_law_512 dL_law_513 dL_law_514 (by decide) (by decide) hn hL ?_
  refine l_arg (j2 := 2) dL_law_515 dL_law_516 dL_law_517 dL_law_518 dL_law_519 (by decide) (by decide) hn hL ?_
  refine l_callI (mi2 := mX8_seen) (st := []) [sI (xs (n + 1)), sI (xs (n + 2))] dL_law_520 lL_70 kX8_seen vX8_seen rfl rfl rfl (Nat.le_of_ble_eq_true rfl) (Nat.le_of_ble_eq_true rfl) (Nat.le_of_ble_eq_true rfl) rfl ?_
  refine sG.mono (q_seen (d := 0) (K := fun r r2 μ2 => lG b L xs 537 (nI n) [sI r2, sI r] μ2) hW hC hM (fun r μ2 Z2 hW2 hC2 hM2 => ?_)) (kI_mono fun r μ1 h => ?_)
  · exact l_eq dL_law_537 (by decide) (hE μ2 Z2 hW2 hC2 hM2)
  · refine l_a2 dL_law_523 ?_
    refine l_arg (j2 := 1) dL_law_524 dL_law_525 dL_law_526 dL_law_527 dL_law_528 (by decide) (by decide) hn hL ?_
    refine l_arg (j2 := 2) dL_law_529 dL_law_530 dL_law_531 dL_law_532 dL_law_533 (by decide) (by decide) hn hL ?_
    exact l_callI (mi2 := mX9_seen) (st := [sI r]) [sI (xs (n + 1)), sI (xs (n + 2))] dL_law_534 lL_73 kX9_seen vX9_seen rfl rfl rfl (Nat.le_of_ble_eq_true rfl) (Nat.le_of_ble_eq_true rfl) (Nat.le_of_ble_eq_true rfl) rfl h
set_option maxRecDepth 20000 in
theorem l_forget {b L n : Nat} {xs : Nat → Int32} {μ : sM} {Z : tZ} (hn : n + 6 ≤ L) (hL : L ≤ 3072) (hE : ∀ μ Z, zW Z → zC μ Z → zM μ Z → lG b L xs 915 (nI n) [] μ) (hW : zW Z) (hC : zC μ Z) (hM : zM μ Z) : lG b L xs 542 (nI n) [] μ := by
  refine l_a1 dL_law_542 ?_
  refine l_callI (mi2 := mX8_forget) (st := []) [] dL_law_543 lL_74 kX8_forget vX8_forget rfl rfl rfl (Nat.le_of_ble_eq_true rfl) (Nat.le_of_ble_eq_true rfl) (Nat.le_of_ble_eq_true rfl) rfl ?_
  refine sG.mono (q_forget (d := 0) (K := fun r r2 μ2 => lG b L xs 550 (nI n) [sI r2, sI r] μ2) hW hC hM (fun r μ2 Z2 hW2 hC2 hM2 => ?_)) (kI_mono fun r μ1 h => ?_)
  · exact l_eq dL_law_550 (by decide) (hE μ2 Z2 hW2 hC2 hM2)
  · refine l_a2 dL_law_546 ?_
    exact l_callI (mi2 := mX9_forget) (st := [sI r]) [] dL_law_547 lL_77 kX9_forget vX9_forget rfl rfl rfl (Nat.le_of_ble_eq_true rfl) (Nat.le_of_ble_eq_true rfl) (Nat.le_of_ble_eq_true rfl) rfl h
set_option maxRecDepth 20000 in
theorem l_rows {b L n : Nat} {xs : Nat → Int32} {μ : sM} {Z : tZ} (hn : n + 6 ≤ L) (hL : L ≤ 3072) (hE : ∀ μ Z, zW Z → zC μ Z → zM μ Z → lG b L xs 915 (nI n) [] μ) (hW : zW Z) (hC : zC μ Z) (hM : zM μ Z) : lG b L xs 555 (nI n) [] μ := by
  refine l_a1 dL_law_555 ?_
  refine l_arg (j2 := 1) dL_law_556 dL_law_557 dL_law_558 dL_law_559 dL_law_560 (by decide) (by decide) hn hL ?_
  refine l_arg (j2 := 2) dL_law_561 dL_law_562 dL_law_563 dL_law_564 dL_law_565 (by decide) (by decide) hn hL ?_
  refine l_callI (mi2 := mX8_rows) (st := []) [sI (xs (n + 1)), sI (xs (n + 2))] dL_law_566 lL_78 kX8_rows vX8_rows rfl rfl rfl (Nat.le_of_ble_eq_true rfl) (Nat.le_of_ble_eq_true rfl) (Nat.le_of_ble_eq_true rfl) rfl ?_
  refine sG.mono (q_rows (d := 0) (K := fun r r2 μ2 => lG b L xs 583 (nI n) [sI r2, sI r] μ2) hW hC hM (fun r μ2 Z2 hW2 hC2 hM2 => ?_)) (kI_mono fun r μ1 h => ?_)
  · exact l_eq dL_law_583 (by decide) (hE μ2 Z2 hW2 hC2 hM2)
  · refine l_a2 dL_law_569 ?_
    refine l_arg (j2 := 1) dL_law_570 dL_law_571 dL_law_572 dL_law_573 dL_law_574 (by decide) (by decide) hn hL ?_
    refine l_arg (j2 := 2) dL_law_575 dL_law_576 dL_law_577 dL_law_578 dL_law_579 (by decide) (by decide) hn hL ?_
    exact l_callI (mi2 := mX9_rows) (st := [sI r]) [sI (xs (n + 1)), sI (xs (n + 2))] dL_law_580 lL_81 kX9_rows vX9_rows rfl rfl rfl (Nat.le_of_ble_eq_true rfl) (Nat.le_of_ble_eq_true rfl) (Nat.le_of_ble_eq_true rfl) rfl h
set_option maxRecDepth 20000 in
theorem l_cup {b L n : Nat} {xs : Nat → Int32} {μ : sM} {Z : tZ} (hn : n + 6 ≤ L) (hL : L ≤ 3072) (hE : ∀ μ Z, zW Z → zC μ Z → zM μ Z → lG b L xs 915 (nI n) [] μ) (hW : zW Z) (hC : zC μ Z) (hM : zM μ Z) : lG b L xs 588 (nI n) [] μ := by
  refine l_a1 dL_law_588 ?_
  refine l_arg (j2 := 1) dL_law_589 dL_law_590 dL_law_591 dL_law_592 dL_law_593 (by decide) (by decide) hn hL ?_
  refine l_arg (j2 := 2) dL_law_594 dL_law_595 dL_law_596 dL_law_597 dL_law_598 (by decide) (by decide) hn hL ?_
  refine l_callI (mi2 := mX8_cup) (st := []) [sI (xs (n + 1)), sI (xs (n + 2))] dL_law_599 lL_82 kX8_cup vX8_cup rfl rfl rfl (Nat.le_of_ble_eq_true rfl) (Nat.le_of_ble_eq_true rfl) (Nat.le_of_ble_eq_true rfl) rfl ?_
  refine sG.mono (q_cup (d := 0) (K := fun r r2 μ2 => lG b L xs 616 (nI n) [sI r2, sI r] μ2) hW hC hM (fun r μ2 Z2 hW2 hC2 hM2 => ?_)) (kI_mono fun r μ1 h => ?_)
  · exact l_eq dL_law_616 (by decide) (hE μ2 Z2 hW2 hC2 hM2)
  · refine l_a2 dL_law_602 ?_
    refine l_arg (j2 := 1) dL_law_603 dL_law_604 dL_law_605 dL_law_606 dL_law_607 (by decide) (by decide) hn hL ?_
    refine l_arg (j2 := 2) dL_law_608 dL_law_609 dL_law_610 dL_law_611 dL_law_612 (by decide) (by decide) hn hL ?_
    exact l_callI (mi2 := mX9_cup) (st := [sI r]) [sI (xs (n + 1)), sI (xs (n + 2))] dL_law_613 lL_85 kX9_cup vX9_cup rfl rfl rfl (Nat.le_of_ble_eq_true rfl) (Nat.le_of_ble_eq_true rfl) (Nat.le_of_ble_eq_true rfl) rfl h
set_option maxRecDepth 20000 in
theorem l_look {b L n : Nat} {xs : Nat → Int32} {μ : sM} {Z : tZ} (hn : n + 6 ≤ L) (hL : L ≤ 3072) (hE : ∀ μ Z, zW Z → zC μ Z → zM μ Z → lG b L xs 915 (nI n) [] μ) (hW : zW Z) (hC : zC μ Z) (hM : zM μ Z) : lG b L xs 621 (nI n) [] μ := by
  refine l_a1 dL_law_621 ?_
  refine l_arg (j2 := 1) dL_law_622 dL_law_623 dL_law_624 dL_law_625 dL_law_626 (by decide) (by decide) hn hL ?_
  refine l_arg (j2 := 2) dL_law_627 dL_law_628 dL_law_629 dL_law_630 dL_law_631 (by decide) (by decide) hn hL ?_
  refine l_callI (mi2 := mX8_look) (st := []) [sI (xs (n + 1)), sI (xs (n + 2))] dL_law_632 lL_86 kX8_look vX8_look rfl rfl rfl (Nat.le_of_ble_eq_true rfl) (Nat.le_of_ble_eq_true rfl) (Nat.le_of_ble_eq_true rfl) rfl ?_
  refine sG.mono (q_look (d := 0) (K := fun r r2 μ2 => lG b L xs 649 (nI n) [sI r2, sI r] μ2) hW hC hM (fun r μ2 Z2 hW2 hC2 hM2 => ?_)) (kI_mono fun r μ1 h => ?_)
  · exact l_eq dL_law_649 (by decide) (hE μ2 Z2 hW2 hC2 hM2)
  · refine l_a2 dL_law_635 ?_
    refine l_arg (j2 := 1) dL_law_636 dL_law_637 dL_law_638 dL_law_639 dL_law_640 (by decide) (by decide) hn hL ?_
    refine l_arg (j2 := 2) dL_law_641 dL_law_642 dL_law_643 dL_law_644 dL_law_645 (by decide) (by decide) hn hL ?_
    exact l_callI (mi2 := mX9_look) (st := [sI r]) [sI (xs (n + 1)), sI (xs (n + 2))] dL_law_646 lL_89 kX9_look vX9_look rfl rfl rfl (Nat.le_of_ble_eq_true rfl) (Nat.le_of_ble_eq_true rfl) (Nat.le_of_ble_eq_true rfl) rfl h
set_option maxRecDepth 20000 in
theorem l_belief {b L n : Nat} {xs : Nat → Int32} {μ : sM} {Z : tZ} (hn : n + 6 ≤ L) (hL : L ≤ 3072) (hE : ∀ μ Z, zW Z → zC μ Z → zM μ Z → lG b L xs 915 (nI n) [] μ) (hW : zW Z) (hC : zC μ Z) (hM : zM μ Z) : lG b L xs 654 (nI n) [] μ := by
  refine l_a1 dL_law_654 ?_
  refine l_arg (j2 := 1) dL_law_655 dL_law_656 dL_law_657 dL_law_658 dL_law_659 (by decide) (by decide) hn hL ?_
  refine l_arg (j2 := 2) dL_law_660 dL_law_661 dL_law_662 dL_law_663 dL_law_664 (by decide) (by decide) hn hL ?_
  refine l_arg (j2 := 3) dL_law_665 dL_law_666 dL_law_667 dL_law_668 dL_law_669 (by decide) (by decide) hn hL ?_
  refine l_callL (mi2 := mX8_belief) (st := []) [sI (xs (n + 1)), sI (xs (n + 2)), sI (xs (n + 3))] dL_law_670 lL_90 kX8_belief vX8_belief rfl rfl rfl (Nat.le_of_ble_eq_true rfl) (Nat.le_of_ble_eq_true rfl) (Nat.le_of_ble_eq_true rfl) rfl ?_
  refine sG.mono (q_belief (d := 0) (K := fun r r2 μ2 => lG b L xs 692 (nI n) [sL r2, sL r] μ2) hW hC hM (fun r μ2 Z2 hW2 hC2 hM2 => ?_)) (kL_mono fun r μ1 h => ?_)
  · exact l_eqL dL_law_692 dL_law_693 (by decide) (hE μ2 Z2 hW2 hC2 hM2)
  · refine l_a2 dL_law_673 ?_
    refine l_arg (j2 := 1) dL_law_674 dL_law_675 dL_law_676 dL_law_677 dL_law_678 (by decide) (by decide) hn hL ?_
    refine l_arg (j2 := 2) dL_law_679 dL_law_680 dL_law_681 dL_law_682 dL_law_683 (by decide) (by decide) hn hL ?_
    refine l_arg (j2 := 3) dL_law_684 dL_law_685 dL_law_686 dL_law_687 dL_law_688 (by decide) (by decide) hn hL ?_
    exact l_callL (mi2 := mX9_belief) (st := [sL r]) [sI (xs (n + 1)), sI (xs (n + 2)), sI (xs (n + 3))] dL_law_689 lL_94 kX9_belief vX9_belief rfl rfl rfl (Nat.le_of_ble_eq_true rfl) (Nat.le_of_ble_eq_true rfl) (Nat.le_of_ble_eq_true rfl) rfl h
set_option maxRecDepth 20000 in
theorem l_alike {b L n : Nat} {xs : Nat → Int32} {μ : sM} {Z : tZ} (hn : n + 6 ≤ L) (hL : L ≤ 3072) (hE : ∀ μ Z, zW Z → zC μ Z → zM μ Z → lG b L xs 915 (nI n) [] μ) (hW : zW Z) (hC : zC μ Z) (hM : zM μ Z) : lG b L xs 698 (nI n) [] μ := by
  refine l_a1 dL_law_698 ?_
  refine l_arg (j2 := 1) dL_law_699 dL_law_700 dL_law_701 dL_law_702 dL_law_703 (by decide) (by decide) hn hL ?_
  refine l_callI (mi2 := mX8_alike) (st := []) [sI (xs (n + 1))] dL_law_704 lL_95 kX8_alike vX8_alike rfl rfl rfl (Nat.le_of_ble_eq_true rfl) (Nat.le_of_ble_eq_true rfl) (Nat.le_of_ble_eq_true rfl) rfl ?_
  refine sG.mono (q_alike (d := 0) (K := fun r r2 μ2 => lG b L xs 716 (nI n) [sI r2, sI r] μ2) hW hC hM (fun r μ2 Z2 hW2 hC2 hM2 => ?_)) (kI_mono fun r μ1 h => ?_)
  · exact l_eq dL_law_716 (by decide) (hE μ2 Z2 hW2 hC2 hM2)
  · refine l_a2 dL_law_707 ?_
    refine l_arg (j2 := 1) dL_law_708 dL_law_709 dL_law_710 dL_law_711 dL_law_712 (by decide) (by decide) hn hL ?_
    exact l_callI (mi2 := mX9_alike) (st := [sI r]) [sI (xs (n + 1))] dL_law_713 lL_98 kX9_alike vX9_alike rfl rfl rfl (Nat.le_of_ble_eq_true rfl) (Nat.le_of_ble_eq_true rfl) (Nat.le_of_ble_eq_true rfl) rfl h
set_option maxRecDepth 20000 in
theorem l_lay {b L n : Nat} {xs : Nat → Int32} {μ : sM} {Z : tZ} (hn : n + 6 ≤ L) (hL : L ≤ 3072) (hE : ∀ μ Z, zW Z → zC μ Z → zM μ Z → lG b L xs 915 (nI n) [] μ) (hW : zW Z) (hC : zC μ Z) (hM : zM μ Z) : lG b L xs 721 (nI n) [] μ := by
  refine l_a1 dL_law_721 ?_
  refine l_arg (j2 := 1) dL_law_722 dL_law_723 dL_law_724 dL_law_725 dL_law_726 (by decide) (by decide) hn hL ?_
  refine l_callI (mi2 := mX8_lay) (st := []) [sI (xs (n + 1))] dL_law_727 lL_99 kX8_lay vX8_lay rfl rfl rfl (Nat.le_of_ble_eq_true rfl) (Nat.le_of_ble_eq_true rfl) (Nat.le_of_ble_eq_true rfl) rfl ?_
  refine sG.mono (q_lay (d := 0) (K := fun r r2 μ2 => lG b L xs 739 (nI n) [sI r2, sI r] μ2) hW hC hM (fun r μ2 Z2 hW2 hC2 hM2 => ?_)) (kI_mono fun r μ1 h => ?_)
  · exact l_eq dL_law_739 (by decide) (hE μ2 Z2 hW2 hC2 hM2)
  · refine l_a2 dL_law_730 ?_
    refine l_arg (j2 := 1) dL_law_731 dL_law_732 dL_law_733 dL_law_734 dL_law_735 (by decide) (by decide) hn hL ?_
    exact l_callI (mi2 := mX9_lay) (st := [sI r]) [sI (xs (n + 1))] dL_law_736 lL_102 kX9_lay vX9_lay rfl rfl rfl (Nat.le_of_ble_eq_true rfl) (Nat.le_of_ble_eq_true rfl) (Nat.le_of_ble_eq_true rfl) rfl h
set_option maxRecDepth 20000 in
theorem l_hide {b L n : Nat} {xs : Nat → Int32} {μ : sM} {Z : tZ} (hn : n + 6 ≤ L) (hL : L ≤ 3072) (hE : ∀ μ Z, zW Z → zC μ Z → zM μ Z → lG b L xs 915 (nI n) [] μ) (hW : zW Z) (hC : zC μ Z) (hM : zM μ Z) : lG b L xs 744 (nI n) [] μ := by
  refine l_a1 dL_law_744 ?_
  refine l_callI (mi2 := mX8_hide) (st := []) [] dL_law_745 lL_103 kX8_hide vX8_hide rfl rfl rfl (Nat.le_of_ble_eq_true rfl) (Nat.le_of_ble_eq_true rfl) (Nat.le_of_ble_eq_true rfl) rfl ?_
  refine sG.mono (q_hide (d := 0) (K := fun r r2 μ2 => lG b L xs 752 (nI n) [sI r2, sI r] μ2) hW hC hM (fun r μ2 Z2 hW2 hC2 hM2 => ?_)) (kI_mono fun r μ1 h => ?_)
  · exact l_eq dL_law_752 (by decide) (hE μ2 Z2 hW2 hC2 hM2)
  · refine l_a2 dL_law_748 ?_
    exact l_callI (mi2 := mX9_hide) (st := [sI r]) [] dL_law_749 lL_106 kX9_hide vX9_hide rfl rfl rfl (Nat.le_of_ble_eq_true rfl) (Nat.le_of_ble_eq_true rfl) (Nat.le_of_ble_eq_true rfl) rfl h
set_option maxRecDepth 20000 in
theorem l_trace {b L n : Nat} {xs : Nat → Int32} {μ : sM} {Z : tZ} (hn : n + 6 ≤ L) (hL : L ≤ 3072) (hE : ∀ μ Z, zW Z → zC μ Z → zM μ Z → lG b L xs 915 (nI n) [] μ) (hW : zW Z) (hC : zC μ Z) (hM : zM μ Z) : lG b L xs 757 (nI n) [] μ := by
  refine l_a1 dL_law_757 ?_
  refine l_callI (mi2 := mX8_trace) (st := []) [] dL_law_758 lL_107 kX8_trace vX8_trace rfl rfl rfl (Nat.le_of_ble_eq_true rfl) (Nat.le_of_ble_eq_true rfl) (Nat.le_of_ble_eq_true rfl) rfl ?_
  refine sG.mono (q_trace (d := 0) (K := fun r r2 μ2 => lG b L xs 765 (nI n) [sI r2, sI r] μ2) hW hC hM (fun r μ2 Z2 hW2 hC2 hM2 => ?_)) (kI_mono fun r μ1 h => ?_)
  · exact l_eq dL_law_765 (by decide) (hE μ2 Z2 hW2 hC2 hM2)
  · refine l_a2 dL_law_761 ?_
    exact l_callI (mi2 := mX9_trace) (st := [sI r]) [] dL_law_762 lL_110 kX9_trace vX9_trace rfl rfl rfl (Nat.le_of_ble_eq_true rfl) (Nat.le_of_ble_eq_true rfl) (Nat.le_of_ble_eq_true rfl) rfl h
set_option maxRecDepth 20000 in
theorem l_lock {b L n : Nat} {xs : Nat → Int32} {μ : sM} {Z : tZ} (hn : n + 6 ≤ L) (hL : L ≤ 3072) (hE : ∀ μ Z, zW Z → zC μ Z → zM μ Z → lG b L xs 915 (nI n) [] μ) (hW : zW Z) (hC : zC μ Z) (hM : zM μ Z) : lG b L xs 770 (nI n) [] μ := by
  refine l_a1 dL_law_770 ?_
  refine l_arg (j2 := 1) dL_law_771 dL_law_772 dL_law_773 dL_law_774 dL_law_775 (by decide) (by decide) hn hL ?_
  refine l_arg (j2 := 2) dL_law_776 dL_law_777 dL_law_778 dL_law_779 dL_law_780 (by decide) (by decide) hn hL ?_
  refine l_callI (mi2 := mX8_lock) (st := []) [sI (xs (n + 1)), sI (xs (n + 2))] dL_law_781 lL_111 kX8_lock vX8_lock rfl rfl rfl (Nat.le_of_ble_eq_true rfl) (Nat.le_of_ble_eq_true rfl) (Nat.le_of_ble_eq_true rfl) rfl ?_
  refine sG.mono (q_lock (d := 0) (K := fun r r2 μ2 => lG b L xs 798 (nI n) [sI r2, sI r] μ2) hW hC hM (fun r μ2 Z2 hW2 hC2 hM2 => ?_)) (kI_mono fun r μ1 h => ?_)
  · exact l_eq dL_law_798 (by decide) (hE μ2 Z2 hW2 hC2 hM2)
  · refine l_a2 dL_law_784 ?_
    refine l_arg (j2 := 1) dL_law_785 dL_law_786 dL_law_787 dL_law_788 dL_law_789 (by decide) (by decide) hn hL ?_
    refine l_arg (j2 := 2) dL_law_790 dL_law_791 dL_law_792 dL_law_793 dL_law_794 (by decide) (by decide) hn hL ?_
    exact l_callI (mi2 := mX9_lock) (st := [sI r]) [sI (xs (n + 1)), sI (xs (n + 2))] dL_law_795 lL_114 kX9_lock vX9_lock rfl rfl rfl (Nat.le_of_ble_eq_true rfl) (Nat.le_of_ble_eq_true rfl) (Nat.le_of_ble_eq_true rfl) rfl h
set_option maxRecDepth 20000 in
theorem l_year {b L n : Nat} {xs : Nat → Int32} {μ : sM} {Z : tZ} (hn : n + 6 ≤ L) (hL : L ≤ 3072) (hE : ∀ μ Z, zW Z → zC μ Z → zM μ Z → lG b L xs 915 (nI n) [] μ) (hW : zW Z) (hC : zC μ Z) (hM : zM μ Z) : lG b L xs 803 (nI n) [] μ := by
  refine l_a1 dL_law_803 ?_
  refine l_arg (j2 := 1) dL_law_804 dL_law_805 dL_law_806 dL_law_807 dL_law_808 (by decide) (by decide) hn hL ?_
  refine l_arg (j2 := 2) dL_law_809 dL_law_810 dL_law_811 dL_law_812 dL_law_813 (by decide) (by decide) hn hL ?_
  refine l_arg (j2 := 3) dL_law_814 dL_law_815 dL_law_816 dL_law_817 dL_law_818 (by decide) (by decide) hn hL ?_
  refine l_callI (mi2 := mX8_year) (st := []) [sI (xs (n + 1)), sI (xs (n + 2)), sI (xs (n + 3))] dL_law_819 lL_115 kX8_year vX8_year rfl rfl rfl (Nat.le_of_ble_eq_true rfl) (Nat.le_of_ble_eq_true rfl) (Nat.le_of_ble_eq_true rfl) rfl ?_
  refine sG.mono (q_year (d := 0) (K := fun r r2 μ2 => lG b L xs 841 (nI n) [sI r2, sI r] μ2) hW hC hM (fun r μ2 Z2 hW2 hC2 hM2 => ?_)) (kI_mono fun r μ1 h => ?_)
  · exact l_eq dL_law_841 (by decide) (hE μ2 Z2 hW2 hC2 hM2)
  · refine l_a2 dL_law_822 ?_
    refine l_arg (j2 := 1) dL_law_823 dL_law_824 dL_law_825 dL_law_826 dL_law_827 (by decide) (by decide) hn hL ?_
    refine l_arg (j2 := 2) dL_law_828 dL_law_829 dL_law_830 dL_law_831 dL_law_832 (by decide) (by decide) hn hL ?_
    refine l_arg (j2 := 3) dL_law_833 dL_law_834 dL_law_835 dL_law_836 dL_law_837 (by decide) (by decide) hn hL ?_
    exact l_callI (mi2 := mX9_year) (st := [sI r]) [sI (xs (n + 1)), sI (xs (n + 2)), sI (xs (n + 3))] dL_law_838 lL_118 kX9_year vX9_year rfl rfl rfl (Nat.le_of_ble_eq_true rfl) (Nat.le_of_ble_eq_true rfl) (Nat.le_of_ble_eq_true rfl) rfl h
set_option maxRecDepth 20000 in
theorem l_image {b L n : Nat} {xs : Nat → Int32} {μ : sM} {Z : tZ} (hn : n + 6 ≤ L) (hL : L ≤ 3072) (hE : ∀ μ Z, zW Z → zC μ Z → zM μ Z → lG b L xs 915 (nI n) [] μ) (hW : zW Z) (hC : zC μ Z) (hM : zM μ Z) : lG b L xs 846 (nI n) [] μ := by
  refine l_a1 dL_law_846 ?_
  refine l_arg (j2 := 1) dL_law_847 dL_law_848 dL_law_849 dL_law_850 dL_law_851 (by decide) (by decide) hn hL ?_
  refine l_callI (mi2 := mX8_image) (st := []) [sI (xs (n + 1))] dL_law_852 lL_119 kX8_image vX8_image rfl rfl rfl (Nat.le_of_ble_eq_true rfl) (Nat.le_of_ble_eq_true rfl) (Nat.le_of_ble_eq_true rfl) rfl ?_
  refine sG.mono (q_image (d := 0) (K := fun r r2 μ2 => lG b L xs 864 (nI n) [sI r2, sI r] μ2) hW hC hM (fun r μ2 Z2 hW2 hC2 hM2 => ?_)) (kI_mono fun r μ1 h => ?_)
  · exact l_eq dL_law_864 (by decide) (hE μ2 Z2 hW2 hC2 hM2)
  · refine l_a2 dL_law_855 ?_
    refine l_arg (j2 := 1) dL_law_856 dL_law_857 dL_law_858 dL_law_859 dL_law_860 (by decide) (by decide) hn hL ?_
    exact l_callI (mi2 := mX9_image) (st := [sI r]) [sI (xs (n + 1))] dL_law_861 lL_122 kX9_image vX9_image rfl rfl rfl (Nat.le_of_ble_eq_true rfl) (Nat.le_of_ble_eq_true rfl) (Nat.le_of_ble_eq_true rfl) rfl h
set_option maxRecDepth 20000 in
theorem l_restore {b L n : Nat} {xs : Nat → Int32} {μ : sM} {Z : tZ} (hn : n + 6 ≤ L) (hL : L ≤ 3072) (hE : ∀ μ Z, zW Z → zC μ Z → zM μ Z → lG b L xs 915 (nI n) [] μ) (hW : zW Z) (hC : zC μ Z) (hM : zM μ Z) : lG b L xs 869 (nI n) [] μ := by
  refine l_a1 dL_law_869 ?_
  refine l_arg (j2 := 1) dL_law_870 dL_law_871 dL_law_872 dL_law_873 dL_law_874 (by decide) (by decide) hn hL ?_
  refine l_callI (mi2 := mX8_restore) (st := []) [sI (xs (n + 1))] dL_law_875 lL_123 kX8_restore vX8_restore rfl rfl rfl (Nat.le_of_ble_eq_true rfl) (Nat.le_of_ble_eq_true rfl) (Nat.le_of_ble_eq_true rfl) rfl ?_
  refine sG.mono (q_restore (d := 0) (K := fun r r2 μ2 => lG b L xs 887 (nI n) [sI r2, sI r] μ2) hW hC hM (fun r μ2 Z2 hW2 hC2 hM2 => ?_)) (kI_mono fun r μ1 h => ?_)
  · exact l_eq dL_law_887 (by decide) (hE μ2 Z2 hW2 hC2 hM2)
  · refine l_a2 dL_law_878 ?_
    refine l_arg (j2 := 1) dL_law_879 dL_law_880 dL_law_881 dL_law_882 dL_law_883 (by decide) (by decide) hn hL ?_
    exact l_callI (mi2 := mX9_restore) (st := [sI r]) [sI (xs (n + 1))] dL_law_884 lL_126 kX9_restore vX9_restore rfl rfl rfl (Nat.le_of_ble_eq_true rfl) (Nat.le_of_ble_eq_true rfl) (Nat.le_of_ble_eq_true rfl) rfl h
set_option maxRecDepth 20000 in
theorem l_told {b L n : Nat} {xs : Nat → Int32} {μ : sM} {Z : tZ} (hn : n + 6 ≤ L) (hL : L ≤ 3072) (hE : ∀ μ Z, zW Z → zC μ Z → zM μ Z → lG b L xs 915 (nI n) [] μ) (hW : zW Z) (hC : zC μ Z) (hM : zM μ Z) : lG b L xs 892 (nI n) [] μ := by
  refine l_a1 dL_law_892 ?_
  refine l_arg (j2 := 1) dL_law_893 dL_law_894 dL_law_895 dL_law_896 dL_law_897 (by decide) (by decide) hn hL ?_
  refine l_callI (mi2 := mX8_told) (st := []) [sI (xs (n + 1))] dL_law_898 lL_127 kX8_told vX8_told rfl rfl rfl (Nat.le_of_ble_eq_true rfl) (Nat.le_of_ble_eq_true rfl) (Nat.le_of_ble_eq_true rfl) rfl ?_
  refine sG.mono (q_told (d := 0) (K := fun r r2 μ2 => lG b L xs 910 (nI n) [sI r2, sI r] μ2) hW hC hM (fun r μ2 Z2 hW2 hC2 hM2 => ?_)) (kI_mono fun r μ1 h => ?_)
  · exact l_eq dL_law_910 (by decide) (hE μ2 Z2 hW2 hC2 hM2)
  · refine l_a2 dL_law_901 ?_
    refine l_arg (j2 := 1) dL_law_902 dL_law_903 dL_law_904 dL_law_905 dL_law_906 (by decide) (by decide) hn hL ?_
    exact l_callI (mi2 := mX9_told) (st := [sI r]) [sI (xs (n + 1))] dL_law_907 lL_130 kX9_told vX9_told rfl rfl rfl (Nat.le_of_ble_eq_true rfl) (Nat.le_of_ble_eq_true rfl) (Nat.le_of_ble_eq_true rfl) rfl h
theorem l_loop {b L : Nat} {xs : Nat → Int32} (hL : L ≤ 3072) : ∀ (k n : Nat), L ≤ n + k → n ≤ L → ∀ (μ : sM) (Z : tZ), zW Z → zC μ Z → zM μ Z → lG b L xs 18 (nI n) [] μ := by
  intro k
  induction k with
  | zero =>
    intro n h1 h2 μ Z hW hC hM
    exact l_head (by omega) hL (fun q => by omega)
  | succ k ih =>
    intro n h1 h2 μ Z hW hC hM
    refine l_head (by omega) hL (fun hn => ?_)
    have hE : ∀ μ Z, zW Z → zC μ Z → zM μ Z → lG b L xs 915 (nI n) [] μ := fun μ Z hW hC hM => l_next (ih (n + 6) (by omega) (by omega) μ Z hW hC hM)
    refine l_switch hn hL (fun t ht => ?_) (hE μ Z hW hC hM)
    rcases (show t = 0 ∨ t = 1 ∨ t = 2 ∨ t = 3 ∨ t = 4 ∨ t = 5 ∨ t = 6 ∨ t = 7 ∨ t = 8 ∨ t = 9 ∨ t = 10 ∨ t = 11 ∨ t = 12 ∨ t = 13 ∨ t = 14 ∨ t = 15 ∨ t = 16 ∨ t = 17 ∨ t = 18 ∨ t = 19 ∨ t = 20 ∨ t = 21 ∨ t = 22 ∨ t = 23 ∨ t = 24 ∨ t = 25 ∨ t = 26 ∨ t = 27 by omega) with rfl | rfl | rfl | rfl | rfl | rfl | rfl | rfl | rfl | rfl | rfl | rfl | rfl | rfl | rfl | rfl | rfl | rfl | rfl | rfl | rfl | rfl | rfl | rfl | rfl | rfl | rfl | rfl
    · exact l_things hn hL hE hW hC hM
    · exact l_thing hn hL hE hW hC hM
    · exact l_guest hn hL hE hW hC hM
    · exact l_leave hn hL hE hW hC hM
    · exact l_say hn hL hE hW hC hM
    · exact l_wipe hn hL hE hW hC hM
    · exact l_fault hn hL hE hW hC hM
    · exact l_judge hn hL hE hW hC hM
    · exact l_used hn hL hE hW hC hM
    · exact l_behind hn hL hE hW hC hM
    · exact l_done hn hL hE hW hC hM
    · exact l_state hn hL hE hW hC hM
    · exact l_eats hn hL hE hW hC hM
    · exact l_seen hn hL hE hW hC hM
    · exact l_forget hn hL hE hW hC hM
    · exact l_rows hn hL hE hW hC hM
    · exact l_cup hn hL hE hW hC hM
    · exact l_look hn hL hE hW hC hM
    · exact l_belief hn hL hE hW hC hM
    · exact l_alike hn hL hE hW hC hM
    · exact l_lay hn hL hE hW hC hM
    · exact l_hide hn hL hE hW hC hM
    · exact l_trace hn hL hE hW hC hM
    · exact l_lock hn hL hE hW hC hM
    · exact l_year hn hL hE hW hC hM
    · exact l_image hn hL hE hW hC hM
    · exact l_restore hn hL hE hW hC hM
    · exact l_told hn hL hE hW hC hM
