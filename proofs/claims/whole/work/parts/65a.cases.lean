/-! THE LAW: its cases, one after another -/
abbrev LL (G : Gt) (b i : Nat) : List (Nat × Value) := [(0, .ref b), (1, .ref (aD G 0 26)), (2, .ref (aD G 0 32)), (3, .ref (aD G 0 51)), (4, .int (nI i))]
theorem il {c : Prop} [Decidable c] {a b : Nat} (ha : a < 10) (hb : b < 10) : (if c then a else b) < 10 := by split <;> assumption
theorem shG_c : ∀ n : Nat, n < 21 → ∀ b : Nat, b < n + 1 → Op.cmpValue (FP.dcmp (shG n b) (shG n b)) .l = 0 := by decide +kernel
theorem k_addMark {G : Gt} {M : Mx} {Qf : State → Prop} {b Ls i : Nat} {xs : Nat → Int32} {w : Wd} {σ : Ss} (hC : cx G D_L_law M) (hE : lawE G M b Ls xs) (hi : i + 5 ≤ Ls) (hc : M.2.2.2.2.2.2.2.2.2.1 + 1 ≤ M.2.2.1.cells) (hs : M.2.2.2.2.2.2.2.2.2.2 + 6 ≤ M.2.2.1.slots) (okc : okC w σ) (okm : okM w σ) (kk : ∀ (k n : Nat) (w2 : Wd) (σ2 : Ss), k ≤ M.2.2.2.2.2.2.2.2.2.1 + 1 → n ≤ M.2.2.2.2.2.2.2.2.2.2 + 6 → okC w2 σ2 → okM w2 σ2 → jq G D_L_law (M1 M k n) Qf 1443 (LL G b i) [] w2) : jq G D_L_law M Qf 152 (LL G b i) [] w := by
  have hC1 : cx G D_L_law (M1 M (M.2.2.2.2.2.2.2.2.2.1 + 1) (M.2.2.2.2.2.2.2.2.2.2 + 6)) := cx_M1 hC hc hs
  have hE1 : lawE G (M1 M (M.2.2.2.2.2.2.2.2.2.1 + 1) (M.2.2.2.2.2.2.2.2.2.2 + 6)) b Ls xs := hE
  refine jq_aload_n (k0 := 1) dL_law_152 hC rfl rfl ?_
  refine jq_arg (c := 1) (ci := 1) (k0 := 0) (k4 := 4) dL_law_153 dL_law_154 dL_law_156 dL_law_157 dL_law_158 (by decide) hC hE (by omega) rfl rfl ?_
  refine jq_aload_n (k0 := 3) dL_law_159 hC rfl rfl ?_
  refine jq_callH (As := [.ref (aD G 0 26), .int (xs (i + 1)), .ref (aD G 0 51)]) (rest := []) (D' := D_L_addMark) dL_law_160 hC hE.1 hE.2.1 hE.2.2.1 (mt_L_addMark (Q := HQ (pAddMark σ.1 (xs (i + 1))) (nI (nM σ.1)) σ (addM σ.1 (xs (i + 1)).toInt, psh σ.2.1 σ.1, σ.2.2)) (h_addMark okc okm)) gL_law_L_addMark rfl ⟨rfl, rfl, Nat.le_of_ble_eq_true rfl, Nat.le_of_ble_eq_true rfl⟩ nm_L_addMark rfl (Nat.le_of_ble_eq_true rfl) hc hs (kI fun k1 w1 h => ?_)
  refine jq_istore (L' := (5, Value.int k1) :: LL G b i) dL_law_163 hC1 (by decide) rfl ?_
  refine jq_aload_n (k0 := 3) dL_law_165 hC1 rfl rfl ?_
  refine jq_arg (c := 1) (ci := 1) (k0 := 1) (k4 := 5) dL_law_166 dL_law_167 dL_law_169 dL_law_170 dL_law_171 (by decide) hC1 hE1 (by omega) rfl rfl ?_
  refine jq_callV (As := [.int (xs (i + 1))]) (rest := []) (n := 0) (o := 32) (D' := D_X9_addMark) dL_law_172 hC1 (cl_0 (by decide)) rfl rfl rfl (mt_X9_addMark (g_addMark h)) gL_law_X9_addMark rfl ⟨rfl, rfl, Nat.le_of_ble_eq_true rfl, Nat.le_of_ble_eq_true rfl⟩ nm_X9_addMark rfl (Nat.le_of_ble_eq_true rfl) (kI fun r1 w2 h2 => ?_)
  refine jq_istore (L' := (6, Value.int r1) :: (5, Value.int k1) :: LL G b i) dL_law_175 hC1 (by decide) rfl ?_
  exact jq_tail dL_law_177 dL_law_178 dL_law_181 dL_law_183 dL_law_188 dL_law_190 dL_law_193 dL_law_194 dL_law_195 dL_law_196 dL_law_198 dL_law_199 dL_law_200 dL_law_205 (by decide) hC1 (by unfold pAddMark; exact il (il (by decide) (by decide)) (by decide)) h.1 h2 (fun σ2 oc om => jq_less [2, 3, 4, 5, 6] rfl (kk _ _ w2 σ2 (Nat.le_refl _) (Nat.le_refl _) oc om))
theorem k_know {G : Gt} {M : Mx} {Qf : State → Prop} {b Ls i : Nat} {xs : Nat → Int32} {w : Wd} {σ : Ss} (hC : cx G D_L_law M) (hE : lawE G M b Ls xs) (hi : i + 5 ≤ Ls) (hc : M.2.2.2.2.2.2.2.2.2.1 + 1 ≤ M.2.2.1.cells) (hs : M.2.2.2.2.2.2.2.2.2.2 + 6 ≤ M.2.2.1.slots) (okc : okC w σ) (okm : okM w σ) (kk : ∀ (k n : Nat) (w2 : Wd) (σ2 : Ss), k ≤ M.2.2.2.2.2.2.2.2.2.1 + 1 → n ≤ M.2.2.2.2.2.2.2.2.2.2 + 6 → okC w2 σ2 → okM w2 σ2 → jq G D_L_law (M1 M k n) Qf 1443 (LL G b i) [] w2) : jq G D_L_law M Qf 208 (LL G b i) [] w := by
  have hC1 : cx G D_L_law (M1 M (M.2.2.2.2.2.2.2.2.2.1 + 1) (M.2.2.2.2.2.2.2.2.2.2 + 6)) := cx_M1 hC hc hs
  have hE1 : lawE G (M1 M (M.2.2.2.2.2.2.2.2.2.1 + 1) (M.2.2.2.2.2.2.2.2.2.2 + 6)) b Ls xs := hE
  refine jq_aload_n (k0 := 1) dL_law_208 hC rfl rfl ?_
  refine jq_arg (c := 1) (ci := 1) (k0 := 0) (k4 := 4) dL_law_209 dL_law_210 dL_law_212 dL_law_213 dL_law_214 (by decide) hC hE (by omega) rfl rfl ?_
  refine jq_arg (c := 2) (ci := 2) (k0 := 0) (k4 := 4) dL_law_215 dL_law_216 dL_law_218 dL_law_219 dL_law_220 (by decide) hC hE (by omega) rfl rfl ?_
  refine jq_aload_n (k0 := 3) dL_law_221 hC rfl rfl ?_
  refine jq_callH (As := [.ref (aD G 0 26), .int (xs (i + 1)), .int (xs (i + 2)), .ref (aD G 0 51)]) (rest := []) (D' := D_L_know) dL_law_222 hC hE.1 hE.2.1 hE.2.2.1 (mt_L_know (Q := HQ (pKnow σ.1 (xs (i + 1)) (xs (i + 2))) (iI (kn σ.1 (xN (xs (i + 1))))) σ (knoM σ.1 (xN (xs (i + 1))) (xs (i + 2)).toInt, psh σ.2.1 σ.1, σ.2.2)) (h_know okc okm)) gL_law_L_know rfl ⟨rfl, rfl, Nat.le_of_ble_eq_true rfl, Nat.le_of_ble_eq_true rfl⟩ nm_L_know rfl (Nat.le_of_ble_eq_true rfl) hc hs (kI fun k1 w1 h => ?_)
  refine jq_istore (L' := (5, Value.int k1) :: LL G b i) dL_law_225 hC1 (by decide) rfl ?_
  refine jq_aload_n (k0 := 3) dL_law_227 hC1 rfl rfl ?_
  refine jq_arg (c := 1) (ci := 1) (k0 := 1) (k4 := 5) dL_law_228 dL_law_229 dL_law_231 dL_law_232 dL_law_233 (by decide) hC1 hE1 (by omega) rfl rfl ?_
  refine jq_arg (c := 2) (ci := 2) (k0 := 1) (k4 := 5) dL_law_234 dL_law_235 dL_law_237 dL_law_238 dL_law_239 (by decide) hC1 hE1 (by omega) rfl rfl ?_
  refine jq_callV (As := [.int (xs (i + 1)), .int (xs (i + 2))]) (rest := []) (n := 0) (o := 32) (D' := D_X9_know) dL_law_240 hC1 (cl_0 (by decide)) rfl rfl rfl (mt_X9_know (g_know h)) gL_law_X9_know rfl ⟨rfl, rfl, Nat.le_of_ble_eq_true rfl, Nat.le_of_ble_eq_true rfl⟩ nm_X9_know rfl (Nat.le_of_ble_eq_true rfl) (kI fun r1 w2 h2 => ?_)
  refine jq_istore (L' := (6, Value.int r1) :: (5, Value.int k1) :: LL G b i) dL_law_243 hC1 (by decide) rfl ?_
  exact jq_tail dL_law_245 dL_law_246 dL_law_249 dL_law_251 dL_law_256 dL_law_258 dL_law_261 dL_law_262 dL_law_263 dL_law_264 dL_law_266 dL_law_267 dL_law_268 dL_law_273 (by decide) hC1 (by unfold pKnow; exact il (il (by decide) (by decide)) (by decide)) h.1 h2 (fun σ2 oc om => jq_less [2, 3, 4, 5, 6] rfl (kk _ _ w2 σ2 (Nat.le_refl _) (Nat.le_refl _) oc om))
theorem k_accept {G : Gt} {M : Mx} {Qf : State → Prop} {b Ls i : Nat} {xs : Nat → Int32} {w : Wd} {σ : Ss} (hC : cx G D_L_law M) (hE : lawE G M b Ls xs) (hi : i + 5 ≤ Ls) (hc : M.2.2.2.2.2.2.2.2.2.1 + 1 ≤ M.2.2.1.cells) (hs : M.2.2.2.2.2.2.2.2.2.2 + 6 ≤ M.2.2.1.slots) (okc : okC w σ) (okm : okM w σ) (kk : ∀ (k n : Nat) (w2 : Wd) (σ2 : Ss), k ≤ M.2.2.2.2.2.2.2.2.2.1 + 1 → n ≤ M.2.2.2.2.2.2.2.2.2.2 + 6 → okC w2 σ2 → okM w2 σ2 → jq G D_L_law (M1 M k n) Qf 1443 (LL G b i) [] w2) : jq G D_L_law M Qf 276 (LL G b i) [] w := by
  have hC1 : cx G D_L_law (M1 M (M.2.2.2.2.2.2.2.2.2.1 + 1) (M.2.2.2.2.2.2.2.2.2.2 + 6)) := cx_M1 hC hc hs
  have hE1 : lawE G (M1 M (M.2.2.2.2.2.2.2.2.2.1 + 1) (M.2.2.2.2.2.2.2.2.2.2 + 6)) b Ls xs := hE
  refine jq_aload_n (k0 := 1) dL_law_276 hC rfl rfl ?_
  refine jq_arg (c := 1) (ci := 1) (k0 := 0) (k4 := 4) dL_law_277 dL_law_278 dL_law_280 dL_law_281 dL_law_282 (by decide) hC hE (by omega) rfl rfl ?_
  refine jq_aload_n (k0 := 3) dL_law_283 hC rfl rfl ?_
  refine jq_callH (As := [.ref (aD G 0 26), .int (xs (i + 1)), .ref (aD G 0 51)]) (rest := []) (D' := D_L_accept) dL_law_284 hC hE.1 hE.2.1 hE.2.2.1 (mt_L_accept (Q := HQ (pAccept σ.1 (xs (i + 1))) (iI (hgt σ.1 (xN (xs (i + 1))))) σ (knoM σ.1 (xN (xs (i + 1))) (hgt σ.1 (xN (xs (i + 1)))), psh σ.2.1 σ.1, σ.2.2)) (h_accept okc okm)) gL_law_L_accept rfl ⟨rfl, rfl, Nat.le_of_ble_eq_true rfl, Nat.le_of_ble_eq_true rfl⟩ nm_L_accept rfl (Nat.le_of_ble_eq_true rfl) hc hs (kI fun k1 w1 h => ?_)
  refine jq_istore (L' := (5, Value.int k1) :: LL G b i) dL_law_287 hC1 (by decide) rfl ?_
  refine jq_aload_n (k0 := 3) dL_law_289 hC1 rfl rfl ?_
  refine jq_arg (c := 1) (ci := 1) (k0 := 1) (k4 := 5) dL_law_290 dL_law_291 dL_law_293 dL_law_294 dL_law_295 (by decide) hC1 hE1 (by omega) rfl rfl ?_
  refine jq_callV (As := [.int (xs (i + 1))]) (rest := []) (n := 0) (o := 32) (D' := D_X9_accept) dL_law_296 hC1 (cl_0 (by decide)) rfl rfl rfl (mt_X9_accept (g_accept h)) gL_law_X9_accept rfl ⟨rfl, rfl, Nat.le_of_ble_eq_true rfl, Nat.le_of_ble_eq_true rfl⟩ nm_X9_accept rfl (Nat.le_of_ble_eq_true rfl) (kI fun r1 w2 h2 => ?_)
  refine jq_istore (L' := (6, Value.int r1) :: (5, Value.int k1) :: LL G b i) dL_law_299 hC1 (by decide) rfl ?_
  exact jq_tail dL_law_301 dL_law_302 dL_law_305 dL_law_307 dL_law_312 dL_law_314 dL_law_317 dL_law_318 dL_law_319 dL_law_320 dL_law_322 dL_law_323 dL_law_324 dL_law_329 (by decide) hC1 (by unfold pAccept; exact il (il (by decide) (by decide)) (by decide)) h.1 h2 (fun σ2 oc om => jq_less [2, 3, 4, 5, 6] rfl (kk _ _ w2 σ2 (Nat.le_refl _) (Nat.le_refl _) oc om))
theorem k_addLeg {G : Gt} {M : Mx} {Qf : State → Prop} {b Ls i : Nat} {xs : Nat → Int32} {w : Wd} {σ : Ss} (hC : cx G D_L_law M) (hE : lawE G M b Ls xs) (hi : i + 5 ≤ Ls) (hc : M.2.2.2.2.2.2.2.2.2.1 + 1 ≤ M.2.2.1.cells) (hs : M.2.2.2.2.2.2.2.2.2.2 + 6 ≤ M.2.2.1.slots) (okc : okC w σ) (okm : okM w σ) (kk : ∀ (k n : Nat) (w2 : Wd) (σ2 : Ss), k ≤ M.2.2.2.2.2.2.2.2.2.1 + 1 → n ≤ M.2.2.2.2.2.2.2.2.2.2 + 6 → okC w2 σ2 → okM w2 σ2 → jq G D_L_law (M1 M k n) Qf 1443 (LL G b i) [] w2) : jq G D_L_law M Qf 332 (LL G b i) [] w := by
  have hC1 : cx G D_L_law (M1 M (M.2.2.2.2.2.2.2.2.2.1 + 1) (M.2.2.2.2.2.2.2.2.2.2 + 6)) := cx_M1 hC hc hs
  have hE1 : lawE G (M1 M (M.2.2.2.2.2.2.2.2.2.1 + 1) (M.2.2.2.2.2.2.2.2.2.2 + 6)) b Ls xs := hE
  refine jq_aload_n (k0 := 1) dL_law_332 hC rfl rfl ?_
  refine jq_arg (c := 1) (ci := 1) (k0 := 0) (k4 := 4) dL_law_333 dL_law_334 dL_law_336 dL_law_337 dL_law_338 (by decide) hC hE (by omega) rfl rfl ?_
  refine jq_arg (c := 2) (ci := 2) (k0 := 0) (k4 := 4) dL_law_339 dL_law_340 dL_law_342 dL_law_343 dL_law_344 (by decide) hC hE (by omega) rfl rfl ?_
  refine jq_arg (c := 3) (ci := 3) (k0 := 0) (k4 := 4) dL_law_345 dL_law_346 dL_law_348 dL_law_349 dL_law_350 (by decide) hC hE (by omega) rfl rfl ?_
  refine jq_arg (c := 4) (ci := 4) (k0 := 0) (k4 := 4) dL_law_351 dL_law_352 dL_law_354 dL_law_355 dL_law_356 (by decide) hC hE (by omega) rfl rfl ?_
  refine jq_aload_n (k0 := 3) dL_law_357 hC rfl rfl ?_
  refine jq_callH (As := [.ref (aD G 0 26), .int (xs (i + 1)), .int (xs (i + 2)), .int (xs (i + 3)), .int (xs (i + 4)), .ref (aD G 0 51)]) (rest := []) (D' := D_L_addLeg) dL_law_358 hC hE.1 hE.2.1 hE.2.2.1 (mt_L_addLeg (Q := HQ (pAddLeg σ.1 (xs (i + 1)) (xs (i + 2)) (xs (i + 3)) (xs (i + 4))) (nI (nL σ.1)) σ (addL σ.1 (xN (xs (i + 1))) (xN (xs (i + 2))) (xs (i + 3)).toInt (xN (xs (i + 4))), psh σ.2.1 σ.1, σ.2.2)) (h_addLeg okc okm)) gL_law_L_addLeg rfl ⟨rfl, rfl, Nat.le_of_ble_eq_true rfl, Nat.le_of_ble_eq_true rfl⟩ nm_L_addLeg rfl (Nat.le_of_ble_eq_true rfl) hc hs (kI fun k1 w1 h => ?_)
  refine jq_istore (L' := (5, Value.int k1) :: LL G b i) dL_law_361 hC1 (by decide) rfl ?_
  refine jq_aload_n (k0 := 3) dL_law_363 hC1 rfl rfl ?_
  refine jq_arg (c := 1) (ci := 1) (k0 := 1) (k4 := 5) dL_law_364 dL_law_365 dL_law_367 dL_law_368 dL_law_369 (by decide) hC1 hE1 (by omega) rfl rfl ?_
  refine jq_arg (c := 2) (ci := 2) (k0 := 1) (k4 := 5) dL_law_370 dL_law_371 dL_law_373 dL_law_374 dL_law_375 (by decide) hC1 hE1 (by omega) rfl rfl ?_
  refine jq_arg (c := 3) (ci := 3) (k0 := 1) (k4 := 5) dL_law_376 dL_law_377 dL_law_379 dL_law_380 dL_law_381 (by decide) hC1 hE1 (by omega) rfl rfl ?_
  refine jq_arg (c := 4) (ci := 4) (k0 := 1) (k4 := 5) dL_law_382 dL_law_383 dL_law_385 dL_law_386 dL_law_387 (by decide) hC1 hE1 (by omega) rfl rfl ?_
  refine jq_callV (As := [.int (xs (i + 1)), .int (xs (i + 2)), .int (xs (i + 3)), .int (xs (i + 4))]) (rest := []) (n := 0) (o := 32) (D' := D_X9_addLeg) dL_law_388 hC1 (cl_0 (by decide)) rfl rfl rfl (mt_X9_addLeg (g_addLeg h)) gL_law_X9_addLeg rfl ⟨rfl, rfl, Nat.le_of_ble_eq_true rfl, Nat.le_of_ble_eq_true rfl⟩ nm_X9_addLeg rfl (Nat.le_of_ble_eq_true rfl) (kI fun r1 w2 h2 => ?_)
  refine jq_istore (L' := (6, Value.int r1) :: (5, Value.int k1) :: LL G b i) dL_law_391 hC1 (by decide) rfl ?_
  exact jq_tail dL_law_393 dL_law_394 dL_law_397 dL_law_399 dL_law_404 dL_law_406 dL_law_409 dL_law_410 dL_law_411 dL_law_412 dL_law_414 dL_law_415 dL_law_416 dL_law_421 (by decide) hC1 (by unfold pAddLeg; exact il (il (il (by decide) (by decide)) (by decide)) (by decide)) h.1 h2 (fun σ2 oc om => jq_less [2, 3, 4, 5, 6] rfl (kk _ _ w2 σ2 (Nat.le_refl _) (Nat.le_refl _) oc om))
theorem k_measure {G : Gt} {M : Mx} {Qf : State → Prop} {b Ls i : Nat} {xs : Nat → Int32} {w : Wd} {σ : Ss} (hC : cx G D_L_law M) (hE : lawE G M b Ls xs) (hi : i + 5 ≤ Ls) (hc : M.2.2.2.2.2.2.2.2.2.1 + 1 ≤ M.2.2.1.cells) (hs : M.2.2.2.2.2.2.2.2.2.2 + 6 ≤ M.2.2.1.slots) (okc : okC w σ) (okm : okM w σ) (kk : ∀ (k n : Nat) (w2 : Wd) (σ2 : Ss), k ≤ M.2.2.2.2.2.2.2.2.2.1 + 1 → n ≤ M.2.2.2.2.2.2.2.2.2.2 + 6 → okC w2 σ2 → okM w2 σ2 → jq G D_L_law (M1 M k n) Qf 1443 (LL G b i) [] w2) : jq G D_L_law M Qf 424 (LL G b i) [] w := by
  have hC1 : cx G D_L_law (M1 M (M.2.2.2.2.2.2.2.2.2.1 + 1) (M.2.2.2.2.2.2.2.2.2.2 + 6)) := cx_M1 hC hc hs
  have hE1 : lawE G (M1 M (M.2.2.2.2.2.2.2.2.2.1 + 1) (M.2.2.2.2.2.2.2.2.2.2 + 6)) b Ls xs := hE
  refine jq_aload_n (k0 := 1) dL_law_424 hC rfl rfl ?_
  refine jq_arg (c := 1) (ci := 1) (k0 := 0) (k4 := 4) dL_law_425 dL_law_426 dL_law_428 dL_law_429 dL_law_430 (by decide) hC hE (by omega) rfl rfl ?_
  refine jq_arg (c := 2) (ci := 2) (k0 := 0) (k4 := 4) dL_law_431 dL_law_432 dL_law_434 dL_law_435 dL_law_436 (by decide) hC hE (by omega) rfl rfl ?_
  refine jq_aload_n (k0 := 3) dL_law_437 hC rfl rfl ?_
  refine jq_callH (As := [.ref (aD G 0 26), .int (xs (i + 1)), .int (xs (i + 2)), .ref (aD G 0 51)]) (rest := []) (D' := D_L_measure) dL_law_438 hC hE.1 hE.2.1 hE.2.2.1 (mt_L_measure (Q := HQ (pMeasure σ.1 (xs (i + 1)) (xs (i + 2))) (iI (smm σ.1 - smm (meaL σ.1 (xN (xs (i + 1))) (xs (i + 2)).toInt) + 1000000)) σ (meaL σ.1 (xN (xs (i + 1))) (xs (i + 2)).toInt, psh σ.2.1 σ.1, σ.2.2)) (h_measure okc okm)) gL_law_L_measure rfl ⟨rfl, rfl, Nat.le_of_ble_eq_true rfl, Nat.le_of_ble_eq_true rfl⟩ nm_L_measure rfl (Nat.le_of_ble_eq_true rfl) hc hs (kI fun k1 w1 h => ?_)
  refine jq_istore (L' := (5, Value.int k1) :: LL G b i) dL_law_441 hC1 (by decide) rfl ?_
  refine jq_aload_n (k0 := 3) dL_law_443 hC1 rfl rfl ?_
  refine jq_arg (c := 1) (ci := 1) (k0 := 1) (k4 := 5) dL_law_444 dL_law_445 dL_law_447 dL_law_448 dL_law_449 (by decide) hC1 hE1 (by omega) rfl rfl ?_
  refine jq_arg (c := 2) (ci := 2) (k0 := 1) (k4 := 5) dL_law_450 dL_law_451 dL_law_453 dL_law_454 dL_law_455 (by decide) hC1 hE1 (by omega) rfl rfl ?_
  refine jq_callV (As := [.int (xs (i + 1)), .int (xs (i + 2))]) (rest := []) (n := 0) (o := 32) (D' := D_X9_measure) dL_law_456 hC1 (cl_0 (by decide)) rfl rfl rfl (mt_X9_measure (g_measure h)) gL_law_X9_measure rfl ⟨rfl, rfl, Nat.le_of_ble_eq_true rfl, Nat.le_of_ble_eq_true rfl⟩ nm_X9_measure rfl (Nat.le_of_ble_eq_true rfl) (kI fun r1 w2 h2 => ?_)
  refine jq_istore (L' := (6, Value.int r1) :: (5, Value.int k1) :: LL G b i) dL_law_459 hC1 (by decide) rfl ?_
  exact jq_tail dL_law_461 dL_law_462 dL_law_465 dL_law_467 dL_law_472 dL_law_474 dL_law_477 dL_law_478 dL_law_479 dL_law_480 dL_law_482 dL_law_483 dL_law_484 dL_law_489 (by decide) hC1 (by unfold pMeasure; exact il (il (by decide) (by decide)) (by decide)) h.1 h2 (fun σ2 oc om => jq_less [2, 3, 4, 5, 6] rfl (kk _ _ w2 σ2 (Nat.le_refl _) (Nat.le_refl _) oc om))
theorem k_turn {G : Gt} {M : Mx} {Qf : State → Prop} {b Ls i : Nat} {xs : Nat → Int32} {w : Wd} {σ : Ss} (hC : cx G D_L_law M) (hE : lawE G M b Ls xs) (hi : i + 5 ≤ Ls) (hc : M.2.2.2.2.2.2.2.2.2.1 + 1 ≤ M.2.2.1.cells) (hs : M.2.2.2.2.2.2.2.2.2.2 + 6 ≤ M.2.2.1.slots) (okc : okC w σ) (okm : okM w σ) (kk : ∀ (k n : Nat) (w2 : Wd) (σ2 : Ss), k ≤ M.2.2.2.2.2.2.2.2.2.1 + 1 → n ≤ M.2.2.2.2.2.2.2.2.2.2 + 6 → okC w2 σ2 → okM w2 σ2 → jq G D_L_law (M1 M k n) Qf 1443 (LL G b i) [] w2) : jq G D_L_law M Qf 492 (LL G b i) [] w := by
  have hC1 : cx G D_L_law (M1 M (M.2.2.2.2.2.2.2.2.2.1 + 1) (M.2.2.2.2.2.2.2.2.2.2 + 6)) := cx_M1 hC hc hs
  have hE1 : lawE G (M1 M (M.2.2.2.2.2.2.2.2.2.1 + 1) (M.2.2.2.2.2.2.2.2.2.2 + 6)) b Ls xs := hE
  refine jq_aload_n (k0 := 1) dL_law_492 hC rfl rfl ?_
  refine jq_arg (c := 1) (ci := 1) (k0 := 0) (k4 := 4) dL_law_493 dL_law_494 dL_law_496 dL_law_497 dL_law_498 (by decide) hC hE (by omega) rfl rfl ?_
  refine jq_aload_n (k0 := 3) dL_law_499 hC rfl rfl ?_
  refine jq_callH (As := [.ref (aD G 0 26), .int (xs (i + 1)), .ref (aD G 0 51)]) (rest := []) (D' := D_L_turn) dL_law_500 hC hE.1 hE.2.1 hE.2.2.1 (mt_L_turn (Q := HQ (pLeg1 σ.1 (xs (i + 1))) (nI (tO σ.1 (xN (xs (i + 1))))) σ (turL σ.1 (xN (xs (i + 1))), psh σ.2.1 σ.1, σ.2.2)) (h_turn okc okm)) gL_law_L_turn rfl ⟨rfl, rfl, Nat.le_of_ble_eq_true rfl, Nat.le_of_ble_eq_true rfl⟩ nm_L_turn rfl (Nat.le_of_ble_eq_true rfl) hc hs (kI fun k1 w1 h => ?_)
  refine jq_istore (L' := (5, Value.int k1) :: LL G b i) dL_law_503 hC1 (by decide) rfl ?_
  refine jq_aload_n (k0 := 3) dL_law_505 hC1 rfl rfl ?_
  refine jq_arg (c := 1) (ci := 1) (k0 := 1) (k4 := 5) dL_law_506 dL_law_507 dL_law_509 dL_law_510 dL_law_511 (by decide) hC1 hE1 (by omega) rfl rfl ?_
  refine jq_callV (As := [.int (xs (i + 1))]) (rest := []) (n := 0) (o := 32) (D' := D_X9_turn) dL_law_512 hC1 (cl_0 (by decide)) rfl rfl rfl (mt_X9_turn (g_turn h)) gL_law_X9_turn rfl ⟨rfl, rfl, Nat.le_of_ble_eq_true rfl, Nat.le_of_ble_eq_true rfl⟩ nm_X9_turn rfl (Nat.le_of_ble_eq_true rfl) (kI fun r1 w2 h2 => ?_)
  refine jq_istore (L' := (6, Value.int r1) :: (5, Value.int k1) :: LL G b i) dL_law_515 hC1 (by decide) rfl ?_
  exact jq_tail dL_law_517 dL_law_518 dL_law_521 dL_law_523 dL_law_528 dL_law_530 dL_law_533 dL_law_534 dL_law_535 dL_law_536 dL_law_538 dL_law_539 dL_law_540 dL_law_545 (by decide) hC1 (by unfold pLeg1; exact il (by decide) (by decide)) h.1 h2 (fun σ2 oc om => jq_less [2, 3, 4, 5, 6] rfl (kk _ _ w2 σ2 (Nat.le_refl _) (Nat.le_refl _) oc om))
theorem k_removeLeg {G : Gt} {M : Mx} {Qf : State → Prop} {b Ls i : Nat} {xs : Nat → Int32} {w : Wd} {σ : Ss} (hC : cx G D_L_law M) (hE : lawE G M b Ls xs) (hi : i + 5 ≤ Ls) (hc : M.2.2.2.2.2.2.2.2.2.1 + 1 ≤ M.2.2.1.cells) (hs : M.2.2.2.2.2.2.2.2.2.2 + 6 ≤ M.2.2.1.slots) (okc : okC w σ) (okm : okM w σ) (kk : ∀ (k n : Nat) (w2 : Wd) (σ2 : Ss), k ≤ M.2.2.2.2.2.2.2.2.2.1 + 1 → n ≤ M.2.2.2.2.2.2.2.2.2.2 + 6 → okC w2 σ2 → okM w2 σ2 → jq G D_L_law (M1 M k n) Qf 1443 (LL G b i) [] w2) : jq G D_L_law M Qf 548 (LL G b i) [] w := by
  have hC1 : cx G D_L_law (M1 M (M.2.2.2.2.2.2.2.2.2.1 + 1) (M.2.2.2.2.2.2.2.2.2.2 + 6)) := cx_M1 hC hc hs
  have hE1 : lawE G (M1 M (M.2.2.2.2.2.2.2.2.2.1 + 1) (M.2.2.2.2.2.2.2.2.2.2 + 6)) b Ls xs := hE
  refine jq_aload_n (k0 := 1) dL_law_548 hC rfl rfl ?_
  refine jq_arg (c := 1) (ci := 1) (k0 := 0) (k4 := 4) dL_law_549 dL_law_550 dL_law_552 dL_law_553 dL_law_554 (by decide) hC hE (by omega) rfl rfl ?_
  refine jq_aload_n (k0 := 3) dL_law_555 hC rfl rfl ?_
  refine jq_callH (As := [.ref (aD G 0 26), .int (xs (i + 1)), .ref (aD G 0 51)]) (rest := []) (D' := D_L_removeLeg) dL_law_556 hC hE.1 hE.2.1 hE.2.2.1 (mt_L_removeLeg (Q := HQ (pLeg1 σ.1 (xs (i + 1))) (nI (nlp (drpL σ.1 (xN (xs (i + 1)))))) σ (drpL σ.1 (xN (xs (i + 1))), psh σ.2.1 σ.1, σ.2.2)) (h_removeLeg okc okm)) gL_law_L_removeLeg rfl ⟨rfl, rfl, Nat.le_of_ble_eq_true rfl, Nat.le_of_ble_eq_true rfl⟩ nm_L_removeLeg rfl (Nat.le_of_ble_eq_true rfl) hc hs (kI fun k1 w1 h => ?_)
  refine jq_istore (L' := (5, Value.int k1) :: LL G b i) dL_law_559 hC1 (by decide) rfl ?_
  refine jq_aload_n (k0 := 3) dL_law_561 hC1 rfl rfl ?_
  refine jq_arg (c := 1) (ci := 1) (k0 := 1) (k4 := 5) dL_law_562 dL_law_563 dL_law_565 dL_law_566 dL_law_567 (by decide) hC1 hE1 (by omega) rfl rfl ?_
  refine jq_callV (As := [.int (xs (i + 1))]) (rest := []) (n := 0) (o := 32) (D' := D_X9_removeLeg) dL_law_568 hC1 (cl_0 (by decide)) rfl rfl rfl (mt_X9_removeLeg (g_removeLeg h)) gL_law_X9_removeLeg rfl ⟨rfl, rfl, Nat.le_of_ble_eq_true rfl, Nat.le_of_ble_eq_true rfl⟩ nm_X9_removeLeg rfl (Nat.le_of_ble_eq_true rfl) (kI fun r1 w2 h2 => ?_)
  refine jq_istore (L' := (6, Value.int r1) :: (5, Value.int k1) :: LL G b i) dL_law_571 hC1 (by decide) rfl ?_
  exact jq_tail dL_law_573 dL_law_574 dL_law_577 dL_law_579 dL_law_584 dL_law_586 dL_law_589 dL_law_590 dL_law_591 dL_law_592 dL_law_594 dL_law_595 dL_law_596 dL_law_601 (by decide) hC1 (by unfold pLeg1; exact il (by decide) (by decide)) h.1 h2 (fun σ2 oc om => jq_less [2, 3, 4, 5, 6] rfl (kk _ _ w2 σ2 (Nat.le_refl _) (Nat.le_refl _) oc om))
