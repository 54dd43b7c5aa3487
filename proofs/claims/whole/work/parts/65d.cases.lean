theorem k_without {G : Gt} {M : Mx} {Qf : State → Prop} {b Ls i : Nat} {xs : Nat → Int32} {w : Wd} {σ : Ss} (hC : cx G D_L_law M) (hE : lawE G M b Ls xs) (hi : i + 5 ≤ Ls) (hc : M.2.2.2.2.2.2.2.2.2.1 + 1 ≤ M.2.2.1.cells) (hs : M.2.2.2.2.2.2.2.2.2.2 + 6 ≤ M.2.2.1.slots) (okc : okC w σ) (okm : okM w σ) (kk : ∀ (k n : Nat) (w2 : Wd) (σ2 : Ss), k ≤ M.2.2.2.2.2.2.2.2.2.1 + 1 → n ≤ M.2.2.2.2.2.2.2.2.2.2 + 6 → okC w2 σ2 → okM w2 σ2 → jq G D_L_law (M1 M k n) Qf 1443 (LL G b i) [] w2) : jq G D_L_law M Qf 1264 (LL G b i) [] w := by
  have hC1 : cx G D_L_law (M1 M (M.2.2.2.2.2.2.2.2.2.1 + 1) (M.2.2.2.2.2.2.2.2.2.2 + 6)) := cx_M1 hC hc hs
  have hE1 : lawE G (M1 M (M.2.2.2.2.2.2.2.2.2.1 + 1) (M.2.2.2.2.2.2.2.2.2.2 + 6)) b Ls xs := hE
  refine jq_aload_n (k0 := 1) dL_law_1264 hC rfl rfl ?_
  refine jq_arg (c := 1) (ci := 1) (k0 := 0) (k4 := 4) dL_law_1265 dL_law_1266 dL_law_1268 dL_law_1269 dL_law_1270 (by decide) hC hE (by omega) rfl rfl ?_
  refine jq_arg (c := 2) (ci := 2) (k0 := 0) (k4 := 4) dL_law_1271 dL_law_1272 dL_law_1274 dL_law_1275 dL_law_1276 (by decide) hC hE (by omega) rfl rfl ?_
  refine jq_aload_n (k0 := 3) dL_law_1277 hC rfl rfl ?_
  refine jq_callH (As := [.ref (aD G 0 26), .int (xs (i + 1)), .int (xs (i + 2)), .ref (aD G 0 51)]) (rest := []) (D' := D_L_without) dL_law_1278 hC hE.1 hE.2.1 hE.2.2.1 (mt_L_without (Q := HQ (pWithout σ.1 (xs (i + 1)) (xs (i + 2))) (oWb (drpL σ.1 (xN (xs (i + 1)))) (xs (i + 2))) σ σ) (h_without okc okm)) gL_law_L_without rfl ⟨rfl, rfl, Nat.le_of_ble_eq_true rfl, Nat.le_of_ble_eq_true rfl⟩ nm_L_without rfl (Nat.le_of_ble_eq_true rfl) hc hs (kI fun k1 w1 h => ?_)
  refine jq_istore (L' := (5, Value.int k1) :: LL G b i) dL_law_1281 hC1 (by decide) rfl ?_
  refine jq_aload_n (k0 := 3) dL_law_1283 hC1 rfl rfl ?_
  refine jq_arg (c := 1) (ci := 1) (k0 := 1) (k4 := 5) dL_law_1284 dL_law_1285 dL_law_1287 dL_law_1288 dL_law_1289 (by decide) hC1 hE1 (by omega) rfl rfl ?_
  refine jq_arg (c := 2) (ci := 2) (k0 := 1) (k4 := 5) dL_law_1290 dL_law_1291 dL_law_1293 dL_law_1294 dL_law_1295 (by decide) hC1 hE1 (by omega) rfl rfl ?_
  refine jq_callV (As := [.int (xs (i + 1)), .int (xs (i + 2))]) (rest := []) (n := 0) (o := 32) (D' := D_X9_without) dL_law_1296 hC1 (cl_0 (by decide)) rfl rfl rfl (mt_X9_without (g_without h)) gL_law_X9_without rfl ⟨rfl, rfl, Nat.le_of_ble_eq_true rfl, Nat.le_of_ble_eq_true rfl⟩ nm_X9_without rfl (Nat.le_of_ble_eq_true rfl) (kI fun r1 w2 h2 => ?_)
  refine jq_istore (L' := (6, Value.int r1) :: (5, Value.int k1) :: LL G b i) dL_law_1299 hC1 (by decide) rfl ?_
  exact jq_tail dL_law_1301 dL_law_1302 dL_law_1305 dL_law_1307 dL_law_1312 dL_law_1314 dL_law_1317 dL_law_1318 dL_law_1319 dL_law_1320 dL_law_1322 dL_law_1323 dL_law_1324 dL_law_1329 (by decide) hC1 (by unfold pWithout; exact il (il (by decide) (by decide)) (by decide)) h.1 h2 (fun σ2 oc om => jq_less [2, 3, 4, 5, 6] rfl (kk _ _ w2 σ2 (Nat.le_refl _) (Nat.le_refl _) oc om))
theorem k_fitting {G : Gt} {M : Mx} {Qf : State → Prop} {b Ls i : Nat} {xs : Nat → Int32} {w : Wd} {σ : Ss} (hC : cx G D_L_law M) (hE : lawE G M b Ls xs) (hi : i + 5 ≤ Ls) (hc : M.2.2.2.2.2.2.2.2.2.1 + 1 ≤ M.2.2.1.cells) (hs : M.2.2.2.2.2.2.2.2.2.2 + 6 ≤ M.2.2.1.slots) (okc : okC w σ) (okm : okM w σ) (kk : ∀ (k n : Nat) (w2 : Wd) (σ2 : Ss), k ≤ M.2.2.2.2.2.2.2.2.2.1 + 1 → n ≤ M.2.2.2.2.2.2.2.2.2.2 + 6 → okC w2 σ2 → okM w2 σ2 → jq G D_L_law (M1 M k n) Qf 1443 (LL G b i) [] w2) : jq G D_L_law M Qf 1332 (LL G b i) [] w := by
  have hC1 : cx G D_L_law (M1 M (M.2.2.2.2.2.2.2.2.2.1 + 1) (M.2.2.2.2.2.2.2.2.2.2 + 6)) := cx_M1 hC hc hs
  have hE1 : lawE G (M1 M (M.2.2.2.2.2.2.2.2.2.1 + 1) (M.2.2.2.2.2.2.2.2.2.2 + 6)) b Ls xs := hE
  refine jq_aload_n (k0 := 1) dL_law_1332 hC rfl rfl ?_
  refine jq_arg (c := 1) (ci := 1) (k0 := 0) (k4 := 4) dL_law_1333 dL_law_1334 dL_law_1336 dL_law_1337 dL_law_1338 (by decide) hC hE (by omega) rfl rfl ?_
  refine jq_aload_n (k0 := 3) dL_law_1339 hC rfl rfl ?_
  refine jq_callH (As := [.ref (aD G 0 26), .int (xs (i + 1)), .ref (aD G 0 51)]) (rest := []) (D' := D_L_fitting) dL_law_1340 hC hE.1 hE.2.1 hE.2.2.1 (mt_L_fitting (Q := HQ (pLeg1 σ.1 (xs (i + 1))) (oFt σ.1 (xN (xs (i + 1)))) σ σ) (h_fitting okc okm)) gL_law_L_fitting rfl ⟨rfl, rfl, Nat.le_of_ble_eq_true rfl, Nat.le_of_ble_eq_true rfl⟩ nm_L_fitting rfl (Nat.le_of_ble_eq_true rfl) hc hs (kI fun k1 w1 h => ?_)
  refine jq_istore (L' := (5, Value.int k1) :: LL G b i) dL_law_1343 hC1 (by decide) rfl ?_
  refine jq_aload_n (k0 := 3) dL_law_1345 hC1 rfl rfl ?_
  refine jq_arg (c := 1) (ci := 1) (k0 := 1) (k4 := 5) dL_law_1346 dL_law_1347 dL_law_1349 dL_law_1350 dL_law_1351 (by decide) hC1 hE1 (by omega) rfl rfl ?_
  refine jq_callV (As := [.int (xs (i + 1))]) (rest := []) (n := 0) (o := 32) (D' := D_X9_fitting) dL_law_1352 hC1 (cl_0 (by decide)) rfl rfl rfl (mt_X9_fitting (g_fitting h)) gL_law_X9_fitting rfl ⟨rfl, rfl, Nat.le_of_ble_eq_true rfl, Nat.le_of_ble_eq_true rfl⟩ nm_X9_fitting rfl (Nat.le_of_ble_eq_true rfl) (kI fun r1 w2 h2 => ?_)
  refine jq_istore (L' := (6, Value.int r1) :: (5, Value.int k1) :: LL G b i) dL_law_1355 hC1 (by decide) rfl ?_
  exact jq_tail dL_law_1357 dL_law_1358 dL_law_1361 dL_law_1363 dL_law_1368 dL_law_1370 dL_law_1373 dL_law_1374 dL_law_1375 dL_law_1376 dL_law_1378 dL_law_1379 dL_law_1380 dL_law_1385 (by decide) hC1 (by unfold pLeg1; exact il (by decide) (by decide)) h.1 h2 (fun σ2 oc om => jq_less [2, 3, 4, 5, 6] rfl (kk _ _ w2 σ2 (Nat.le_refl _) (Nat.le_refl _) oc om))
theorem k_goodShare {G : Gt} {M : Mx} {Qf : State → Prop} {b Ls i : Nat} {xs : Nat → Int32} {w : Wd} {σ : Ss} (hC : cx G D_L_law M) (hE : lawE G M b Ls xs) (hi : i + 5 ≤ Ls) (hc : M.2.2.2.2.2.2.2.2.2.1 + 1 ≤ M.2.2.1.cells) (hs : M.2.2.2.2.2.2.2.2.2.2 + 6 ≤ M.2.2.1.slots) (okc : okC w σ) (okm : okM w σ) (kk : ∀ (k n : Nat) (w2 : Wd) (σ2 : Ss), k ≤ M.2.2.2.2.2.2.2.2.2.1 + 1 → n ≤ M.2.2.2.2.2.2.2.2.2.2 + 6 → okC w2 σ2 → okM w2 σ2 → jq G D_L_law (M1 M k n) Qf 1443 (LL G b i) [] w2) : jq G D_L_law M Qf 1388 (LL G b i) [] w := by
  have hl := okc.1.l
  have hcn := nlp_le (S := σ.1)
  have hb : nbd σ.1 ≤ nlp σ.1 := ct_le _ _
  have hz := shG_c (nlp σ.1) (by omega) (nbd σ.1) (by omega)
  refine jq_aload_n (k0 := 1) dL_law_1388 hC rfl rfl ?_
  refine jq_callV (As := []) (rest := []) (n := 0) (o := 26) (D' := D_X8_goodShare) dL_law_1389 hC (cl_0 (by decide)) rfl rfl rfl (mt_X8_goodShare (Q := fun r => r = shG (nlp σ.1) (nbd σ.1)) (c_goodShare okc rfl)) gL_law_X8_goodShare rfl ⟨rfl, rfl, Nat.le_of_ble_eq_true rfl, Nat.le_of_ble_eq_true rfl⟩ nm_X8_goodShare rfl (Nat.le_of_ble_eq_true rfl) (kDp fun r1 e1 => ?_)
  subst e1
  refine jq_dstore (L' := (5, Value.double (shG (nlp σ.1) (nbd σ.1))) :: LL G b i) dL_law_1392 hC (by decide) rfl ?_
  refine jq_aload_n (k0 := 3) dL_law_1394 hC rfl rfl ?_
  refine jq_callV (As := []) (rest := []) (n := 0) (o := 32) (D' := D_X9_goodShare) dL_law_1395 hC (cl_0 (by decide)) rfl rfl rfl (mt_X9_goodShare (Q := fun r w2 => r = shG (nlp σ.1) (nbd σ.1) ∧ kM w w2 ∧ okM w2 σ) (m_goodShare okm (fun w2 a1 a2 => ⟨rfl, a1, a2⟩))) gL_law_X9_goodShare rfl ⟨rfl, rfl, Nat.le_of_ble_eq_true rfl, Nat.le_of_ble_eq_true rfl⟩ nm_X9_goodShare rfl (Nat.le_of_ble_eq_true rfl) (kD fun r2 w2 q2 => ?_)
  have e2 := q2.1
  subst e2
  refine jq_dstore (L' := (7, Value.double (shG (nlp σ.1) (nbd σ.1))) :: (5, Value.double (shG (nlp σ.1) (nbd σ.1))) :: LL G b i) dL_law_1398 hC (by decide) rfl ?_
  refine jq_dload (k0 := 1) dL_law_1400 hC rfl ?_
  refine jq_dload (k0 := 0) dL_law_1402 hC rfl ?_
  refine jq_dcmp dL_law_1404 hC ?_
  refine jq_if_eq (tgt := 1426) dL_law_1405 hC (by decide) (fun _ => ?_) (fun z => absurd hz z)
  exact jq_goto (tgt := 1443) dL_law_1426 hC (by decide) (jq_less [2, 3, 4, 5, 6] rfl (kk M.2.2.2.2.2.2.2.2.2.1 M.2.2.2.2.2.2.2.2.2.2 w2 σ (by omega) (by omega) (okC_kM okc q2.2.1) q2.2.2))
theorem k_digest {G : Gt} {M : Mx} {Qf : State → Prop} {b Ls i : Nat} {xs : Nat → Int32} {w : Wd} {σ : Ss} (hC : cx G D_L_law M) (hE : lawE G M b Ls xs) (hi : i + 5 ≤ Ls) (hc : M.2.2.2.2.2.2.2.2.2.1 + 1 ≤ M.2.2.1.cells) (hs : M.2.2.2.2.2.2.2.2.2.2 + 6 ≤ M.2.2.1.slots) (okc : okC w σ) (okm : okM w σ) (kk : ∀ (k n : Nat) (w2 : Wd) (σ2 : Ss), k ≤ M.2.2.2.2.2.2.2.2.2.1 + 1 → n ≤ M.2.2.2.2.2.2.2.2.2.2 + 6 → okC w2 σ2 → okM w2 σ2 → jq G D_L_law (M1 M k n) Qf 1443 (LL G b i) [] w2) : jq G D_L_law M Qf 1429 (LL G b i) [] w := by
  refine jq_aload_n (k0 := 1) dL_law_1429 hC rfl rfl ?_
  refine jq_callV (As := []) (rest := []) (n := 0) (o := 26) (D' := D_X8_digest) dL_law_1430 hC (cl_0 (by decide)) rfl rfl rfl (mt_X8_digest (Q := fun r w1 => r = gDg σ ∧ kC w w1 ∧ okC w1 σ) (c_digest okc (fun w1 a1 a2 => ⟨rfl, a1, a2⟩))) gL_law_X8_digest rfl ⟨rfl, rfl, Nat.le_of_ble_eq_true rfl, Nat.le_of_ble_eq_true rfl⟩ nm_X8_digest rfl (Nat.le_of_ble_eq_true rfl) (kL fun r1 w1 q1 => ?_)
  obtain ⟨e1, q11, q12⟩ := q1
  subst e1
  have okm1 : okM w1 σ := okM_ge okm q11.1
  refine jq_aload_n (k0 := 2) dL_law_1433 hC rfl rfl ?_
  refine jq_callV (As := []) (rest := [.long (gDg σ)]) (n := 0) (o := 32) (D' := D_X9_digest) dL_law_1434 hC (cl_0 (by decide)) rfl rfl rfl (mt_X9_digest (Q := fun r w2 => r = gDg σ ∧ kM w1 w2 ∧ okM w2 σ) (m_digest okm1 (fun w2 a1 a2 => ⟨rfl, a1, a2⟩))) gL_law_X9_digest rfl ⟨rfl, rfl, Nat.le_of_ble_eq_true rfl, Nat.le_of_ble_eq_true rfl⟩ nm_X9_digest rfl (Nat.le_of_ble_eq_true rfl) (kL fun r2 w2 q2 => ?_)
  have e2 := q2.1
  subst e2
  refine jq_lcmp dL_law_1437 hC ?_
  exact jq_if_eq (tgt := 1443) dL_law_1438 hC (by decide) (fun _ => kk M.2.2.2.2.2.2.2.2.2.1 M.2.2.2.2.2.2.2.2.2.2 w2 σ (by omega) (by omega) (okC_kM q12 q2.2.1) q2.2.2) (fun z => absurd (lgc_self _) z)
