/-! the law's callees' words, X9_digest -/
theorem goodIn_cons_X9_digest {big a : List Cond} {c : Cond} (hc : GoodIn big [c]) (ha : GoodIn big a) : GoodIn big (c :: a) := fun w h => (List.mem_cons.mp h).elim (fun e => hc w (List.mem_singleton.mpr e)) (ha w)
set_option maxRecDepth 20000 in
theorem ggL_law_X9_digest_h : GoodIn wsL_law [Cond.code yX9_digest cX9_digest 3 (some .long)] := goodIn_q _ [(46, 12)] (by decide +kernel) (by decide +kernel)
set_option maxRecDepth 20000 in
theorem ggL_law_X9_digest_1 : GoodIn wsL_law wsX9_digest_r1 := goodIn_q _ [(13, 3), (46, 13), (46, 14), (4, 18), (17, 4), (24, 18), (4, 21), (15, 17), (15, 18), (15, 19), (0, 5), (15, 20), (15, 21), (15, 22), (15, 23), (16, 0), (16, 1), (16, 2), (16, 3), (16, 4), (4, 22), (5, 1), (5, 2), (5, 0)] (by decide +kernel) (by decide +kernel)
set_option maxRecDepth 20000 in
theorem ggL_law_X9_digest_2 : GoodIn wsL_law wsX9_digest_r2 := goodIn_q _ [(16, 5), (16, 6), (16, 7), (16, 8), (16, 9), (16, 10), (16, 11), (16, 12), (16, 13), (16, 14), (16, 15), (16, 16), (16, 17), (16, 18), (16, 19), (16, 20), (16, 21), (16, 22), (16, 23), (17, 0), (17, 1), (17, 2), (17, 3), (5, 3)] (by decide +kernel) (by decide +kernel)
set_option maxRecDepth 20000 in
theorem ggL_law_X9_digest_3 : GoodIn wsL_law wsX9_digest_r3 := goodIn_q _ [(5, 4), (5, 5), (17, 5), (17, 6), (17, 7), (17, 8), (17, 9), (17, 10), (17, 11), (17, 12), (17, 13), (17, 14), (17, 15), (17, 16), (5, 7), (5, 8), (5, 6), (5, 9), (17, 17), (17, 18), (17, 19), (17, 20), (17, 21), (17, 22)] (by decide +kernel) (by decide +kernel)
set_option maxRecDepth 20000 in
theorem ggL_law_X9_digest_4 : GoodIn wsL_law wsX9_digest_r4 := goodIn_q _ [(17, 23), (18, 0), (18, 1), (18, 2), (18, 3), (18, 4), (18, 5), (18, 6), (18, 7), (5, 10), (18, 8), (18, 9), (18, 10), (18, 11), (18, 12), (18, 13), (18, 14), (18, 15), (5, 11), (5, 12), (18, 16), (18, 17), (18, 18), (18, 19)] (by decide +kernel) (by decide +kernel)
set_option maxRecDepth 20000 in
theorem ggL_law_X9_digest_5 : GoodIn wsL_law wsX9_digest_r5 := goodIn_q _ [(18, 20), (18, 21), (18, 22), (18, 23), (19, 0), (19, 1), (19, 2), (19, 3), (19, 4), (19, 5), (19, 6), (19, 7), (19, 8), (39, 7), (39, 8), (39, 9), (39, 10), (13, 8), (39, 11), (39, 12), (39, 13), (39, 14), (34, 15), (34, 16)] (by decide +kernel) (by decide +kernel)
set_option maxRecDepth 20000 in
theorem ggL_law_X9_digest_6 : GoodIn wsL_law wsX9_digest_r6 := goodIn_q _ [(34, 17), (34, 18), (34, 19), (34, 20), (34, 21), (34, 22), (34, 23), (35, 0), (35, 1), (35, 2), (39, 15), (39, 16), (39, 17), (39, 18), (21, 18), (21, 19), (21, 20), (21, 21), (39, 19), (39, 20), (39, 21), (39, 22), (32, 8), (32, 9)] (by decide +kernel) (by decide +kernel)
set_option maxRecDepth 20000 in
theorem ggL_law_X9_digest_7 : GoodIn wsL_law wsX9_digest_r7 := goodIn_q _ [(32, 10), (32, 11), (39, 23), (40, 0), (40, 1), (40, 2), (46, 15), (46, 16), (46, 17), (46, 18), (46, 19), (32, 4), (32, 5), (32, 6), (32, 7), (32, 12), (32, 13), (32, 14), (32, 15), (37, 4), (37, 5), (37, 6), (37, 7), (21, 13)] (by decide +kernel) (by decide +kernel)
set_option maxRecDepth 20000 in
theorem ggL_law_X9_digest_8 : GoodIn wsL_law wsX9_digest_r8 := goodIn_q _ [(37, 8), (37, 9), (37, 10), (37, 11), (34, 2), (34, 3), (34, 4), (34, 5), (34, 6), (34, 7), (34, 8), (34, 9), (34, 10), (34, 11), (34, 12), (34, 13), (34, 14), (43, 5), (43, 6), (43, 7), (43, 8), (43, 9), (43, 10), (43, 11)] (by decide +kernel) (by decide +kernel)
set_option maxRecDepth 20000 in
theorem ggL_law_X9_digest_9 : GoodIn wsL_law wsX9_digest_r9 := goodIn_q _ [(43, 12), (4, 19), (23, 6), (23, 7), (23, 8), (23, 9), (43, 13), (43, 14), (43, 15), (43, 16), (44, 9), (44, 10), (44, 11), (44, 12), (35, 18), (35, 19), (35, 20), (35, 21), (41, 2), (41, 3), (41, 4), (41, 5), (42, 1), (42, 2)] (by decide +kernel) (by decide +kernel)
set_option maxRecDepth 20000 in
theorem ggL_law_X9_digest_10 : GoodIn wsL_law wsX9_digest_r10 := goodIn_q _ [(42, 3), (42, 4), (42, 5), (42, 6), (42, 7), (42, 8), (45, 1), (45, 2), (45, 3), (45, 4), (46, 20), (46, 21), (46, 22), (46, 23), (47, 0), (47, 1), (47, 2)] (by decide +kernel) (by decide +kernel)
set_option maxRecDepth 20000 in
theorem ggL_law_X9_digest_wsX90 : GoodIn wsL_law wsX90 := goodIn_q _ [(49, 0), (49, 1), (49, 2), (49, 3), (49, 4), (49, 5), (49, 6), (49, 7), (49, 8), (49, 9), (49, 10), (49, 11), (49, 12), (49, 13), (49, 14), (49, 15), (49, 16), (49, 17), (49, 18), (49, 19), (49, 20), (49, 21), (49, 22), (49, 23), (49, 24)] (by decide +kernel) (by decide +kernel)
theorem ggL_law_X9_digest : GoodIn wsL_law wsX9_digest := goodIn_cons_X9_digest ggL_law_X9_digest_h (goodIn_app (goodIn_app ggL_law_X9_digest_1 (goodIn_app ggL_law_X9_digest_2 (goodIn_app ggL_law_X9_digest_3 (goodIn_app ggL_law_X9_digest_4 (goodIn_app ggL_law_X9_digest_5 (goodIn_app ggL_law_X9_digest_6 (goodIn_app ggL_law_X9_digest_7 (goodIn_app ggL_law_X9_digest_8 (goodIn_app ggL_law_X9_digest_9 ggL_law_X9_digest_10))))))))) ggL_law_X9_digest_wsX90)
set_option maxRecDepth 20000 in
theorem gL_law_X9_digest : GoodIn wsL_law (wsV RL 173 RX9 yX9_digest wsX9_digest) := goodIn_app (goodIn_of _ (by decide +kernel)) ggL_law_X9_digest
