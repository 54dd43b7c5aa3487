/-! the law's callees' words, X8_digest -/
theorem goodIn_cons_X8_digest {big a : List Cond} {c : Cond} (hc : GoodIn big [c]) (ha : GoodIn big a) : GoodIn big (c :: a) := fun w h => (List.mem_cons.mp h).elim (fun e => hc w (List.mem_singleton.mpr e)) (ha w)
set_option maxRecDepth 20000 in
theorem ggL_law_X8_digest_h : GoodIn wsL_law [Cond.code yX8_digest cX8_digest 4 (some .long)] := goodIn_q _ [(45, 8)] (by decide +kernel) (by decide +kernel)
set_option maxRecDepth 20000 in
theorem ggL_law_X8_digest_1 : GoodIn wsL_law wsX8_digest_r1 := goodIn_q _ [(45, 9), (45, 10), (0, 16), (23, 17), (6, 3), (19, 16), (0, 20), (20, 22), (22, 21), (37, 19), (37, 20), (37, 21), (0, 2), (37, 22), (37, 23), (14, 23), (1, 2), (30, 11), (38, 0), (38, 1), (38, 2), (2, 7), (38, 3), (9, 4)] (by decide +kernel) (by decide +kernel)
set_option maxRecDepth 20000 in
theorem ggL_law_X8_digest_2 : GoodIn wsL_law wsX8_digest_r2 := goodIn_q _ [(38, 4), (36, 13), (36, 14), (36, 15), (36, 16), (36, 17), (36, 18), (38, 5), (38, 6), (38, 7), (2, 4), (38, 8), (2, 22), (7, 16), (2, 19), (38, 9), (38, 10), (38, 11), (2, 13), (38, 12), (3, 21), (11, 13), (38, 13), (31, 14)] (by decide +kernel) (by decide +kernel)
set_option maxRecDepth 20000 in
theorem ggL_law_X8_digest_3 : GoodIn wsL_law wsX8_digest_r3 := goodIn_q _ [(31, 15), (31, 16), (11, 15), (12, 9), (10, 9), (7, 22), (10, 10), (12, 10), (31, 17), (15, 1), (15, 2), (15, 3), (15, 4), (15, 5), (15, 6), (15, 7), (3, 20), (3, 22), (11, 16), (31, 18), (15, 9), (15, 10), (15, 11), (15, 12)] (by decide +kernel) (by decide +kernel)
set_option maxRecDepth 20000 in
theorem ggL_law_X8_digest_4 : GoodIn wsL_law wsX8_digest_r4 := goodIn_q _ [(3, 18), (21, 5), (21, 6), (21, 7), (21, 8), (9, 3), (3, 8), (10, 8), (38, 14), (38, 15), (38, 16), (38, 17), (3, 12), (9, 5), (3, 3), (38, 18), (38, 19), (38, 20), (38, 21), (38, 22), (38, 23), (39, 0), (0, 15), (39, 1)] (by decide +kernel) (by decide +kernel)
set_option maxRecDepth 20000 in
theorem ggL_law_X8_digest_5 : GoodIn wsL_law wsX8_digest_r5 := goodIn_q _ [(6, 22), (39, 2), (9, 20), (9, 21), (9, 22), (1, 20), (8, 17), (8, 18), (45, 11), (45, 12), (45, 13), (45, 14), (31, 3), (31, 4), (31, 5), (0, 19), (31, 6), (2, 8), (31, 7), (2, 14), (31, 8), (2, 9), (31, 9), (31, 10)] (by decide +kernel) (by decide +kernel)
set_option maxRecDepth 20000 in
theorem ggL_law_X8_digest_6 : GoodIn wsL_law wsX8_digest_r6 := goodIn_q _ [(31, 11), (31, 12), (31, 13), (31, 19), (31, 20), (31, 21), (31, 22), (1, 17), (1, 18), (31, 23), (36, 5), (36, 6), (36, 7), (36, 8), (36, 9), (36, 10), (36, 11), (9, 16), (9, 17), (9, 18), (2, 20), (36, 12), (36, 19), (36, 20)] (by decide +kernel) (by decide +kernel)
set_option maxRecDepth 20000 in
theorem ggL_law_X8_digest_7 : GoodIn wsL_law wsX8_digest_r7 := goodIn_q _ [(36, 21), (36, 22), (36, 23), (7, 17), (7, 18), (7, 19), (42, 16), (42, 17), (42, 18), (42, 19), (0, 21), (0, 22), (42, 20), (6, 18), (6, 19), (6, 20), (6, 21), (1, 16), (6, 23), (7, 0), (7, 1), (7, 2), (1, 19), (1, 21)] (by decide +kernel) (by decide +kernel)
set_option maxRecDepth 20000 in
theorem ggL_law_X8_digest_8 : GoodIn wsL_law wsX8_digest_r8 := goodIn_q _ [(22, 22), (22, 23), (23, 0), (23, 1), (7, 7), (7, 8), (7, 9), (7, 10), (2, 10), (7, 11), (7, 12), (7, 13), (7, 14), (7, 15), (2, 21), (7, 20), (7, 21), (7, 23), (8, 0), (8, 1), (8, 2), (8, 3), (8, 4), (8, 5)] (by decide +kernel) (by decide +kernel)
set_option maxRecDepth 20000 in
theorem ggL_law_X8_digest_9 : GoodIn wsL_law wsX8_digest_r9 := goodIn_q _ [(8, 6), (8, 7), (8, 8), (8, 9), (8, 10), (8, 11), (8, 12), (8, 13), (8, 14), (8, 15), (8, 16), (8, 19), (8, 20), (8, 21), (8, 22), (8, 23), (9, 0), (9, 1), (9, 2), (3, 13), (9, 6), (9, 7), (9, 8), (9, 9)] (by decide +kernel) (by decide +kernel)
set_option maxRecDepth 20000 in
theorem ggL_law_X8_digest_10 : GoodIn wsL_law wsX8_digest_r10 := goodIn_q _ [(9, 10), (9, 11), (9, 12), (9, 13), (3, 4), (3, 5), (3, 6), (3, 7), (9, 14), (9, 15), (9, 19), (9, 23), (10, 0), (10, 1), (10, 2), (10, 3), (10, 4), (10, 5), (10, 6), (10, 7), (10, 11), (10, 12), (10, 13), (10, 14)] (by decide +kernel) (by decide +kernel)
set_option maxRecDepth 20000 in
theorem ggL_law_X8_digest_11 : GoodIn wsL_law wsX8_digest_r11 := goodIn_q _ [(10, 15), (10, 16), (10, 17), (10, 18), (10, 19), (3, 9), (10, 20), (10, 21), (10, 22), (10, 23), (3, 11), (11, 0), (3, 10), (11, 1), (11, 2), (11, 3), (11, 4), (11, 5), (11, 6), (11, 7), (11, 8), (11, 9), (11, 10), (11, 11)] (by decide +kernel) (by decide +kernel)
set_option maxRecDepth 20000 in
theorem ggL_law_X8_digest_12 : GoodIn wsL_law wsX8_digest_r12 := goodIn_q _ [(11, 12), (11, 14), (3, 19), (11, 17), (11, 18), (11, 19), (11, 20), (11, 21), (11, 22), (3, 23), (11, 23), (12, 0), (12, 1), (12, 2), (12, 3), (12, 4), (12, 5), (12, 6), (12, 7), (12, 8), (45, 15), (45, 16), (45, 17), (45, 18)] (by decide +kernel) (by decide +kernel)
set_option maxRecDepth 20000 in
theorem ggL_law_X8_digest_13 : GoodIn wsL_law wsX8_digest_r13 := goodIn_q _ [(32, 23), (33, 0), (33, 1), (33, 2), (33, 3), (33, 4), (33, 5), (33, 6), (33, 7), (33, 8), (33, 9), (33, 10), (33, 11), (33, 12), (33, 13), (33, 14), (33, 15), (33, 16), (33, 17), (33, 18), (33, 19), (33, 20), (33, 21), (42, 21)] (by decide +kernel) (by decide +kernel)
set_option maxRecDepth 20000 in
theorem ggL_law_X8_digest_14 : GoodIn wsL_law wsX8_digest_r14 := goodIn_q _ [(42, 22), (42, 23), (43, 0), (44, 0), (44, 1), (44, 2), (44, 3), (22, 5), (44, 4), (45, 19), (45, 20), (45, 21), (45, 22), (35, 10), (35, 11), (35, 12), (35, 13), (40, 18), (40, 19), (40, 20), (40, 21), (41, 10), (41, 11), (41, 12)] (by decide +kernel) (by decide +kernel)
set_option maxRecDepth 20000 in
theorem ggL_law_X8_digest_15 : GoodIn wsL_law wsX8_digest_r15 := goodIn_q _ [(41, 13), (41, 14), (41, 15), (41, 16), (41, 17), (41, 18), (41, 19), (41, 20), (44, 17), (44, 18), (44, 19), (44, 20), (45, 23), (46, 0), (46, 1), (46, 2), (46, 3), (46, 4), (46, 5), (46, 6), (46, 7), (46, 8), (1, 6), (24, 8)] (by decide +kernel) (by decide +kernel)
set_option maxRecDepth 20000 in
theorem ggL_law_X8_digest_16 : GoodIn wsL_law wsX8_digest_r16 := goodIn_q _ [(25, 11)] (by decide +kernel) (by decide +kernel)
set_option maxRecDepth 20000 in
theorem ggL_law_X8_digest_wsX80 : GoodIn wsL_law wsX80 := goodIn_q _ [(48, 0), (48, 1), (48, 2), (48, 3), (48, 4), (48, 5), (48, 6)] (by decide +kernel) (by decide +kernel)
set_option maxRecDepth 20000 in
theorem ggL_law_X8_digest_wsX50 : GoodIn wsL_law wsX50 := goodIn_q _ [(50, 0), (50, 1), (50, 2), (50, 3), (50, 4), (50, 5), (50, 6), (50, 7)] (by decide +kernel) (by decide +kernel)
set_option maxRecDepth 20000 in
theorem ggL_law_X8_digest_wsX40 : GoodIn wsL_law wsX40 := goodIn_q _ [(51, 0), (51, 1), (51, 2), (51, 3)] (by decide +kernel) (by decide +kernel)
set_option maxRecDepth 20000 in
theorem ggL_law_X8_digest_wsX20 : GoodIn wsL_law wsX20 := goodIn_q _ [(56, 0), (56, 1), (56, 2), (56, 3), (56, 4), (56, 5), (56, 6), (56, 7), (56, 8), (56, 9), (56, 10), (56, 11), (56, 12)] (by decide +kernel) (by decide +kernel)
set_option maxRecDepth 20000 in
theorem ggL_law_X8_digest_wsX10 : GoodIn wsL_law wsX10 := goodIn_q _ [(52, 0), (52, 1)] (by decide +kernel) (by decide +kernel)
set_option maxRecDepth 20000 in
theorem ggL_law_X8_digest_wsX70 : GoodIn wsL_law wsX70 := goodIn_q _ [(55, 0), (55, 1), (55, 2), (55, 3), (55, 4), (55, 5)] (by decide +kernel) (by decide +kernel)
set_option maxRecDepth 20000 in
theorem ggL_law_X8_digest_wsX00 : GoodIn wsL_law wsX00 := goodIn_q _ [(57, 0), (57, 1), (57, 2), (57, 3), (57, 4), (57, 5)] (by decide +kernel) (by decide +kernel)
set_option maxRecDepth 20000 in
theorem ggL_law_X8_digest_wsX60 : GoodIn wsL_law wsX60 := goodIn_q _ [(53, 0), (53, 1)] (by decide +kernel) (by decide +kernel)
theorem ggL_law_X8_digest : GoodIn wsL_law wsX8_digest := goodIn_cons_X8_digest ggL_law_X8_digest_h (goodIn_app (goodIn_app (goodIn_app (goodIn_app (goodIn_app (goodIn_app (goodIn_app (goodIn_app (goodIn_app ggL_law_X8_digest_1 (goodIn_app ggL_law_X8_digest_2 (goodIn_app ggL_law_X8_digest_3 (goodIn_app ggL_law_X8_digest_4 (goodIn_app ggL_law_X8_digest_5 (goodIn_app ggL_law_X8_digest_6 (goodIn_app ggL_law_X8_digest_7 (goodIn_app ggL_law_X8_digest_8 (goodIn_app ggL_law_X8_digest_9 (goodIn_app ggL_law_X8_digest_10 (goodIn_app ggL_law_X8_digest_11 (goodIn_app ggL_law_X8_digest_12 (goodIn_app ggL_law_X8_digest_13 (goodIn_app ggL_law_X8_digest_14 (goodIn_app ggL_law_X8_digest_15 ggL_law_X8_digest_16))))))))))))))) ggL_law_X8_digest_wsX80) ggL_law_X8_digest_wsX50) ggL_law_X8_digest_wsX40) ggL_law_X8_digest_wsX20) ggL_law_X8_digest_wsX10) ggL_law_X8_digest_wsX70) ggL_law_X8_digest_wsX00) ggL_law_X8_digest_wsX60)
set_option maxRecDepth 20000 in
theorem gL_law_X8_digest : GoodIn wsL_law (wsV RL 169 RX8 yX8_digest wsX8_digest) := goodIn_app (goodIn_of _ (by decide +kernel)) ggL_law_X8_digest
