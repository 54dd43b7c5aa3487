/-! the law's words are the tables' -/
def tP : Nat → List Cond
  | 0 => tables_1_1
  | 1 => tables_1_2
  | 2 => tables_1_3
  | 3 => tables_1_4
  | 4 => tables_1_5
  | 5 => tables_1_6
  | 6 => k2_sels lw_privs_1
  | 7 => k2_sels lw_privs_2
  | 8 => k2_sels lw_privs_3
  | 9 => k2_sels lw_privs_4
  | 10 => k2_sels lw_privs_5
  | 11 => k2_sels lw_privs_6
  | 12 => k2_sels lw_privs_7
  | _ => []
theorem tT_in {w : Cond} (h : w ∈ tables_1) : w ∈ lw_tbl := List.mem_append_right _ h
theorem tS_in {w : Cond} {ys : List (MethodName × Nat)} (hy : ∀ q ∈ ys, q ∈ lw_privs) (h : w ∈ k2_sels ys) : w ∈ lw_tbl := by
  obtain ⟨q, hq, rfl⟩ := List.mem_map.mp h
  exact List.mem_append_left _ (List.mem_map.mpr ⟨q, hy q hq, rfl⟩)
theorem tP_in : ∀ (k : Nat) (w : Cond), w ∈ tP k → w ∈ lw_tbl
  | 0, w, h => tT_in (show w ∈ tables_1 from (List.mem_append_left _ h))
  | 1, w, h => tT_in (show w ∈ tables_1 from (List.mem_append_right _ (List.mem_append_left _ h)))
  | 2, w, h => tT_in (show w ∈ tables_1 from (List.mem_append_right _ (List.mem_append_right _ (List.mem_append_left _ h))))
  | 3, w, h => tT_in (show w ∈ tables_1 from (List.mem_append_right _ (List.mem_append_right _ (List.mem_append_right _ (List.mem_append_left _ h)))))
  | 4, w, h => tT_in (show w ∈ tables_1 from (List.mem_append_right _ (List.mem_append_right _ (List.mem_append_right _ (List.mem_append_right _ (List.mem_append_left _ h))))))
  | 5, w, h => tT_in (show w ∈ tables_1 from (List.mem_append_right _ (List.mem_append_right _ (List.mem_append_right _ (List.mem_append_right _ (List.mem_append_right _ h))))))
  | 6, w, h => tS_in (ys := lw_privs_1) (fun q hq => show q ∈ lw_privs from (List.mem_append_left _ hq)) h
  | 7, w, h => tS_in (ys := lw_privs_2) (fun q hq => show q ∈ lw_privs from (List.mem_append_right _ (List.mem_append_left _ hq))) h
  | 8, w, h => tS_in (ys := lw_privs_3) (fun q hq => show q ∈ lw_privs from (List.mem_append_right _ (List.mem_append_right _ (List.mem_append_left _ hq)))) h
  | 9, w, h => tS_in (ys := lw_privs_4) (fun q hq => show q ∈ lw_privs from (List.mem_append_right _ (List.mem_append_right _ (List.mem_append_right _ (List.mem_append_left _ hq))))) h
  | 10, w, h => tS_in (ys := lw_privs_5) (fun q hq => show q ∈ lw_privs from (List.mem_append_right _ (List.mem_append_right _ (List.mem_append_right _ (List.mem_append_right _ (List.mem_append_left _ hq)))))) h
  | 11, w, h => tS_in (ys := lw_privs_6) (fun q hq => show q ∈ lw_privs from (List.mem_append_right _ (List.mem_append_right _ (List.mem_append_right _ (List.mem_append_right _ (List.mem_append_right _ (List.mem_append_left _ hq))))))) h
  | 12, w, h => tS_in (ys := lw_privs_7) (fun q hq => show q ∈ lw_privs from (List.mem_append_right _ (List.mem_append_right _ (List.mem_append_right _ (List.mem_append_right _ (List.mem_append_right _ (List.mem_append_right _ hq))))))) h
  | _ + 13, _, h => absurd h List.not_mem_nil
theorem inr_of {ws : List Cond} (ps : List (Nat × Nat)) (h : ws = ps.filterMap (fun q => (tP q.1)[q.2]?)) : ∀ w ∈ ws, w ∈ lw_tbl := by
  intro w hw
  rw [h] at hw
  obtain ⟨q, -, hq⟩ := List.mem_filterMap.mp hw
  exact tP_in q.1 w (List.mem_of_getElem? hq)
set_option maxRecDepth 20000 in
theorem inr_1 : ∀ w ∈ wsL_law0_r1, w ∈ lw_tbl := inr_of [(0, 20), (0, 21), (0, 1), (3, 226), (3, 227), (0, 10), (5, 199), (0, 22), (0, 23), (0, 24), (0, 25), (0, 26), (0, 27), (0, 28), (0, 29), (0, 2), (1, 40), (0, 88), (0, 89), (0, 3), (1, 41), (1, 42), (1, 43), (0, 219)] (by decide +kernel)
set_option maxRecDepth 20000 in
theorem inr_2 : ∀ w ∈ wsL_law0_r2, w ∈ lw_tbl := inr_of [(0, 220), (0, 7), (1, 44), (0, 236), (0, 237), (0, 8), (1, 45), (1, 11), (1, 12), (0, 9), (1, 46), (0, 30), (0, 31), (0, 32), (0, 33), (0, 87), (0, 43), (0, 47), (0, 52), (0, 57), (0, 62), (0, 66), (0, 90), (0, 91)] (by decide +kernel)
set_option maxRecDepth 20000 in
theorem inr_3 : ∀ w ∈ wsL_law0_r3, w ∈ lw_tbl := inr_of [(0, 92), (0, 93), (0, 94), (0, 95), (0, 4), (0, 127), (0, 128), (0, 5), (0, 209), (0, 203), (0, 205), (0, 176), (0, 177), (0, 6), (0, 207), (0, 96), (0, 97), (0, 98), (0, 99), (0, 106), (0, 109), (0, 113), (0, 112), (0, 129)] (by decide +kernel)
set_option maxRecDepth 20000 in
theorem inr_4 : ∀ w ∈ wsL_law0_r4, w ∈ lw_tbl := inr_of [(0, 130), (0, 131), (0, 132), (0, 135), (0, 141), (0, 142), (0, 143), (0, 144), (0, 145), (0, 146), (0, 147), (0, 148), (0, 138), (0, 139), (0, 178), (0, 179), (0, 180), (0, 181), (0, 182), (0, 184), (0, 189), (0, 186), (0, 187), (0, 188)] (by decide +kernel)
set_option maxRecDepth 20000 in
theorem inr_5 : ∀ w ∈ wsL_law0_r5, w ∈ lw_tbl := inr_of [(0, 221), (0, 222), (0, 223), (0, 224), (0, 225), (0, 230), (0, 227), (0, 239), (1, 0), (1, 1), (1, 4), (1, 14), (1, 15), (1, 16), (3, 228), (3, 229), (3, 230), (3, 231), (3, 233), (3, 234), (3, 235), (3, 237), (3, 239), (4, 68)] (by decide +kernel)
set_option maxRecDepth 20000 in
theorem inr_6 : ∀ w ∈ wsL_law0_r6, w ∈ lw_tbl := inr_of [(4, 0), (4, 1), (4, 2), (4, 3), (4, 4), (4, 5), (4, 6), (4, 8), (4, 9), (4, 10), (4, 11), (4, 12), (4, 13), (2, 163), (2, 164), (0, 0), (2, 165), (2, 166), (2, 167), (2, 168), (2, 169), (2, 170), (2, 171), (2, 176)] (by decide +kernel)
set_option maxRecDepth 20000 in
theorem inr_7 : ∀ w ∈ wsL_law0_r7, w ∈ lw_tbl := inr_of [(0, 14), (2, 239), (0, 15), (0, 37), (2, 172), (2, 173), (2, 174), (2, 175), (3, 14), (3, 15), (3, 16), (3, 17), (0, 228), (3, 18), (3, 20), (8, 1), (3, 21), (3, 22), (2, 34), (2, 35), (2, 36), (0, 34), (0, 38), (2, 37)] (by decide +kernel)
set_option maxRecDepth 20000 in
theorem inr_8 : ∀ w ∈ wsL_law0_r8, w ∈ lw_tbl := inr_of [(2, 39), (2, 38), (0, 16), (3, 23), (3, 24), (3, 25), (3, 26), (2, 44), (2, 45), (2, 46), (2, 47), (2, 48), (2, 49), (2, 50), (2, 51), (0, 100), (0, 36), (0, 40), (0, 48), (0, 53), (2, 56), (2, 57), (0, 17), (2, 58)] (by decide +kernel)
set_option maxRecDepth 20000 in
theorem inr_9 : ∀ w ∈ wsL_law0_r9, w ∈ lw_tbl := inr_of [(2, 59), (2, 60), (2, 61), (2, 52), (2, 54), (6, 15), (2, 55), (0, 63), (2, 62), (2, 64), (7, 0), (2, 65), (2, 66), (2, 68), (7, 1), (2, 69), (0, 105), (1, 150), (1, 151), (2, 70), (2, 72), (7, 2), (2, 73), (2, 74)] (by decide +kernel)
set_option maxRecDepth 20000 in
theorem inr_10 : ∀ w ∈ wsL_law0_r10, w ∈ lw_tbl := inr_of [(2, 75), (2, 76), (2, 77), (0, 133), (0, 140), (0, 39), (0, 101), (2, 78), (2, 80), (7, 3), (2, 81), (0, 49), (0, 54), (0, 111), (0, 104), (2, 82), (2, 18), (2, 19), (2, 20), (2, 83), (1, 232), (1, 233), (1, 234), (2, 84)] (by decide +kernel)
set_option maxRecDepth 20000 in
theorem inr_11 : ∀ w ∈ wsL_law0_r11, w ∈ lw_tbl := inr_of [(2, 86), (7, 4), (2, 87), (0, 59), (1, 126), (1, 128), (6, 9), (1, 129), (1, 130), (1, 131), (1, 132), (1, 133), (1, 135), (6, 10), (1, 136), (0, 68), (2, 88), (2, 89), (2, 90), (2, 91), (2, 92), (2, 94), (7, 5), (2, 95)] (by decide +kernel)
set_option maxRecDepth 20000 in
theorem inr_12 : ∀ w ∈ wsL_law0_r12, w ∈ lw_tbl := inr_of [(0, 65), (2, 96), (2, 98), (7, 6), (2, 99), (2, 100), (2, 102), (7, 7), (2, 103), (2, 104), (2, 105), (2, 106), (2, 107), (0, 35), (0, 110), (0, 44), (0, 107), (2, 108), (2, 110), (7, 8), (2, 111), (0, 41), (0, 58), (0, 136)] (by decide +kernel)
set_option maxRecDepth 20000 in
theorem inr_13 : ∀ w ∈ wsL_law0_r13, w ∈ lw_tbl := inr_of [(0, 103), (2, 113), (2, 115), (7, 9), (2, 116), (2, 117), (2, 119), (7, 10), (2, 120), (1, 214), (0, 67), (4, 73), (4, 74), (4, 75), (4, 76), (4, 77), (4, 79), (8, 4), (4, 80), (4, 81), (4, 82), (4, 83), (4, 84), (4, 85)] (by decide +kernel)
set_option maxRecDepth 20000 in
theorem inr_14 : ∀ w ∈ wsL_law0_r14, w ∈ lw_tbl := inr_of [(4, 87), (8, 5), (4, 88), (3, 232), (4, 89), (4, 91), (8, 6), (4, 92), (3, 236), (4, 93), (4, 95), (8, 7), (4, 96), (4, 69), (4, 70), (4, 71), (4, 72), (3, 27), (3, 28), (3, 29), (3, 30), (3, 31), (3, 32), (3, 33)] (by decide +kernel)
set_option maxRecDepth 20000 in
theorem inr_15 : ∀ w ∈ wsL_law0_r15, w ∈ lw_tbl := inr_of [(3, 34), (3, 39), (0, 18), (0, 46), (3, 35), (3, 36), (3, 37), (3, 38), (4, 97), (4, 98), (4, 99), (4, 100), (4, 101), (4, 103), (8, 8), (4, 104), (3, 54), (3, 55), (3, 56), (3, 57), (3, 58), (3, 59), (3, 60), (0, 208)] (by decide +kernel)
set_option maxRecDepth 20000 in
theorem inr_16 : ∀ w ∈ wsL_law0_r16, w ∈ lw_tbl := inr_of [(3, 61), (1, 202), (1, 203), (1, 204), (1, 205), (1, 206), (1, 207), (1, 208), (3, 62), (1, 210), (1, 211), (1, 212), (1, 213), (4, 105), (4, 106), (4, 107), (4, 108), (4, 109), (4, 111), (8, 9), (4, 112), (4, 113), (4, 115), (8, 10)] (by decide +kernel)
set_option maxRecDepth 20000 in
theorem inr_17 : ∀ w ∈ wsL_law0_r17, w ∈ lw_tbl := inr_of [(4, 116), (4, 117), (4, 119), (8, 11), (4, 120), (4, 121), (4, 123), (8, 12), (4, 124), (4, 125), (4, 126), (4, 127), (4, 128), (4, 130), (8, 13), (4, 131), (4, 132), (4, 134), (8, 14), (4, 135), (4, 136), (4, 138), (8, 15), (4, 139)] (by decide +kernel)
set_option maxRecDepth 20000 in
theorem inr_18 : ∀ w ∈ wsL_law0_r18, w ∈ lw_tbl := inr_of [(4, 140), (4, 142), (9, 0), (4, 143), (4, 7), (4, 144), (4, 146), (9, 1), (4, 147), (4, 148), (4, 150), (9, 2), (4, 151), (4, 152), (4, 154), (9, 3), (4, 155), (4, 156), (4, 158), (9, 4), (4, 159), (4, 160), (4, 162), (9, 5)] (by decide +kernel)
set_option maxRecDepth 20000 in
theorem inr_19 : ∀ w ∈ wsL_law0_r19, w ∈ lw_tbl := inr_of [(4, 163), (4, 164), (4, 165), (4, 166), (4, 167), (4, 169), (9, 6), (4, 170), (4, 171), (4, 173), (9, 7), (4, 174), (4, 175), (4, 177), (9, 8), (4, 178), (4, 195), (4, 179), (4, 181), (9, 9), (4, 182), (4, 183), (4, 185), (9, 10)] (by decide +kernel)
set_option maxRecDepth 20000 in
theorem inr_20 : ∀ w ∈ wsL_law0_r20, w ∈ lw_tbl := inr_of [(4, 186), (4, 187), (4, 189), (9, 11), (4, 190), (4, 191), (4, 193), (9, 12), (4, 194), (3, 63), (3, 64), (3, 65), (3, 66), (3, 67), (3, 68), (3, 69), (0, 42), (3, 70), (3, 71), (3, 72), (3, 73), (3, 74), (3, 75), (3, 76)] (by decide +kernel)
set_option maxRecDepth 20000 in
theorem inr_21 : ∀ w ∈ wsL_law0_r21, w ∈ lw_tbl := inr_of [(3, 77), (3, 78), (3, 79), (4, 196), (4, 197), (4, 198), (4, 199), (4, 200), (4, 202), (9, 13), (4, 203), (4, 204), (4, 206), (9, 14), (4, 207), (3, 80), (3, 81), (3, 82), (3, 83), (3, 84), (3, 85), (3, 86), (0, 206), (0, 61)] (by decide +kernel)
set_option maxRecDepth 20000 in
theorem inr_22 : ∀ w ∈ wsL_law0_r22, w ∈ lw_tbl := inr_of [(3, 91), (3, 87), (3, 88), (3, 89), (3, 90), (1, 215), (1, 216), (1, 217), (1, 218), (4, 208), (4, 209), (4, 210), (4, 211), (4, 220), (4, 212), (4, 214), (9, 15), (4, 215), (4, 216), (4, 218), (10, 0), (4, 219), (3, 92), (3, 93)] (by decide +kernel)
set_option maxRecDepth 20000 in
theorem inr_23 : ∀ w ∈ wsL_law0_r23, w ∈ lw_tbl := inr_of [(3, 94), (3, 95), (3, 96), (3, 97), (3, 98), (0, 51), (3, 99), (3, 100), (3, 101), (3, 102), (4, 221), (4, 222), (4, 223), (4, 224), (3, 103), (3, 104), (3, 105), (3, 106), (3, 107), (3, 108), (3, 109), (0, 134), (2, 40), (2, 41)] (by decide +kernel)
set_option maxRecDepth 20000 in
theorem inr_24 : ∀ w ∈ wsL_law0_r24, w ∈ lw_tbl := inr_of [(2, 42), (2, 43), (4, 225), (4, 226), (4, 227), (4, 228), (4, 229), (4, 231), (10, 1), (4, 232), (3, 110), (3, 111), (3, 112), (3, 113), (3, 114), (3, 115), (3, 116), (0, 69), (3, 117), (3, 118), (3, 119), (4, 233), (4, 234), (4, 235)] (by decide +kernel)
set_option maxRecDepth 20000 in
theorem inr_25 : ∀ w ∈ wsL_law0_r25, w ∈ lw_tbl := inr_of [(4, 236), (3, 120), (3, 121), (3, 122), (3, 123), (3, 124), (3, 125), (3, 126), (1, 3), (3, 127), (3, 128), (3, 129), (3, 130), (1, 2), (4, 237), (4, 238), (4, 239), (5, 0), (3, 238), (1, 62), (1, 63), (1, 64), (1, 65), (5, 1)] (by decide +kernel)
set_option maxRecDepth 20000 in
theorem inr_26 : ∀ w ∈ wsL_law0_r26, w ∈ lw_tbl := inr_of [(5, 2), (5, 3), (5, 4), (1, 66), (1, 67), (1, 68), (1, 69), (1, 70), (1, 72), (6, 0), (1, 73), (1, 5), (1, 74), (1, 75), (1, 76), (1, 77), (1, 25), (1, 78), (1, 79), (1, 80), (1, 81), (1, 97), (1, 82), (1, 84)] (by decide +kernel)
set_option maxRecDepth 20000 in
theorem inr_27 : ∀ w ∈ wsL_law0_r27, w ∈ lw_tbl := inr_of [(6, 1), (1, 85), (1, 86), (1, 88), (6, 2), (1, 89), (1, 19), (1, 90), (1, 91), (1, 92), (1, 93), (1, 95), (6, 3), (1, 96), (1, 17), (1, 98), (1, 100), (6, 4), (1, 101), (1, 102), (1, 104), (6, 5), (1, 105), (1, 21)] (by decide +kernel)
set_option maxRecDepth 20000 in
theorem inr_28 : ∀ w ∈ wsL_law0_r28, w ∈ lw_tbl := inr_of [(1, 106), (1, 108), (6, 6), (1, 109), (1, 26), (1, 110), (1, 112), (6, 7), (1, 113), (1, 114), (1, 116), (6, 8), (1, 117), (1, 23), (5, 5), (5, 6), (5, 7), (5, 8), (4, 15), (4, 14), (5, 9), (5, 11), (10, 2), (5, 12)] (by decide +kernel)
set_option maxRecDepth 20000 in
theorem inr_29 : ∀ w ∈ wsL_law0_r29, w ∈ lw_tbl := inr_of [(5, 13), (5, 15), (10, 3), (5, 16), (5, 17), (5, 19), (10, 4), (5, 20), (5, 21), (5, 23), (10, 5), (5, 24), (5, 25), (5, 27), (10, 6), (5, 28), (3, 131), (3, 132), (3, 133), (3, 134), (3, 135), (3, 136), (3, 137), (3, 138)] (by decide +kernel)
set_option maxRecDepth 20000 in
theorem inr_30 : ∀ w ∈ wsL_law0_r30, w ∈ lw_tbl := inr_of [(3, 139), (3, 140), (3, 141), (3, 142), (3, 143), (3, 144), (3, 145), (3, 146), (3, 148), (8, 2), (3, 149), (3, 150), (3, 152), (8, 3), (3, 153), (1, 20), (1, 22), (1, 24), (1, 18), (3, 154), (3, 155), (3, 156), (3, 157), (3, 158)] (by decide +kernel)
set_option maxRecDepth 20000 in
theorem inr_31 : ∀ w ∈ wsL_law0_r31, w ∈ lw_tbl := inr_of [(5, 29), (5, 30), (5, 31), (5, 32), (3, 159), (3, 160), (3, 161), (3, 162), (3, 163), (3, 164), (3, 165), (0, 229), (3, 166), (3, 167), (3, 168), (3, 169), (5, 33), (5, 34), (5, 35), (5, 36), (3, 170), (3, 171), (3, 172), (3, 173)] (by decide +kernel)
set_option maxRecDepth 20000 in
theorem inr_32 : ∀ w ∈ wsL_law0_r32, w ∈ lw_tbl := inr_of [(3, 174), (3, 175), (3, 176), (2, 0), (2, 1), (2, 2), (2, 3), (0, 45), (2, 6), (0, 108), (0, 185), (2, 4), (2, 5), (2, 7), (1, 198), (1, 199), (1, 200), (1, 201), (1, 209), (2, 8), (2, 9), (2, 10), (2, 11), (2, 12)] (by decide +kernel)
set_option maxRecDepth 20000 in
theorem inr_33 : ∀ w ∈ wsL_law0_r33, w ∈ lw_tbl := inr_of [(5, 37), (5, 38), (5, 39), (5, 40), (5, 41), (5, 43), (10, 7), (5, 44), (5, 45), (5, 47), (10, 8), (5, 48), (5, 49), (5, 51), (10, 9), (5, 52), (3, 177), (3, 178), (3, 179), (3, 180), (3, 181), (3, 182), (3, 183), (2, 125)] (by decide +kernel)
set_option maxRecDepth 20000 in
theorem inr_34 : ∀ w ∈ wsL_law0_r34, w ∈ lw_tbl := inr_of [(2, 126), (2, 127), (2, 128), (0, 50), (0, 55), (0, 64), (0, 60), (2, 129), (0, 137), (0, 102), (2, 131), (2, 132), (2, 133), (2, 134), (2, 135), (1, 167), (1, 168), (1, 169), (2, 136), (1, 146), (1, 147), (1, 148), (5, 53), (5, 54)] (by decide +kernel)
set_option maxRecDepth 20000 in
theorem inr_35 : ∀ w ∈ wsL_law0_r35, w ∈ lw_tbl := inr_of [(5, 55), (5, 56), (5, 57), (5, 59), (10, 10), (5, 60), (5, 61), (5, 62), (5, 64), (10, 11), (5, 65), (5, 66), (5, 68), (10, 12), (5, 69), (5, 70), (5, 72), (10, 13), (5, 73), (5, 74), (5, 76), (10, 14), (5, 77), (5, 78)] (by decide +kernel)
set_option maxRecDepth 20000 in
theorem inr_36 : ∀ w ∈ wsL_law0_r36, w ∈ lw_tbl := inr_of [(5, 80), (10, 15), (5, 81), (3, 184), (3, 185), (3, 186), (3, 187), (3, 188), (3, 189), (3, 190), (2, 149), (2, 150), (2, 151), (2, 152), (5, 82), (5, 83), (5, 84), (5, 85), (5, 86), (5, 88), (11, 0), (5, 89), (3, 191), (3, 192)] (by decide +kernel)
set_option maxRecDepth 20000 in
theorem inr_37 : ∀ w ∈ wsL_law0_r37, w ∈ lw_tbl := inr_of [(3, 193), (3, 194), (3, 195), (3, 196), (3, 197), (2, 13), (2, 14), (2, 15), (2, 16), (0, 183), (2, 23), (2, 17), (2, 21), (1, 157), (0, 19), (1, 158), (1, 159), (1, 160), (1, 161), (2, 22), (2, 24), (2, 25), (2, 26), (2, 27)] (by decide +kernel)
set_option maxRecDepth 20000 in
theorem inr_38 : ∀ w ∈ wsL_law0_r38, w ∈ lw_tbl := inr_of [(5, 90), (5, 91), (5, 92), (5, 93), (5, 94), (5, 96), (11, 1), (5, 97), (5, 98), (5, 100), (11, 2), (5, 101), (3, 198), (3, 199), (3, 200), (3, 201), (3, 202), (3, 203), (3, 204), (1, 184), (1, 186), (6, 12), (1, 187), (0, 204)] (by decide +kernel)
set_option maxRecDepth 20000 in
theorem inr_39 : ∀ w ∈ wsL_law0_r39, w ∈ lw_tbl := inr_of [(1, 188), (1, 153), (1, 154), (1, 155), (1, 156), (1, 189), (1, 190), (1, 191), (1, 192), (1, 193), (1, 194), (1, 195), (1, 196), (1, 197), (1, 219), (1, 220), (1, 221), (1, 222), (1, 223), (1, 224), (1, 225), (1, 226), (1, 227), (1, 228)] (by decide +kernel)
set_option maxRecDepth 20000 in
theorem inr_40 : ∀ w ∈ wsL_law0_r40, w ∈ lw_tbl := inr_of [(1, 229), (1, 230), (1, 231), (5, 102), (5, 103), (5, 104), (5, 105), (5, 106), (5, 108), (11, 3), (5, 109), (5, 110), (5, 112), (11, 4), (5, 113), (5, 114), (5, 116), (11, 5), (5, 117), (5, 118), (5, 120), (11, 6), (5, 121), (5, 122)] (by decide +kernel)
set_option maxRecDepth 20000 in
theorem inr_41 : ∀ w ∈ wsL_law0_r41, w ∈ lw_tbl := inr_of [(5, 124), (11, 7), (5, 125), (3, 205), (3, 206), (3, 207), (3, 208), (3, 209), (3, 210), (3, 211), (5, 126), (5, 127), (5, 128), (5, 129), (1, 118), (1, 119), (1, 120), (1, 121), (1, 122), (1, 123), (1, 124), (1, 125), (5, 130), (5, 131)] (by decide +kernel)
set_option maxRecDepth 20000 in
theorem inr_42 : ∀ w ∈ wsL_law0_r42, w ∈ lw_tbl := inr_of [(5, 132), (5, 133), (5, 134), (5, 136), (11, 8), (5, 137), (1, 137), (1, 138), (1, 139), (1, 140), (1, 141), (1, 142), (1, 143), (1, 144), (1, 145), (1, 152), (1, 162), (1, 164), (6, 11), (1, 165), (1, 166), (5, 138), (5, 139), (5, 140)] (by decide +kernel)
set_option maxRecDepth 20000 in
theorem inr_43 : ∀ w ∈ wsL_law0_r43, w ∈ lw_tbl := inr_of [(5, 141), (5, 142), (5, 144), (11, 9), (5, 145), (5, 146), (5, 148), (11, 10), (5, 149), (3, 212), (3, 213), (3, 214), (3, 215), (3, 216), (3, 217), (3, 218), (2, 29), (2, 31), (6, 14), (2, 32), (2, 33), (2, 137), (2, 139), (7, 12)] (by decide +kernel)
set_option maxRecDepth 20000 in
theorem inr_44 : ∀ w ∈ wsL_law0_r44, w ∈ lw_tbl := inr_of [(2, 140), (5, 150), (5, 151), (5, 152), (5, 153), (5, 154), (5, 156), (11, 11), (5, 157), (5, 158), (5, 160), (11, 12), (5, 161), (5, 162), (5, 164), (11, 13), (5, 165), (3, 219), (3, 220), (3, 221), (3, 222), (3, 223), (3, 224), (3, 225)] (by decide +kernel)
set_option maxRecDepth 20000 in
theorem inr_45 : ∀ w ∈ wsL_law0_r45, w ∈ lw_tbl := inr_of [(2, 141), (2, 143), (7, 13), (2, 144), (0, 56), (5, 166), (5, 167), (5, 168), (5, 169), (5, 170), (5, 172), (11, 14), (5, 173), (1, 170), (1, 171), (1, 172), (1, 173), (1, 174), (1, 175), (1, 176), (1, 177), (5, 174), (5, 175), (5, 176)] (by decide +kernel)
set_option maxRecDepth 20000 in
theorem inr_46 : ∀ w ∈ wsL_law0_r46, w ∈ lw_tbl := inr_of [(5, 177), (5, 178), (5, 180), (11, 15), (5, 181), (1, 178), (1, 179), (1, 180), (1, 181), (1, 182), (1, 183), (1, 236), (1, 238), (6, 13), (1, 239), (2, 121), (2, 123), (7, 11), (2, 124), (2, 145), (2, 147), (7, 14), (2, 148), (2, 153)] (by decide +kernel)
set_option maxRecDepth 20000 in
theorem inr_47 : ∀ w ∈ wsL_law0_r47, w ∈ lw_tbl := inr_of [(2, 154), (2, 155), (2, 156), (2, 157), (2, 158), (2, 159), (2, 161), (7, 15), (2, 162), (5, 182), (5, 183), (5, 184), (5, 185), (5, 186), (4, 16), (5, 187), (5, 189), (12, 0), (5, 190), (5, 191), (5, 192), (5, 193), (5, 194), (5, 195)] (by decide +kernel)
set_option maxRecDepth 20000 in
theorem inr_48 : ∀ w ∈ wsL_law0_r48, w ∈ lw_tbl := inr_of [(5, 196), (5, 197), (5, 198)] (by decide +kernel)
set_option maxRecDepth 20000 in
theorem inx_8 : ∀ w ∈ wsX80, w ∈ lw_tbl := inr_of [(1, 47), (1, 49), (1, 51), (1, 53), (1, 55), (1, 57), (1, 59)] (by decide +kernel)
set_option maxRecDepth 20000 in
theorem inx_9 : ∀ w ∈ wsX90, w ∈ lw_tbl := inr_of [(4, 17), (4, 19), (4, 21), (4, 23), (4, 25), (4, 27), (4, 29), (4, 31), (4, 33), (4, 35), (4, 37), (4, 39), (4, 41), (4, 43), (4, 45), (4, 47), (4, 49), (4, 51), (4, 53), (4, 55), (4, 57), (4, 59), (4, 61), (4, 63), (4, 65)] (by decide +kernel)
set_option maxRecDepth 20000 in
theorem inx_5 : ∀ w ∈ wsX50, w ∈ lw_tbl := inr_of [(0, 70), (0, 72), (0, 74), (0, 76), (0, 78), (0, 80), (0, 82), (0, 84)] (by decide +kernel)
set_option maxRecDepth 20000 in
theorem inx_4 : ∀ w ∈ wsX40, w ∈ lw_tbl := inr_of [(0, 210), (0, 212), (0, 214), (0, 216)] (by decide +kernel)
set_option maxRecDepth 20000 in
theorem inx_1 : ∀ w ∈ wsX10, w ∈ lw_tbl := inr_of [(0, 231), (0, 233)] (by decide +kernel)
set_option maxRecDepth 20000 in
theorem inx_6 : ∀ w ∈ wsX60, w ∈ lw_tbl := inr_of [(1, 6), (1, 8)] (by decide +kernel)
set_option maxRecDepth 20000 in
theorem inx_3 : ∀ w ∈ wsX30, w ∈ lw_tbl := inr_of [(1, 27), (1, 29), (1, 31), (1, 33), (1, 35), (1, 37)] (by decide +kernel)
set_option maxRecDepth 20000 in
theorem inx_7 : ∀ w ∈ wsX70, w ∈ lw_tbl := inr_of [(0, 114), (0, 116), (0, 118), (0, 120), (0, 122), (0, 124)] (by decide +kernel)
set_option maxRecDepth 20000 in
theorem inx_2 : ∀ w ∈ wsX20, w ∈ lw_tbl := inr_of [(0, 149), (0, 151), (0, 153), (0, 155), (0, 157), (0, 159), (0, 161), (0, 163), (0, 165), (0, 167), (0, 169), (0, 171), (0, 173)] (by decide +kernel)
set_option maxRecDepth 20000 in
theorem inx_0 : ∀ w ∈ wsX00, w ∈ lw_tbl := inr_of [(0, 190), (0, 192), (0, 194), (0, 196), (0, 198), (0, 200)] (by decide +kernel)
theorem wsL_law_in0 : ∀ w ∈ wsL_law0, w ∈ lw_tbl := List.forall_mem_append.mpr ⟨List.forall_mem_append.mpr ⟨List.forall_mem_append.mpr ⟨List.forall_mem_append.mpr ⟨List.forall_mem_append.mpr ⟨List.forall_mem_append.mpr ⟨List.forall_mem_append.mpr ⟨List.forall_mem_append.mpr ⟨List.forall_mem_append.mpr ⟨List.forall_mem_append.mpr ⟨List.forall_mem_append.mpr ⟨List.forall_mem_append.mpr ⟨inr_1, List.forall_mem_append.mpr ⟨inr_2, List.forall_mem_append.mpr ⟨inr_3, List.forall_mem_append.mpr ⟨inr_4, List.forall_mem_append.mpr ⟨inr_5, List.forall_mem_append.mpr ⟨inr_6, List.forall_mem_append.mpr ⟨inr_7, List.forall_mem_append.mpr ⟨inr_8, List.forall_mem_append.mpr ⟨inr_9, List.forall_mem_append.mpr ⟨inr_10, List.forall_mem_append.mpr ⟨inr_11, List.forall_mem_append.mpr ⟨inr_12, List.forall_mem_append.mpr ⟨inr_13, List.forall_mem_append.mpr ⟨inr_14, List.forall_mem_append.mpr ⟨inr_15, List.forall_mem_append.mpr ⟨inr_16, List.forall_mem_append.mpr ⟨inr_17, List.forall_mem_append.mpr ⟨inr_18, List.forall_mem_append.mpr ⟨inr_19, List.forall_mem_append.mpr ⟨inr_20, List.forall_mem_append.mpr ⟨inr_21, List.forall_mem_append.mpr ⟨inr_22, List.forall_mem_append.mpr ⟨inr_23, List.forall_mem_append.mpr ⟨inr_24, List.forall_mem_append.mpr ⟨inr_25, List.forall_mem_append.mpr ⟨inr_26, List.forall_mem_append.mpr ⟨inr_27, List.forall_mem_append.mpr ⟨inr_28, List.forall_mem_append.mpr ⟨inr_29, List.forall_mem_append.mpr ⟨inr_30, List.forall_mem_append.mpr ⟨inr_31, List.forall_mem_append.mpr ⟨inr_32, List.forall_mem_append.mpr ⟨inr_33, List.forall_mem_append.mpr ⟨inr_34, List.forall_mem_append.mpr ⟨inr_35, List.forall_mem_append.mpr ⟨inr_36, List.forall_mem_append.mpr ⟨inr_37, List.forall_mem_append.mpr ⟨inr_38, List.forall_mem_append.mpr ⟨inr_39, List.forall_mem_append.mpr ⟨inr_40, List.forall_mem_append.mpr ⟨inr_41, List.forall_mem_append.mpr ⟨inr_42, List.forall_mem_append.mpr ⟨inr_43, List.forall_mem_append.mpr ⟨inr_44, List.forall_mem_append.mpr ⟨inr_45, List.forall_mem_append.mpr ⟨inr_46, List.forall_mem_append.mpr ⟨inr_47, inr_48⟩⟩⟩⟩⟩⟩⟩⟩⟩⟩⟩⟩⟩⟩⟩⟩⟩⟩⟩⟩⟩⟩⟩⟩⟩⟩⟩⟩⟩⟩⟩⟩⟩⟩⟩⟩⟩⟩⟩⟩⟩⟩⟩⟩⟩⟩⟩, inx_8⟩, inx_9⟩, inx_5⟩, inx_4⟩, inx_1⟩, inx_6⟩, inx_3⟩, inx_7⟩, inx_2⟩, inx_0⟩, fun _ h => absurd h List.not_mem_nil⟩
theorem wsL_law_x0 : ∀ w ∈ (vx_at0 RX8 58 "java/lang/IllegalArgumentException" ["java/lang/RuntimeException", "java/lang/Exception"]).filter goodWord, w ∈ lw_tbl := by decide +kernel
theorem wsL_law_x1 : ∀ w ∈ (vx_at0 RX8 65 "java/lang/IllegalStateException" ["java/lang/RuntimeException", "java/lang/Exception"]).filter goodWord, w ∈ lw_tbl := by decide +kernel
theorem wsL_law_x2 : ∀ w ∈ (vx_at0 RX8 80 "java/lang/IndexOutOfBoundsException" ["java/lang/RuntimeException", "java/lang/Exception"]).filter goodWord, w ∈ lw_tbl := by decide +kernel
theorem wsL_law_in : ∀ w ∈ wsL_law, w ∈ lw_tbl := fun w h => (List.mem_append.mp h).elim (fun h => (List.mem_append.mp h).elim (fun h => (List.mem_append.mp h).elim (fun h => wsL_law_in0 w h) (fun h => wsL_law_x0 w h)) (fun h => wsL_law_x1 w h)) (fun h => wsL_law_x2 w h)
