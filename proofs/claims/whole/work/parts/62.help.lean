/-! THE LAW'S HELPERS, walked -/
theorem dL_addMark_0 : decode cL_addMark 0 = .ok (.aload_n 2, 1) := by decide +kernel
theorem dL_addMark_1 : decode cL_addMark 1 = .ok (.iconst 0, 1) := by decide +kernel
theorem dL_addMark_2 : decode cL_addMark 2 = .ok (.aload_n 0, 1) := by decide +kernel
theorem dL_addMark_3 : decode cL_addMark 3 = .ok (.iload_n 1, 1) := by decide +kernel
theorem dL_addMark_4 : decode cL_addMark 4 = .ok (.invokevirtual 7, 3) := by decide +kernel
theorem dL_addMark_7 : decode cL_addMark 7 = .ok (.i2l, 1) := by decide +kernel
theorem dL_addMark_8 : decode cL_addMark 8 = .ok (.lastore, 1) := by decide +kernel
theorem dL_addMark_9 : decode cL_addMark 9 = .ok (.goto 9, 3) := by decide +kernel
theorem dL_addMark_12 : decode cL_addMark 12 = .ok (.astore_n 3, 1) := by decide +kernel
theorem dL_addMark_13 : decode cL_addMark 13 = .ok (.iconst 1, 1) := by decide +kernel
theorem dL_addMark_14 : decode cL_addMark 14 = .ok (.ireturn, 1) := by decide +kernel
theorem dL_addMark_15 : decode cL_addMark 15 = .ok (.astore_n 3, 1) := by decide +kernel
theorem dL_addMark_16 : decode cL_addMark 16 = .ok (.iconst 2, 1) := by decide +kernel
theorem dL_addMark_17 : decode cL_addMark 17 = .ok (.ireturn, 1) := by decide +kernel
theorem dL_addMark_18 : decode cL_addMark 18 = .ok (.iconst 0, 1) := by decide +kernel
theorem dL_addMark_19 : decode cL_addMark 19 = .ok (.ireturn, 1) := by decide +kernel
set_option maxRecDepth 20000 in
theorem ggL_addMark_X8_addMark : GoodIn wsL_addMark wsX8_addMark := goodIn_ca (goodIn_ca (goodIn_r _ [7, 8, 9, 10, 11, 12, 13, 14, 15, 16, 17, 6, 18, 19, 20, 21, 22, 23, 24, 25, 26, 27, 28, 29, 30, 31, 32, 33, 34, 35, 36, 37, 38, 39, 40, 41, 42, 43, 44, 45, 46, 47, 48, 49, 50, 51, 52, 53, 54, 55, 56, 57, 58, 59, 60, 61, 62, 63, 64, 65, 66, 67, 68, 69, 70, 71, 72, 73, 74, 75, 76, 77, 78, 79, 80, 81, 82, 83, 84, 85, 86, 87, 88, 89, 90, 91, 92, 93, 94, 95, 96, 97, 98, 99, 100, 101, 102, 103, 104, 105, 106, 107, 108, 109, 110, 111, 112, 113, 114, 115, 116, 117, 118, 119, 120, 121, 122, 123, 124, 125, 126, 127, 128, 129, 130, 131, 132, 133, 134, 135, 136, 137, 138, 139, 140, 141, 142, 143, 144, 145, 146, 147, 148, 149, 150, 151, 152, 153, 154, 155, 156, 157, 158, 159, 160, 161, 162, 163, 164, 165, 166, 167, 168, 169, 170, 171, 172, 173, 174, 175, 176, 177, 178, 179, 180, 181, 182, 183, 184, 185, 186, 187, 188, 189, 190, 191, 192, 193, 194, 195, 196, 197, 198, 199, 200, 201, 202, 203, 204, 205, 206, 207, 208, 209, 210, 211, 212, 213, 214, 215, 216, 217, 218, 219, 220, 221, 222, 223, 224, 225, 226, 227, 228, 229, 230, 231, 232, 233, 234, 235, 236, 237, 238, 239, 240, 241, 242, 243, 244, 245, 246, 247, 248, 249] (by decide +kernel) (by decide +kernel)) (goodIn_sub (fun _ h => List.mem_cons_of_mem _ (List.mem_append_left _ (List.mem_append_right _ h))) (by decide +kernel))) (goodIn_sub (fun _ h => List.mem_cons_of_mem _ (List.mem_append_right _ h)) (by decide +kernel))
set_option maxRecDepth 20000 in
theorem gL_addMark_X8_addMark : GoodIn wsL_addMark (wsV RL 7 RX8 yX8_addMark wsX8_addMark) := goodIn_app (goodIn_of _ (by decide +kernel)) ggL_addMark_X8_addMark
def D_L_addMark : Md := (yL_addMark, cL_addMark, 4, (some .int), wsL_addMark, RL, { frames := 7, cells := 1, slots := 6, locals := 136 })
theorem nm_L_addMark : nmD D_L_addMark 3 := ⟨rfl, by decide +kernel, by decide +kernel, by decide +kernel⟩
theorem cl_L_addMark_0 : Cond.classLink RL 13 "java/lang/IllegalArgumentException" ∈ wsL_addMark := by decide +kernel
theorem cl_L_addMark_1 : Cond.classLink RL 15 "java/lang/IllegalStateException" ∈ wsL_addMark := by decide +kernel
theorem ok_L_addMark {G : Gt} {M : Mx} {Qf : State → Prop} {x1 : Int32} {w : Wd} {Q : Int32 → Wd → Prop} (hC : cx G D_L_addMark M) (he : en G (M1 M 1 6) (qi Q) Qf) (hH : exH G M [(0, 9, 12, 13), (0, 9, 15, 15)]) (h : wp_X8_addMark x1 w (fun r w1 => Q 0 (sL w1 1 r.toInt64)) (fun E w1 => (E = "java/lang/IllegalArgumentException" ∧ Q 1 w1) ∨ (E = "java/lang/IllegalStateException" ∧ Q 2 w1))) : jq G D_L_addMark M Qf 0 [(0, .ref (aD G 0 26)), (1, .int x1), (2, .ref (aD G 0 51))] [] w := by
  have hC1 : cx G D_L_addMark (M1 M 1 6) := cx_M1 hC hH.2.2.2.2.1 hH.2.2.2.2.2.1
  refine jq_aload_n (k0 := 2) dL_addMark_0 hC rfl rfl ?_
  refine jq_iconst (v := 0) dL_addMark_1 hC (by decide) ?_
  refine jq_aload_n (k0 := 0) dL_addMark_2 hC rfl rfl ?_
  refine jq_iload_n (k0 := 1) dL_addMark_3 hC rfl rfl ?_
  refine jq_callX (As := [.int x1]) (rest := [.int 0, .ref (aD G 0 51)]) (n := 0) (o := 26) (D' := D_X8_addMark) dL_addMark_4 hC hH (cl_0 (by decide)) rfl rfl rfl (mt_X8_addMark h) gL_addMark_X8_addMark rfl ⟨rfl, rfl, Nat.le_of_ble_eq_true rfl, Nat.le_of_ble_eq_true rfl⟩ nm_X8_addMark rfl (Nat.le_of_ble_eq_true rfl) (kI fun r1 w1 h => ?_) (fun E w1 q9 hX => ?_)
  · refine jq_i2l dL_addMark_7 hC1 ?_
    refine jq_last dL_addMark_8 hC1 rfl ?_
    refine jq_goto (tgt := 18) dL_addMark_9 hC1 (by decide) ?_
    refine jq_iconst (v := 0) dL_addMark_18 hC1 (by decide) ?_
    exact jq_iret dL_addMark_19 hC1 he rfl ⟨_, rfl, h⟩
  · rcases hX with ⟨rfl, hq⟩ | ⟨rfl, hq⟩
    · refine ⟨[], (0, 9, 12, 13), [(0, 9, 15, 15)], rfl, fun z hz => absurd hz (by simp), by decide, by decide, cl_L_addMark_0, by decide, ?_⟩
      refine jq_astore_n (L' := [(3, .ref q9), (0, .ref (aD G 0 26)), (1, .int x1), (2, .ref (aD G 0 51))]) dL_addMark_12 hC1 rfl (by decide) rfl ?_
      refine jq_iconst (v := 1) dL_addMark_13 hC1 (by decide) ?_
      exact jq_iret dL_addMark_14 hC1 he rfl ⟨_, rfl, hq⟩
    · refine ⟨[(0, 9, 12, 13)], (0, 9, 15, 15), [], rfl, fun z hz => by
        rcases List.mem_singleton.mp hz with rfl
        exact ⟨by decide, "java/lang/IllegalArgumentException", cl_L_addMark_0, by decide⟩, by decide, by decide, cl_L_addMark_1, by decide, ?_⟩
      refine jq_astore_n (L' := [(3, .ref q9), (0, .ref (aD G 0 26)), (1, .int x1), (2, .ref (aD G 0 51))]) dL_addMark_15 hC1 rfl (by decide) rfl ?_
      refine jq_iconst (v := 2) dL_addMark_16 hC1 (by decide) ?_
      exact jq_iret dL_addMark_17 hC1 he rfl ⟨_, rfl, hq⟩
theorem mt_L_addMark {G : Gt} {x1 : Int32} {w : Wd} {Q : Int32 → Wd → Prop} (h : wp_X8_addMark x1 w (fun r w1 => Q 0 (sL w1 1 r.toInt64)) (fun E w1 => (E = "java/lang/IllegalArgumentException" ∧ Q 1 w1) ∨ (E = "java/lang/IllegalStateException" ∧ Q 2 w1))) : MtH G D_L_addMark [.ref (aD G 0 26), .int x1, .ref (aD G 0 51)] w (qi Q) := MtH_of (by decide +kernel) rfl rfl (Nat.le_of_ble_eq_true rfl) (fun M Qf hC he hH => ok_L_addMark hC he hH h)
theorem dL_know_0 : decode cL_know 0 = .ok (.aload_n 3, 1) := by decide +kernel
theorem dL_know_1 : decode cL_know 1 = .ok (.iconst 0, 1) := by decide +kernel
theorem dL_know_2 : decode cL_know 2 = .ok (.aload_n 0, 1) := by decide +kernel
theorem dL_know_3 : decode cL_know 3 = .ok (.iload_n 1, 1) := by decide +kernel
theorem dL_know_4 : decode cL_know 4 = .ok (.iload_n 2, 1) := by decide +kernel
theorem dL_know_5 : decode cL_know 5 = .ok (.invokevirtual 17, 3) := by decide +kernel
theorem dL_know_8 : decode cL_know 8 = .ok (.i2l, 1) := by decide +kernel
theorem dL_know_9 : decode cL_know 9 = .ok (.lastore, 1) := by decide +kernel
theorem dL_know_10 : decode cL_know 10 = .ok (.goto 11, 3) := by decide +kernel
theorem dL_know_13 : decode cL_know 13 = .ok (.astore 4, 2) := by decide +kernel
theorem dL_know_15 : decode cL_know 15 = .ok (.iconst 1, 1) := by decide +kernel
theorem dL_know_16 : decode cL_know 16 = .ok (.ireturn, 1) := by decide +kernel
theorem dL_know_17 : decode cL_know 17 = .ok (.astore 4, 2) := by decide +kernel
theorem dL_know_19 : decode cL_know 19 = .ok (.iconst 2, 1) := by decide +kernel
theorem dL_know_20 : decode cL_know 20 = .ok (.ireturn, 1) := by decide +kernel
theorem dL_know_21 : decode cL_know 21 = .ok (.iconst 0, 1) := by decide +kernel
theorem dL_know_22 : decode cL_know 22 = .ok (.ireturn, 1) := by decide +kernel
set_option maxRecDepth 20000 in
theorem ggL_know_X8_know : GoodIn wsL_know wsX8_know := goodIn_ca (goodIn_ca (goodIn_r _ [7, 8, 9, 10, 11, 12, 13, 14, 15, 16, 17, 18, 19, 20, 21, 22, 23, 6, 24, 25, 26, 27, 28, 29, 30, 31, 32, 33, 34, 35, 36, 37, 38, 39, 40, 41, 42, 43, 44, 45, 46, 47, 48, 49, 50, 51, 52, 53, 54, 55, 56, 57, 58, 59, 60, 61, 62, 63, 64, 65, 66, 67, 68, 69, 70, 71, 72, 73, 74, 75, 76, 77, 78, 79, 80, 81, 82, 83, 84, 85, 86, 87, 88, 89, 90, 91, 92, 93, 94, 95, 96, 97, 98, 99, 100, 101, 102, 103, 104, 105, 106, 107, 108, 109, 110, 111, 112, 113, 114, 115, 116, 117, 118, 119, 120, 121, 122, 123, 124, 125, 126, 127, 128, 129, 130, 131, 132, 133, 134, 135, 136, 137, 138, 139, 140, 141, 142, 143, 144, 145, 146, 147, 148, 149, 150, 151, 152, 153, 154, 155, 156, 157, 158, 159, 160, 161, 162, 163, 164, 165, 166, 167, 168, 169, 170, 171, 172, 173, 174, 175, 176, 177, 178, 179, 180, 181, 182, 183, 184, 185, 186, 187, 188, 189, 190, 191, 192, 193, 194, 195, 196, 197, 198, 199, 200, 201, 202, 203, 204, 205, 206, 207, 208, 209, 210, 211, 212, 213, 214, 215, 216, 217, 218, 219, 220, 221, 222, 223, 224, 225, 226, 227, 228, 229, 230, 231, 232, 233, 234, 235, 236, 237, 238, 239, 240, 241, 242, 243, 244, 245, 246, 247, 248, 249] (by decide +kernel) (by decide +kernel)) (goodIn_sub (fun _ h => List.mem_cons_of_mem _ (List.mem_append_left _ (List.mem_append_right _ h))) (by decide +kernel))) (goodIn_sub (fun _ h => List.mem_cons_of_mem _ (List.mem_append_right _ h)) (by decide +kernel))
set_option maxRecDepth 20000 in
theorem gL_know_X8_know : GoodIn wsL_know (wsV RL 17 RX8 yX8_know wsX8_know) := goodIn_app (goodIn_of _ (by decide +kernel)) ggL_know_X8_know
def D_L_know : Md := (yL_know, cL_know, 5, (some .int), wsL_know, RL, { frames := 7, cells := 1, slots := 6, locals := 138 })
theorem nm_L_know : nmD D_L_know 4 := ⟨rfl, by decide +kernel, by decide +kernel, by decide +kernel⟩
theorem cl_L_know_0 : Cond.classLink RL 21 "java/lang/IndexOutOfBoundsException" ∈ wsL_know := by decide +kernel
theorem cl_L_know_1 : Cond.classLink RL 13 "java/lang/IllegalArgumentException" ∈ wsL_know := by decide +kernel
theorem ok_L_know {G : Gt} {M : Mx} {Qf : State → Prop} {x1 x2 : Int32} {w : Wd} {Q : Int32 → Wd → Prop} (hC : cx G D_L_know M) (he : en G (M1 M 1 6) (qi Q) Qf) (hH : exH G M [(0, 10, 13, 21), (0, 10, 17, 13)]) (h : wp_X8_know x1 x2 w (fun r w1 => Q 0 (sL w1 1 r.toInt64)) (fun E w1 => (E = "java/lang/IndexOutOfBoundsException" ∧ Q 1 w1) ∨ (E = "java/lang/IllegalArgumentException" ∧ Q 2 w1))) : jq G D_L_know M Qf 0 [(0, .ref (aD G 0 26)), (1, .int x1), (2, .int x2), (3, .ref (aD G 0 51))] [] w := by
  have hC1 : cx G D_L_know (M1 M 1 6) := cx_M1 hC hH.2.2.2.2.1 hH.2.2.2.2.2.1
  refine jq_aload_n (k0 := 3) dL_know_0 hC rfl rfl ?_
  refine jq_iconst (v := 0) dL_know_1 hC (by decide) ?_
  refine jq_aload_n (k0 := 0) dL_know_2 hC rfl rfl ?_
  refine jq_iload_n (k0 := 1) dL_know_3 hC rfl rfl ?_
  refine jq_iload_n (k0 := 2) dL_know_4 hC rfl rfl ?_
  refine jq_callX (As := [.int x1, .int x2]) (rest := [.int 0, .ref (aD G 0 51)]) (n := 0) (o := 26) (D' := D_X8_know) dL_know_5 hC hH (cl_0 (by decide)) rfl rfl rfl (mt_X8_know h) gL_know_X8_know rfl ⟨rfl, rfl, Nat.le_of_ble_eq_true rfl, Nat.le_of_ble_eq_true rfl⟩ nm_X8_know rfl (Nat.le_of_ble_eq_true rfl) (kI fun r1 w1 h => ?_) (fun E w1 q9 hX => ?_)
  · refine jq_i2l dL_know_8 hC1 ?_
    refine jq_last dL_know_9 hC1 rfl ?_
    refine jq_goto (tgt := 21) dL_know_10 hC1 (by decide) ?_
    refine jq_iconst (v := 0) dL_know_21 hC1 (by decide) ?_
    exact jq_iret dL_know_22 hC1 he rfl ⟨_, rfl, h⟩
  · rcases hX with ⟨rfl, hq⟩ | ⟨rfl, hq⟩
    · refine ⟨[], (0, 10, 13, 21), [(0, 10, 17, 13)], rfl, fun z hz => absurd hz (by simp), by decide, by decide, cl_L_know_0, by decide, ?_⟩
      refine jq_astore (L' := [(4, .ref q9), (0, .ref (aD G 0 26)), (1, .int x1), (2, .int x2), (3, .ref (aD G 0 51))]) dL_know_13 hC1 (by decide) rfl ?_
      refine jq_iconst (v := 1) dL_know_15 hC1 (by decide) ?_
      exact jq_iret dL_know_16 hC1 he rfl ⟨_, rfl, hq⟩
    · refine ⟨[(0, 10, 13, 21)], (0, 10, 17, 13), [], rfl, fun z hz => by
        rcases List.mem_singleton.mp hz with rfl
        exact ⟨by decide, "java/lang/IndexOutOfBoundsException", cl_L_know_0, by decide⟩, by decide, by decide, cl_L_know_1, by decide, ?_⟩
      refine jq_astore (L' := [(4, .ref q9), (0, .ref (aD G 0 26)), (1, .int x1), (2, .int x2), (3, .ref (aD G 0 51))]) dL_know_17 hC1 (by decide) rfl ?_
      refine jq_iconst (v := 2) dL_know_19 hC1 (by decide) ?_
      exact jq_iret dL_know_20 hC1 he rfl ⟨_, rfl, hq⟩
theorem mt_L_know {G : Gt} {x1 x2 : Int32} {w : Wd} {Q : Int32 → Wd → Prop} (h : wp_X8_know x1 x2 w (fun r w1 => Q 0 (sL w1 1 r.toInt64)) (fun E w1 => (E = "java/lang/IndexOutOfBoundsException" ∧ Q 1 w1) ∨ (E = "java/lang/IllegalArgumentException" ∧ Q 2 w1))) : MtH G D_L_know [.ref (aD G 0 26), .int x1, .int x2, .ref (aD G 0 51)] w (qi Q) := MtH_of (by decide +kernel) rfl rfl (Nat.le_of_ble_eq_true rfl) (fun M Qf hC he hH => ok_L_know hC he hH h)
theorem dL_accept_0 : decode cL_accept 0 = .ok (.aload_n 2, 1) := by decide +kernel
theorem dL_accept_1 : decode cL_accept 1 = .ok (.iconst 0, 1) := by decide +kernel
theorem dL_accept_2 : decode cL_accept 2 = .ok (.aload_n 0, 1) := by decide +kernel
theorem dL_accept_3 : decode cL_accept 3 = .ok (.iload_n 1, 1) := by decide +kernel
theorem dL_accept_4 : decode cL_accept 4 = .ok (.invokevirtual 23, 3) := by decide +kernel
theorem dL_accept_7 : decode cL_accept 7 = .ok (.i2l, 1) := by decide +kernel
theorem dL_accept_8 : decode cL_accept 8 = .ok (.lastore, 1) := by decide +kernel
theorem dL_accept_9 : decode cL_accept 9 = .ok (.goto 9, 3) := by decide +kernel
theorem dL_accept_12 : decode cL_accept 12 = .ok (.astore_n 3, 1) := by decide +kernel
theorem dL_accept_13 : decode cL_accept 13 = .ok (.iconst 1, 1) := by decide +kernel
theorem dL_accept_14 : decode cL_accept 14 = .ok (.ireturn, 1) := by decide +kernel
theorem dL_accept_15 : decode cL_accept 15 = .ok (.astore_n 3, 1) := by decide +kernel
theorem dL_accept_16 : decode cL_accept 16 = .ok (.iconst 2, 1) := by decide +kernel
theorem dL_accept_17 : decode cL_accept 17 = .ok (.ireturn, 1) := by decide +kernel
theorem dL_accept_18 : decode cL_accept 18 = .ok (.iconst 0, 1) := by decide +kernel
theorem dL_accept_19 : decode cL_accept 19 = .ok (.ireturn, 1) := by decide +kernel
set_option maxRecDepth 20000 in
theorem ggL_accept_X8_accept : GoodIn wsL_accept wsX8_accept := goodIn_ca (goodIn_ca (goodIn_r _ [7, 8, 9, 10, 11, 12, 13, 14, 15, 16, 17, 18, 19, 20, 21, 22, 23, 24, 25, 26, 27, 28, 29, 30, 31, 32, 33, 34, 35, 36, 37, 38, 39, 40, 41, 42, 43, 44, 45, 46, 47, 48, 49, 50, 51, 52, 53, 54, 55, 56, 57, 58, 59, 60, 61, 62, 63, 64, 65, 66, 67, 68, 69, 70, 71, 72, 73, 74, 75, 76, 77, 78, 79, 80, 81, 82, 83, 84, 85, 86, 87, 88, 89, 90, 91, 92, 93, 94, 95, 96, 97, 98, 99, 100, 101, 102, 103, 104, 105, 106, 107, 108, 109, 110, 111, 112, 113, 6, 114, 115, 116, 117, 118, 119, 120, 121, 122, 123, 124, 125, 126, 127, 128, 129, 130, 131, 132, 133, 134, 135, 136, 137, 138, 139, 140, 141, 142, 143, 144, 145, 146, 147, 148, 149, 150, 151, 152, 153, 154, 155, 156, 157, 158, 159, 160, 161, 162, 163, 164, 165, 166, 167, 168, 169, 170, 171, 172, 173, 174, 175, 176, 177, 178, 179, 180, 181, 182, 183, 184, 185, 186, 187, 188, 189, 190, 191, 192, 193, 194, 195, 196, 197, 198, 199, 200, 201, 202, 203, 204, 205, 206, 207, 208, 209, 210, 211, 212, 213, 214, 215, 216, 217, 218, 219, 220, 221, 222, 223, 224, 225, 226, 227, 228, 229, 230, 231, 232, 233, 234, 235, 236, 237, 238, 239, 240, 241, 242, 243, 244, 245, 246, 247, 248, 249, 250, 251, 252, 253, 254, 255, 256, 257, 258, 259, 260] (by decide +kernel) (by decide +kernel)) (goodIn_sub (fun _ h => List.mem_cons_of_mem _ (List.mem_append_left _ (List.mem_append_right _ h))) (by decide +kernel))) (goodIn_sub (fun _ h => List.mem_cons_of_mem _ (List.mem_append_right _ h)) (by decide +kernel))
set_option maxRecDepth 20000 in
theorem gL_accept_X8_accept : GoodIn wsL_accept (wsV RL 23 RX8 yX8_accept wsX8_accept) := goodIn_app (goodIn_of _ (by decide +kernel)) ggL_accept_X8_accept
def D_L_accept : Md := (yL_accept, cL_accept, 4, (some .int), wsL_accept, RL, { frames := 7, cells := 1, slots := 6, locals := 137 })
theorem nm_L_accept : nmD D_L_accept 3 := ⟨rfl, by decide +kernel, by decide +kernel, by decide +kernel⟩
theorem cl_L_accept_0 : Cond.classLink RL 21 "java/lang/IndexOutOfBoundsException" ∈ wsL_accept := by decide +kernel
theorem cl_L_accept_1 : Cond.classLink RL 15 "java/lang/IllegalStateException" ∈ wsL_accept := by decide +kernel
theorem ok_L_accept {G : Gt} {M : Mx} {Qf : State → Prop} {x1 : Int32} {w : Wd} {Q : Int32 → Wd → Prop} (hC : cx G D_L_accept M) (he : en G (M1 M 1 6) (qi Q) Qf) (hH : exH G M [(0, 9, 12, 21), (0, 9, 15, 15)]) (h : wp_X8_accept x1 w (fun r w1 => Q 0 (sL w1 1 r.toInt64)) (fun E w1 => (E = "java/lang/IndexOutOfBoundsException" ∧ Q 1 w1) ∨ (E = "java/lang/IllegalStateException" ∧ Q 2 w1))) : jq G D_L_accept M Qf 0 [(0, .ref (aD G 0 26)), (1, .int x1), (2, .ref (aD G 0 51))] [] w := by
  have hC1 : cx G D_L_accept (M1 M 1 6) := cx_M1 hC hH.2.2.2.2.1 hH.2.2.2.2.2.1
  refine jq_aload_n (k0 := 2) dL_accept_0 hC rfl rfl ?_
  refine jq_iconst (v := 0) dL_accept_1 hC (by decide) ?_
  refine jq_aload_n (k0 := 0) dL_accept_2 hC rfl rfl ?_
  refine jq_iload_n (k0 := 1) dL_accept_3 hC rfl rfl ?_
  refine jq_callX (As := [.int x1]) (rest := [.int 0, .ref (aD G 0 51)]) (n := 0) (o := 26) (D' := D_X8_accept) dL_accept_4 hC hH (cl_0 (by decide)) rfl rfl rfl (mt_X8_accept h) gL_accept_X8_accept rfl ⟨rfl, rfl, Nat.le_of_ble_eq_true rfl, Nat.le_of_ble_eq_true rfl⟩ nm_X8_accept rfl (Nat.le_of_ble_eq_true rfl) (kI fun r1 w1 h => ?_) (fun E w1 q9 hX => ?_)
  · refine jq_i2l dL_accept_7 hC1 ?_
    refine jq_last dL_accept_8 hC1 rfl ?_
    refine jq_goto (tgt := 18) dL_accept_9 hC1 (by decide) ?_
    refine jq_iconst (v := 0) dL_accept_18 hC1 (by decide) ?_
    exact jq_iret dL_accept_19 hC1 he rfl ⟨_, rfl, h⟩
  · rcases hX with ⟨rfl, hq⟩ | ⟨rfl, hq⟩
    · refine ⟨[], (0, 9, 12, 21), [(0, 9, 15, 15)], rfl, fun z hz => absurd hz (by simp), by decide, by decide, cl_L_accept_0, by decide, ?_⟩
      refine jq_astore_n (L' := [(3, .ref q9), (0, .ref (aD G 0 26)), (1, .int x1), (2, .ref (aD G 0 51))]) dL_accept_12 hC1 rfl (by decide) rfl ?_
      refine jq_iconst (v := 1) dL_accept_13 hC1 (by decide) ?_
      exact jq_iret dL_accept_14 hC1 he rfl ⟨_, rfl, hq⟩
    · refine ⟨[(0, 9, 12, 21)], (0, 9, 15, 15), [], rfl, fun z hz => by
        rcases List.mem_singleton.mp hz with rfl
        exact ⟨by decide, "java/lang/IndexOutOfBoundsException", cl_L_accept_0, by decide⟩, by decide, by decide, cl_L_accept_1, by decide, ?_⟩
      refine jq_astore_n (L' := [(3, .ref q9), (0, .ref (aD G 0 26)), (1, .int x1), (2, .ref (aD G 0 51))]) dL_accept_15 hC1 rfl (by decide) rfl ?_
      refine jq_iconst (v := 2) dL_accept_16 hC1 (by decide) ?_
      exact jq_iret dL_accept_17 hC1 he rfl ⟨_, rfl, hq⟩
theorem mt_L_accept {G : Gt} {x1 : Int32} {w : Wd} {Q : Int32 → Wd → Prop} (h : wp_X8_accept x1 w (fun r w1 => Q 0 (sL w1 1 r.toInt64)) (fun E w1 => (E = "java/lang/IndexOutOfBoundsException" ∧ Q 1 w1) ∨ (E = "java/lang/IllegalStateException" ∧ Q 2 w1))) : MtH G D_L_accept [.ref (aD G 0 26), .int x1, .ref (aD G 0 51)] w (qi Q) := MtH_of (by decide +kernel) rfl rfl (Nat.le_of_ble_eq_true rfl) (fun M Qf hC he hH => ok_L_accept hC he hH h)
theorem dL_addLeg_0 : decode cL_addLeg 0 = .ok (.aload 5, 2) := by decide +kernel
theorem dL_addLeg_2 : decode cL_addLeg 2 = .ok (.iconst 0, 1) := by decide +kernel
theorem dL_addLeg_3 : decode cL_addLeg 3 = .ok (.aload_n 0, 1) := by decide +kernel
theorem dL_addLeg_4 : decode cL_addLeg 4 = .ok (.iload_n 1, 1) := by decide +kernel
theorem dL_addLeg_5 : decode cL_addLeg 5 = .ok (.iload_n 2, 1) := by decide +kernel
theorem dL_addLeg_6 : decode cL_addLeg 6 = .ok (.iload_n 3, 1) := by decide +kernel
theorem dL_addLeg_7 : decode cL_addLeg 7 = .ok (.iload 4, 2) := by decide +kernel
theorem dL_addLeg_9 : decode cL_addLeg 9 = .ok (.invokevirtual 26, 3) := by decide +kernel
theorem dL_addLeg_12 : decode cL_addLeg 12 = .ok (.i2l, 1) := by decide +kernel
theorem dL_addLeg_13 : decode cL_addLeg 13 = .ok (.lastore, 1) := by decide +kernel
theorem dL_addLeg_14 : decode cL_addLeg 14 = .ok (.goto 15, 3) := by decide +kernel
theorem dL_addLeg_17 : decode cL_addLeg 17 = .ok (.astore 6, 2) := by decide +kernel
theorem dL_addLeg_19 : decode cL_addLeg 19 = .ok (.iconst 1, 1) := by decide +kernel
theorem dL_addLeg_20 : decode cL_addLeg 20 = .ok (.ireturn, 1) := by decide +kernel
theorem dL_addLeg_21 : decode cL_addLeg 21 = .ok (.astore 6, 2) := by decide +kernel
theorem dL_addLeg_23 : decode cL_addLeg 23 = .ok (.iconst 2, 1) := by decide +kernel
theorem dL_addLeg_24 : decode cL_addLeg 24 = .ok (.ireturn, 1) := by decide +kernel
theorem dL_addLeg_25 : decode cL_addLeg 25 = .ok (.astore 6, 2) := by decide +kernel
theorem dL_addLeg_27 : decode cL_addLeg 27 = .ok (.iconst 3, 1) := by decide +kernel
theorem dL_addLeg_28 : decode cL_addLeg 28 = .ok (.ireturn, 1) := by decide +kernel
theorem dL_addLeg_29 : decode cL_addLeg 29 = .ok (.iconst 0, 1) := by decide +kernel
theorem dL_addLeg_30 : decode cL_addLeg 30 = .ok (.ireturn, 1) := by decide +kernel
set_option maxRecDepth 20000 in
theorem ggL_addLeg_X8_addLeg : GoodIn wsL_addLeg wsX8_addLeg := goodIn_ca (goodIn_ca (goodIn_ca (goodIn_r _ [8, 9, 10, 11, 12, 13, 14, 15, 16, 17, 18, 19, 20, 21, 22, 23, 24, 25, 26, 7, 27, 28, 29, 30, 31, 32, 33, 34, 35, 36, 37, 38, 39, 40, 41, 42, 43, 44, 45, 46, 47, 48, 49, 50, 51, 52, 53, 54, 55, 56, 57, 58, 59, 60, 61, 62, 63, 64, 65, 66, 67, 68, 69, 70, 71, 72, 73, 74, 75, 76, 77, 78, 79, 80, 81, 82, 83, 84, 85, 86, 87, 88, 89, 90, 91, 92, 93, 94, 95, 96, 97, 98, 99, 100, 101, 102, 103, 104, 105, 106, 107, 108, 109, 110, 111, 112, 113, 114, 115, 116, 117, 118, 119, 120, 121, 122, 123, 124, 125, 126, 127, 128, 129, 130, 131, 132, 133, 134, 135, 136, 137, 138, 139, 140, 141, 142, 143, 144, 145, 146, 147, 148, 149, 150, 151, 152, 153, 154, 155, 156, 157, 158, 159, 160, 161, 162, 163, 164, 165, 166, 167, 168, 169, 170, 171, 172, 173, 174, 175, 176, 177, 178, 179, 180, 181, 182, 183, 184, 185, 186, 187, 188, 189, 190, 191, 192, 193, 194, 195, 196, 197, 198, 199, 200, 201, 202, 203, 204, 205, 206, 207, 208, 209, 210, 211, 212, 213, 214, 215, 216, 217, 218, 219, 220, 221, 222, 223, 224, 225, 226, 227, 228, 229, 230, 231, 232, 233, 234, 235, 236, 237, 238, 239, 240, 241, 242, 243, 244, 245, 246, 247, 248, 249, 250, 251, 252, 253, 254, 255, 256, 257, 258] (by decide +kernel) (by decide +kernel)) (goodIn_sub (fun _ h => List.mem_cons_of_mem _ (List.mem_append_left _ (List.mem_append_left _ (List.mem_append_right _ h)))) (by decide +kernel))) (goodIn_sub (fun _ h => List.mem_cons_of_mem _ (List.mem_append_left _ (List.mem_append_right _ h))) (by decide +kernel))) (goodIn_sub (fun _ h => List.mem_cons_of_mem _ (List.mem_append_right _ h)) (by decide +kernel))
set_option maxRecDepth 20000 in
theorem gL_addLeg_X8_addLeg : GoodIn wsL_addLeg (wsV RL 26 RX8 yX8_addLeg wsX8_addLeg) := goodIn_app (goodIn_of _ (by decide +kernel)) ggL_addLeg_X8_addLeg
def D_L_addLeg : Md := (yL_addLeg, cL_addLeg, 7, (some .int), wsL_addLeg, RL, { frames := 7, cells := 1, slots := 6, locals := 139 })
theorem nm_L_addLeg : nmD D_L_addLeg 6 := ⟨rfl, by decide +kernel, by decide +kernel, by decide +kernel⟩
theorem cl_L_addLeg_0 : Cond.classLink RL 21 "java/lang/IndexOutOfBoundsException" ∈ wsL_addLeg := by decide +kernel
theorem cl_L_addLeg_1 : Cond.classLink RL 13 "java/lang/IllegalArgumentException" ∈ wsL_addLeg := by decide +kernel
theorem cl_L_addLeg_2 : Cond.classLink RL 15 "java/lang/IllegalStateException" ∈ wsL_addLeg := by decide +kernel
theorem ok_L_addLeg {G : Gt} {M : Mx} {Qf : State → Prop} {x1 x2 x3 x4 : Int32} {w : Wd} {Q : Int32 → Wd → Prop} (hC : cx G D_L_addLeg M) (he : en G (M1 M 1 6) (qi Q) Qf) (hH : exH G M [(0, 14, 17, 21), (0, 14, 21, 13), (0, 14, 25, 15)]) (h : wp_X8_addLeg x1 x2 x3 x4 w (fun r w1 => Q 0 (sL w1 1 r.toInt64)) (fun E w1 => (E = "java/lang/IndexOutOfBoundsException" ∧ Q 1 w1) ∨ (E = "java/lang/IllegalArgumentException" ∧ Q 2 w1) ∨ (E = "java/lang/IllegalStateException" ∧ Q 3 w1))) : jq G D_L_addLeg M Qf 0 [(0, .ref (aD G 0 26)), (1, .int x1), (2, .int x2), (3, .int x3), (4, .int x4), (5, .ref (aD G 0 51))] [] w := by
  have hC1 : cx G D_L_addLeg (M1 M 1 6) := cx_M1 hC hH.2.2.2.2.1 hH.2.2.2.2.2.1
  refine jq_aload (k0 := 5) dL_addLeg_0 hC rfl ?_
  refine jq_iconst (v := 0) dL_addLeg_2 hC (by decide) ?_
  refine jq_aload_n (k0 := 0) dL_addLeg_3 hC rfl rfl ?_
  refine jq_iload_n (k0 := 1) dL_addLeg_4 hC rfl rfl ?_
  refine jq_iload_n (k0 := 2) dL_addLeg_5 hC rfl rfl ?_
  refine jq_iload_n (k0 := 3) dL_addLeg_6 hC rfl rfl ?_
  refine jq_iload (k0 := 4) dL_addLeg_7 hC rfl ?_
  refine jq_callX (As := [.int x1, .int x2, .int x3, .int x4]) (rest := [.int 0, .ref (aD G 0 51)]) (n := 0) (o := 26) (D' := D_X8_addLeg) dL_addLeg_9 hC hH (cl_0 (by decide)) rfl rfl rfl (mt_X8_addLeg h) gL_addLeg_X8_addLeg rfl ⟨rfl, rfl, Nat.le_of_ble_eq_true rfl, Nat.le_of_ble_eq_true rfl⟩ nm_X8_addLeg rfl (Nat.le_of_ble_eq_true rfl) (kI fun r1 w1 h => ?_) (fun E w1 q9 hX => ?_)
  · refine jq_i2l dL_addLeg_12 hC1 ?_
    refine jq_last dL_addLeg_13 hC1 rfl ?_
    refine jq_goto (tgt := 29) dL_addLeg_14 hC1 (by decide) ?_
    refine jq_iconst (v := 0) dL_addLeg_29 hC1 (by decide) ?_
    exact jq_iret dL_addLeg_30 hC1 he rfl ⟨_, rfl, h⟩
  · rcases hX with ⟨rfl, hq⟩ | ⟨rfl, hq⟩ | ⟨rfl, hq⟩
    · refine ⟨[], (0, 14, 17, 21), [(0, 14, 21, 13), (0, 14, 25, 15)], rfl, fun z hz => absurd hz (by simp), by decide, by decide, cl_L_addLeg_0, by decide, ?_⟩
      refine jq_astore (L' := [(6, .ref q9), (0, .ref (aD G 0 26)), (1, .int x1), (2, .int x2), (3, .int x3), (4, .int x4), (5, .ref (aD G 0 51))]) dL_addLeg_17 hC1 (by decide) rfl ?_
      refine jq_iconst (v := 1) dL_addLeg_19 hC1 (by decide) ?_
      exact jq_iret dL_addLeg_20 hC1 he rfl ⟨_, rfl, hq⟩
    · refine ⟨[(0, 14, 17, 21)], (0, 14, 21, 13), [(0, 14, 25, 15)], rfl, fun z hz => by
        rcases List.mem_singleton.mp hz with rfl
        exact ⟨by decide, "java/lang/IndexOutOfBoundsException", cl_L_addLeg_0, by decide⟩, by decide, by decide, cl_L_addLeg_1, by decide, ?_⟩
      refine jq_astore (L' := [(6, .ref q9), (0, .ref (aD G 0 26)), (1, .int x1), (2, .int x2), (3, .int x3), (4, .int x4), (5, .ref (aD G 0 51))]) dL_addLeg_21 hC1 (by decide) rfl ?_
      refine jq_iconst (v := 2) dL_addLeg_23 hC1 (by decide) ?_
      exact jq_iret dL_addLeg_24 hC1 he rfl ⟨_, rfl, hq⟩
    · refine ⟨[(0, 14, 17, 21), (0, 14, 21, 13)], (0, 14, 25, 15), [], rfl, fun z hz => by
        rcases List.mem_cons.mp hz with rfl | hz
        · exact ⟨by decide, "java/lang/IndexOutOfBoundsException", cl_L_addLeg_0, by decide⟩
        · rcases List.mem_singleton.mp hz with rfl
          exact ⟨by decide, "java/lang/IllegalArgumentException", cl_L_addLeg_1, by decide⟩, by decide, by decide, cl_L_addLeg_2, by decide, ?_⟩
      refine jq_astore (L' := [(6, .ref q9), (0, .ref (aD G 0 26)), (1, .int x1), (2, .int x2), (3, .int x3), (4, .int x4), (5, .ref (aD G 0 51))]) dL_addLeg_25 hC1 (by decide) rfl ?_
      refine jq_iconst (v := 3) dL_addLeg_27 hC1 (by decide) ?_
      exact jq_iret dL_addLeg_28 hC1 he rfl ⟨_, rfl, hq⟩
theorem mt_L_addLeg {G : Gt} {x1 x2 x3 x4 : Int32} {w : Wd} {Q : Int32 → Wd → Prop} (h : wp_X8_addLeg x1 x2 x3 x4 w (fun r w1 => Q 0 (sL w1 1 r.toInt64)) (fun E w1 => (E = "java/lang/IndexOutOfBoundsException" ∧ Q 1 w1) ∨ (E = "java/lang/IllegalArgumentException" ∧ Q 2 w1) ∨ (E = "java/lang/IllegalStateException" ∧ Q 3 w1))) : MtH G D_L_addLeg [.ref (aD G 0 26), .int x1, .int x2, .int x3, .int x4, .ref (aD G 0 51)] w (qi Q) := MtH_of (by decide +kernel) rfl rfl (Nat.le_of_ble_eq_true rfl) (fun M Qf hC he hH => ok_L_addLeg hC he hH h)
theorem dL_measure_0 : decode cL_measure 0 = .ok (.aload_n 3, 1) := by decide +kernel
theorem dL_measure_1 : decode cL_measure 1 = .ok (.iconst 0, 1) := by decide +kernel
theorem dL_measure_2 : decode cL_measure 2 = .ok (.aload_n 0, 1) := by decide +kernel
theorem dL_measure_3 : decode cL_measure 3 = .ok (.iload_n 1, 1) := by decide +kernel
theorem dL_measure_4 : decode cL_measure 4 = .ok (.iload_n 2, 1) := by decide +kernel
theorem dL_measure_5 : decode cL_measure 5 = .ok (.invokevirtual 30, 3) := by decide +kernel
theorem dL_measure_8 : decode cL_measure 8 = .ok (.i2l, 1) := by decide +kernel
theorem dL_measure_9 : decode cL_measure 9 = .ok (.lastore, 1) := by decide +kernel
theorem dL_measure_10 : decode cL_measure 10 = .ok (.goto 11, 3) := by decide +kernel
theorem dL_measure_13 : decode cL_measure 13 = .ok (.astore 4, 2) := by decide +kernel
theorem dL_measure_15 : decode cL_measure 15 = .ok (.iconst 1, 1) := by decide +kernel
theorem dL_measure_16 : decode cL_measure 16 = .ok (.ireturn, 1) := by decide +kernel
theorem dL_measure_17 : decode cL_measure 17 = .ok (.astore 4, 2) := by decide +kernel
theorem dL_measure_19 : decode cL_measure 19 = .ok (.iconst 2, 1) := by decide +kernel
theorem dL_measure_20 : decode cL_measure 20 = .ok (.ireturn, 1) := by decide +kernel
theorem dL_measure_21 : decode cL_measure 21 = .ok (.iconst 0, 1) := by decide +kernel
theorem dL_measure_22 : decode cL_measure 22 = .ok (.ireturn, 1) := by decide +kernel
set_option maxRecDepth 20000 in
theorem ggL_measure_X8_measure : GoodIn wsL_measure wsX8_measure := goodIn_ca (goodIn_ca (goodIn_r _ [7, 8, 9, 10, 11, 12, 13, 14, 15, 16, 17, 18, 19, 20, 21, 22, 23, 24, 25, 6, 26, 27, 28, 29, 30, 31, 32, 33, 34, 35, 36, 37, 38, 39, 40, 41, 42, 43, 44, 45, 46, 47, 48, 49, 50, 51, 52, 53, 54, 55, 56, 57, 58, 59, 60, 61, 62, 63, 64, 65, 66, 67, 68, 69, 70, 71, 72, 73, 74, 75, 76, 77, 78, 79, 80, 81, 82, 83, 84, 85, 86, 87, 88, 89, 90, 91, 92, 93, 94, 95, 96, 97, 98, 99, 100, 101, 102, 103, 104, 105, 106, 107, 108, 109, 110, 111, 112, 113, 114, 115, 116, 117, 118, 119, 120, 121, 122, 123, 124, 125, 126, 127, 128, 129, 130, 131, 132, 133, 134, 135, 136, 137, 138, 139, 140, 141, 142, 143, 144, 145, 146, 147, 148, 149, 150, 151, 152, 153, 154, 155, 156, 157, 158, 159, 160, 161, 162, 163, 164, 165, 166, 167, 168, 169, 170, 171, 172, 173, 174, 175, 176, 177, 178, 179, 180, 181, 182, 183, 184, 185, 186, 187, 188, 189, 190, 191, 192, 193, 194, 195, 196, 197, 198, 199, 200, 201, 202, 203, 204, 205, 206, 207, 208, 209, 210, 211, 212, 213, 214, 215, 216, 217, 218, 219, 220, 221, 222, 223, 224, 225, 226, 227, 228, 229, 230, 231, 232, 233, 234, 235, 236, 237, 238, 239, 240, 241, 242, 243, 244, 245, 246, 247, 248, 249, 250, 251, 252, 253, 254] (by decide +kernel) (by decide +kernel)) (goodIn_sub (fun _ h => List.mem_cons_of_mem _ (List.mem_append_left _ (List.mem_append_right _ h))) (by decide +kernel))) (goodIn_sub (fun _ h => List.mem_cons_of_mem _ (List.mem_append_right _ h)) (by decide +kernel))
set_option maxRecDepth 20000 in
theorem gL_measure_X8_measure : GoodIn wsL_measure (wsV RL 30 RX8 yX8_measure wsX8_measure) := goodIn_app (goodIn_of _ (by decide +kernel)) ggL_measure_X8_measure
def D_L_measure : Md := (yL_measure, cL_measure, 5, (some .int), wsL_measure, RL, { frames := 7, cells := 1, slots := 6, locals := 138 })
theorem nm_L_measure : nmD D_L_measure 4 := ⟨rfl, by decide +kernel, by decide +kernel, by decide +kernel⟩
theorem cl_L_measure_0 : Cond.classLink RL 21 "java/lang/IndexOutOfBoundsException" ∈ wsL_measure := by decide +kernel
theorem cl_L_measure_1 : Cond.classLink RL 13 "java/lang/IllegalArgumentException" ∈ wsL_measure := by decide +kernel
theorem ok_L_measure {G : Gt} {M : Mx} {Qf : State → Prop} {x1 x2 : Int32} {w : Wd} {Q : Int32 → Wd → Prop} (hC : cx G D_L_measure M) (he : en G (M1 M 1 6) (qi Q) Qf) (hH : exH G M [(0, 10, 13, 21), (0, 10, 17, 13)]) (h : wp_X8_measure x1 x2 w (fun r w1 => Q 0 (sL w1 1 r.toInt64)) (fun E w1 => (E = "java/lang/IndexOutOfBoundsException" ∧ Q 1 w1) ∨ (E = "java/lang/IllegalArgumentException" ∧ Q 2 w1))) : jq G D_L_measure M Qf 0 [(0, .ref (aD G 0 26)), (1, .int x1), (2, .int x2), (3, .ref (aD G 0 51))] [] w := by
  have hC1 : cx G D_L_measure (M1 M 1 6) := cx_M1 hC hH.2.2.2.2.1 hH.2.2.2.2.2.1
  refine jq_aload_n (k0 := 3) dL_measure_0 hC rfl rfl ?_
  refine jq_iconst (v := 0) dL_measure_1 hC (by decide) ?_
  refine jq_aload_n (k0 := 0) dL_measure_2 hC rfl rfl ?_
  refine jq_iload_n (k0 := 1) dL_measure_3 hC rfl rfl ?_
  refine jq_iload_n (k0 := 2) dL_measure_4 hC rfl rfl ?_
  refine jq_callX (As := [.int x1, .int x2]) (rest := [.int 0, .ref (aD G 0 51)]) (n := 0) (o := 26) (D' := D_X8_measure) dL_measure_5 hC hH (cl_0 (by decide)) rfl rfl rfl (mt_X8_measure h) gL_measure_X8_measure rfl ⟨rfl, rfl, Nat.le_of_ble_eq_true rfl, Nat.le_of_ble_eq_true rfl⟩ nm_X8_measure rfl (Nat.le_of_ble_eq_true rfl) (kI fun r1 w1 h => ?_) (fun E w1 q9 hX => ?_)
  · refine jq_i2l dL_measure_8 hC1 ?_
    refine jq_last dL_measure_9 hC1 rfl ?_
    refine jq_goto (tgt := 21) dL_measure_10 hC1 (by decide) ?_
    refine jq_iconst (v := 0) dL_measure_21 hC1 (by decide) ?_
    exact jq_iret dL_measure_22 hC1 he rfl ⟨_, rfl, h⟩
  · rcases hX with ⟨rfl, hq⟩ | ⟨rfl, hq⟩
    · refine ⟨[], (0, 10, 13, 21), [(0, 10, 17, 13)], rfl, fun z hz => absurd hz (by simp), by decide, by decide, cl_L_measure_0, by decide, ?_⟩
      refine jq_astore (L' := [(4, .ref q9), (0, .ref (aD G 0 26)), (1, .int x1), (2, .int x2), (3, .ref (aD G 0 51))]) dL_measure_13 hC1 (by decide) rfl ?_
      refine jq_iconst (v := 1) dL_measure_15 hC1 (by decide) ?_
      exact jq_iret dL_measure_16 hC1 he rfl ⟨_, rfl, hq⟩
    · refine ⟨[(0, 10, 13, 21)], (0, 10, 17, 13), [], rfl, fun z hz => by
        rcases List.mem_singleton.mp hz with rfl
        exact ⟨by decide, "java/lang/IndexOutOfBoundsException", cl_L_measure_0, by decide⟩, by decide, by decide, cl_L_measure_1, by decide, ?_⟩
      refine jq_astore (L' := [(4, .ref q9), (0, .ref (aD G 0 26)), (1, .int x1), (2, .int x2), (3, .ref (aD G 0 51))]) dL_measure_17 hC1 (by decide) rfl ?_
      refine jq_iconst (v := 2) dL_measure_19 hC1 (by decide) ?_
      exact jq_iret dL_measure_20 hC1 he rfl ⟨_, rfl, hq⟩
theorem mt_L_measure {G : Gt} {x1 x2 : Int32} {w : Wd} {Q : Int32 → Wd → Prop} (h : wp_X8_measure x1 x2 w (fun r w1 => Q 0 (sL w1 1 r.toInt64)) (fun E w1 => (E = "java/lang/IndexOutOfBoundsException" ∧ Q 1 w1) ∨ (E = "java/lang/IllegalArgumentException" ∧ Q 2 w1))) : MtH G D_L_measure [.ref (aD G 0 26), .int x1, .int x2, .ref (aD G 0 51)] w (qi Q) := MtH_of (by decide +kernel) rfl rfl (Nat.le_of_ble_eq_true rfl) (fun M Qf hC he hH => ok_L_measure hC he hH h)
theorem dL_turn_0 : decode cL_turn 0 = .ok (.aload_n 2, 1) := by decide +kernel
theorem dL_turn_1 : decode cL_turn 1 = .ok (.iconst 0, 1) := by decide +kernel
theorem dL_turn_2 : decode cL_turn 2 = .ok (.aload_n 0, 1) := by decide +kernel
theorem dL_turn_3 : decode cL_turn 3 = .ok (.iload_n 1, 1) := by decide +kernel
theorem dL_turn_4 : decode cL_turn 4 = .ok (.invokevirtual 33, 3) := by decide +kernel
theorem dL_turn_7 : decode cL_turn 7 = .ok (.i2l, 1) := by decide +kernel
theorem dL_turn_8 : decode cL_turn 8 = .ok (.lastore, 1) := by decide +kernel
theorem dL_turn_9 : decode cL_turn 9 = .ok (.goto 6, 3) := by decide +kernel
theorem dL_turn_12 : decode cL_turn 12 = .ok (.astore_n 3, 1) := by decide +kernel
theorem dL_turn_13 : decode cL_turn 13 = .ok (.iconst 1, 1) := by decide +kernel
theorem dL_turn_14 : decode cL_turn 14 = .ok (.ireturn, 1) := by decide +kernel
theorem dL_turn_15 : decode cL_turn 15 = .ok (.iconst 0, 1) := by decide +kernel
theorem dL_turn_16 : decode cL_turn 16 = .ok (.ireturn, 1) := by decide +kernel
set_option maxRecDepth 20000 in
theorem ggL_turn_X8_turn : GoodIn wsL_turn wsX8_turn := goodIn_ca (goodIn_r _ [6, 7, 8, 9, 10, 11, 12, 13, 14, 15, 16, 17, 18, 19, 20, 21, 22, 23, 24, 25, 26, 27, 28, 29, 30, 31, 32, 33, 34, 35, 36, 37, 38, 39, 40, 41, 42, 43, 44, 45, 46, 47, 48, 49, 50, 51, 52, 53, 54, 55, 56, 57, 58, 59, 60, 61, 62, 63, 64, 65, 66, 67, 68, 69, 70, 71, 72, 73, 74, 75, 76, 77, 78, 79, 80, 81, 82, 83, 84, 85, 86, 87, 88, 89, 90, 91, 92, 5, 93, 94, 95, 96, 97, 98, 99, 100, 101, 102, 103, 104, 105, 106, 107, 108, 109, 110, 111, 112, 113, 114, 115, 116, 117, 118, 119, 120, 121, 122, 123, 124, 125, 126, 127, 128, 129, 130, 131, 132, 133, 134, 135, 136, 137, 138, 139, 140, 141, 142, 143, 144, 145, 146, 147, 148, 149, 150, 151, 152, 153, 154, 155, 156, 157, 158, 159, 160, 161, 162, 163, 164, 165, 166, 167, 168, 169, 170, 171, 172, 173, 174, 175, 176, 177, 178, 179, 180, 181, 182, 183, 184, 185, 186, 187, 188, 189, 190, 191, 192, 193, 194, 195, 196, 197, 198, 199, 200, 201, 202, 203, 204, 205, 206, 207, 208, 209, 210, 211, 212, 213, 214, 215, 216, 217, 218, 219, 220, 221, 222, 223, 224, 225, 226, 227, 228, 229, 230, 231, 232, 233, 234, 235, 236, 237, 238, 239, 240, 241, 242, 243, 244, 245, 246] (by decide +kernel) (by decide +kernel)) (goodIn_sub (fun _ h => List.mem_cons_of_mem _ (List.mem_append_right _ h)) (by decide +kernel))
set_option maxRecDepth 20000 in
theorem gL_turn_X8_turn : GoodIn wsL_turn (wsV RL 33 RX8 yX8_turn wsX8_turn) := goodIn_app (goodIn_of _ (by decide +kernel)) ggL_turn_X8_turn
def D_L_turn : Md := (yL_turn, cL_turn, 4, (some .int), wsL_turn, RL, { frames := 7, cells := 1, slots := 6, locals := 136 })
theorem nm_L_turn : nmD D_L_turn 3 := ⟨rfl, by decide +kernel, by decide +kernel, by decide +kernel⟩
theorem cl_L_turn_0 : Cond.classLink RL 21 "java/lang/IndexOutOfBoundsException" ∈ wsL_turn := by decide +kernel
theorem ok_L_turn {G : Gt} {M : Mx} {Qf : State → Prop} {x1 : Int32} {w : Wd} {Q : Int32 → Wd → Prop} (hC : cx G D_L_turn M) (he : en G (M1 M 1 6) (qi Q) Qf) (hH : exH G M [(0, 9, 12, 21)]) (h : wp_X8_turn x1 w (fun r w1 => Q 0 (sL w1 1 r.toInt64)) (fun E w1 => (E = "java/lang/IndexOutOfBoundsException" ∧ Q 1 w1))) : jq G D_L_turn M Qf 0 [(0, .ref (aD G 0 26)), (1, .int x1), (2, .ref (aD G 0 51))] [] w := by
  have hC1 : cx G D_L_turn (M1 M 1 6) := cx_M1 hC hH.2.2.2.2.1 hH.2.2.2.2.2.1
  refine jq_aload_n (k0 := 2) dL_turn_0 hC rfl rfl ?_
  refine jq_iconst (v := 0) dL_turn_1 hC (by decide) ?_
  refine jq_aload_n (k0 := 0) dL_turn_2 hC rfl rfl ?_
  refine jq_iload_n (k0 := 1) dL_turn_3 hC rfl rfl ?_
  refine jq_callX (As := [.int x1]) (rest := [.int 0, .ref (aD G 0 51)]) (n := 0) (o := 26) (D' := D_X8_turn) dL_turn_4 hC hH (cl_0 (by decide)) rfl rfl rfl (mt_X8_turn h) gL_turn_X8_turn rfl ⟨rfl, rfl, Nat.le_of_ble_eq_true rfl, Nat.le_of_ble_eq_true rfl⟩ nm_X8_turn rfl (Nat.le_of_ble_eq_true rfl) (kI fun r1 w1 h => ?_) (fun E w1 q9 hX => ?_)
  · refine jq_i2l dL_turn_7 hC1 ?_
    refine jq_last dL_turn_8 hC1 rfl ?_
    refine jq_goto (tgt := 15) dL_turn_9 hC1 (by decide) ?_
    refine jq_iconst (v := 0) dL_turn_15 hC1 (by decide) ?_
    exact jq_iret dL_turn_16 hC1 he rfl ⟨_, rfl, h⟩
  · obtain ⟨rfl, hq⟩ := hX
    refine ⟨[], (0, 9, 12, 21), [], rfl, fun z hz => absurd hz (by simp), by decide, by decide, cl_L_turn_0, by decide, ?_⟩
    refine jq_astore_n (L' := [(3, .ref q9), (0, .ref (aD G 0 26)), (1, .int x1), (2, .ref (aD G 0 51))]) dL_turn_12 hC1 rfl (by decide) rfl ?_
    refine jq_iconst (v := 1) dL_turn_13 hC1 (by decide) ?_
    exact jq_iret dL_turn_14 hC1 he rfl ⟨_, rfl, hq⟩
theorem mt_L_turn {G : Gt} {x1 : Int32} {w : Wd} {Q : Int32 → Wd → Prop} (h : wp_X8_turn x1 w (fun r w1 => Q 0 (sL w1 1 r.toInt64)) (fun E w1 => (E = "java/lang/IndexOutOfBoundsException" ∧ Q 1 w1))) : MtH G D_L_turn [.ref (aD G 0 26), .int x1, .ref (aD G 0 51)] w (qi Q) := MtH_of (by decide +kernel) rfl rfl (Nat.le_of_ble_eq_true rfl) (fun M Qf hC he hH => ok_L_turn hC he hH h)
theorem dL_removeLeg_0 : decode cL_removeLeg 0 = .ok (.aload_n 2, 1) := by decide +kernel
theorem dL_removeLeg_1 : decode cL_removeLeg 1 = .ok (.iconst 0, 1) := by decide +kernel
theorem dL_removeLeg_2 : decode cL_removeLeg 2 = .ok (.aload_n 0, 1) := by decide +kernel
theorem dL_removeLeg_3 : decode cL_removeLeg 3 = .ok (.iload_n 1, 1) := by decide +kernel
theorem dL_removeLeg_4 : decode cL_removeLeg 4 = .ok (.invokevirtual 36, 3) := by decide +kernel
theorem dL_removeLeg_7 : decode cL_removeLeg 7 = .ok (.i2l, 1) := by decide +kernel
theorem dL_removeLeg_8 : decode cL_removeLeg 8 = .ok (.lastore, 1) := by decide +kernel
theorem dL_removeLeg_9 : decode cL_removeLeg 9 = .ok (.goto 6, 3) := by decide +kernel
theorem dL_removeLeg_12 : decode cL_removeLeg 12 = .ok (.astore_n 3, 1) := by decide +kernel
theorem dL_removeLeg_13 : decode cL_removeLeg 13 = .ok (.iconst 1, 1) := by decide +kernel
theorem dL_removeLeg_14 : decode cL_removeLeg 14 = .ok (.ireturn, 1) := by decide +kernel
theorem dL_removeLeg_15 : decode cL_removeLeg 15 = .ok (.iconst 0, 1) := by decide +kernel
theorem dL_removeLeg_16 : decode cL_removeLeg 16 = .ok (.ireturn, 1) := by decide +kernel
set_option maxRecDepth 20000 in
theorem ggL_removeLeg_X8_removeLeg : GoodIn wsL_removeLeg wsX8_removeLeg := goodIn_ca (goodIn_r _ [6, 7, 8, 9, 10, 11, 12, 13, 14, 15, 16, 17, 18, 19, 20, 21, 22, 23, 24, 25, 26, 27, 28, 29, 30, 31, 32, 33, 34, 35, 36, 37, 38, 39, 40, 41, 42, 43, 44, 45, 46, 47, 48, 49, 50, 51, 52, 53, 54, 55, 56, 57, 58, 59, 60, 61, 62, 63, 64, 65, 66, 67, 68, 69, 70, 71, 72, 73, 74, 75, 76, 77, 78, 79, 80, 81, 82, 83, 84, 85, 86, 87, 88, 89, 90, 91, 92, 93, 5, 94, 95, 96, 97, 98, 99, 100, 101, 102, 103, 104, 105, 106, 107, 108, 109, 110, 111, 112, 113, 114, 115, 116, 117, 118, 119, 120, 121, 122, 123, 124, 125, 126, 127, 128, 129, 130, 131, 132, 133, 134, 135, 136, 137, 138, 139, 140, 141, 142, 143, 144, 145, 146, 147, 148, 149, 150, 151, 152, 153, 154, 155, 156, 157, 158, 159, 160, 161, 162, 163, 164, 165, 166, 167, 168, 169, 170, 171, 172, 173, 174, 175, 176, 177, 178, 179, 180, 181, 182, 183, 184, 185, 186, 187, 188, 189, 190, 191, 192, 193, 194, 195, 196, 197, 198, 199, 200, 201, 202, 203, 204, 205, 206, 207, 208, 209, 210, 211, 212, 213, 214, 215, 216, 217, 218, 219, 220, 221, 222, 223, 224, 225, 226, 227, 228, 229, 230, 231, 232, 233, 234, 235, 236, 237, 238, 239, 240, 241, 242, 243, 244, 245, 246, 247] (by decide +kernel) (by decide +kernel)) (goodIn_sub (fun _ h => List.mem_cons_of_mem _ (List.mem_append_right _ h)) (by decide +kernel))
set_option maxRecDepth 20000 in
theorem gL_removeLeg_X8_removeLeg : GoodIn wsL_removeLeg (wsV RL 36 RX8 yX8_removeLeg wsX8_removeLeg) := goodIn_app (goodIn_of _ (by decide +kernel)) ggL_removeLeg_X8_removeLeg
def D_L_removeLeg : Md := (yL_removeLeg, cL_removeLeg, 4, (some .int), wsL_removeLeg, RL, { frames := 7, cells := 1, slots := 6, locals := 136 })
theorem nm_L_removeLeg : nmD D_L_removeLeg 3 := ⟨rfl, by decide +kernel, by decide +kernel, by decide +kernel⟩
theorem cl_L_removeLeg_0 : Cond.classLink RL 21 "java/lang/IndexOutOfBoundsException" ∈ wsL_removeLeg := by decide +kernel
theorem ok_L_removeLeg {G : Gt} {M : Mx} {Qf : State → Prop} {x1 : Int32} {w : Wd} {Q : Int32 → Wd → Prop} (hC : cx G D_L_removeLeg M) (he : en G (M1 M 1 6) (qi Q) Qf) (hH : exH G M [(0, 9, 12, 21)]) (h : wp_X8_removeLeg x1 w (fun r w1 => Q 0 (sL w1 1 r.toInt64)) (fun E w1 => (E = "java/lang/IndexOutOfBoundsException" ∧ Q 1 w1))) : jq G D_L_removeLeg M Qf 0 [(0, .ref (aD G 0 26)), (1, .int x1), (2, .ref (aD G 0 51))] [] w := by
  have hC1 : cx G D_L_removeLeg (M1 M 1 6) := cx_M1 hC hH.2.2.2.2.1 hH.2.2.2.2.2.1
  refine jq_aload_n (k0 := 2) dL_removeLeg_0 hC rfl rfl ?_
  refine jq_iconst (v := 0) dL_removeLeg_1 hC (by decide) ?_
  refine jq_aload_n (k0 := 0) dL_removeLeg_2 hC rfl rfl ?_
  refine jq_iload_n (k0 := 1) dL_removeLeg_3 hC rfl rfl ?_
  refine jq_callX (As := [.int x1]) (rest := [.int 0, .ref (aD G 0 51)]) (n := 0) (o := 26) (D' := D_X8_removeLeg) dL_removeLeg_4 hC hH (cl_0 (by decide)) rfl rfl rfl (mt_X8_removeLeg h) gL_removeLeg_X8_removeLeg rfl ⟨rfl, rfl, Nat.le_of_ble_eq_true rfl, Nat.le_of_ble_eq_true rfl⟩ nm_X8_removeLeg rfl (Nat.le_of_ble_eq_true rfl) (kI fun r1 w1 h => ?_) (fun E w1 q9 hX => ?_)
  · refine jq_i2l dL_removeLeg_7 hC1 ?_
    refine jq_last dL_removeLeg_8 hC1 rfl ?_
    refine jq_goto (tgt := 15) dL_removeLeg_9 hC1 (by decide) ?_
    refine jq_iconst (v := 0) dL_removeLeg_15 hC1 (by decide) ?_
    exact jq_iret dL_removeLeg_16 hC1 he rfl ⟨_, rfl, h⟩
  · obtain ⟨rfl, hq⟩ := hX
    refine ⟨[], (0, 9, 12, 21), [], rfl, fun z hz => absurd hz (by simp), by decide, by decide, cl_L_removeLeg_0, by decide, ?_⟩
    refine jq_astore_n (L' := [(3, .ref q9), (0, .ref (aD G 0 26)), (1, .int x1), (2, .ref (aD G 0 51))]) dL_removeLeg_12 hC1 rfl (by decide) rfl ?_
    refine jq_iconst (v := 1) dL_removeLeg_13 hC1 (by decide) ?_
    exact jq_iret dL_removeLeg_14 hC1 he rfl ⟨_, rfl, hq⟩
theorem mt_L_removeLeg {G : Gt} {x1 : Int32} {w : Wd} {Q : Int32 → Wd → Prop} (h : wp_X8_removeLeg x1 w (fun r w1 => Q 0 (sL w1 1 r.toInt64)) (fun E w1 => (E = "java/lang/IndexOutOfBoundsException" ∧ Q 1 w1))) : MtH G D_L_removeLeg [.ref (aD G 0 26), .int x1, .ref (aD G 0 51)] w (qi Q) := MtH_of (by decide +kernel) rfl rfl (Nat.le_of_ble_eq_true rfl) (fun M Qf hC he hH => ok_L_removeLeg hC he hH h)
theorem dL_set_0 : decode cL_set 0 = .ok (.aload_n 3, 1) := by decide +kernel
theorem dL_set_1 : decode cL_set 1 = .ok (.iconst 0, 1) := by decide +kernel
theorem dL_set_2 : decode cL_set 2 = .ok (.aload_n 0, 1) := by decide +kernel
theorem dL_set_3 : decode cL_set 3 = .ok (.iload_n 1, 1) := by decide +kernel
theorem dL_set_4 : decode cL_set 4 = .ok (.iload_n 2, 1) := by decide +kernel
theorem dL_set_5 : decode cL_set 5 = .ok (.invokevirtual 39, 3) := by decide +kernel
theorem dL_set_8 : decode cL_set 8 = .ok (.i2l, 1) := by decide +kernel
theorem dL_set_9 : decode cL_set 9 = .ok (.lastore, 1) := by decide +kernel
theorem dL_set_10 : decode cL_set 10 = .ok (.goto 11, 3) := by decide +kernel
theorem dL_set_13 : decode cL_set 13 = .ok (.astore 4, 2) := by decide +kernel
theorem dL_set_15 : decode cL_set 15 = .ok (.iconst 1, 1) := by decide +kernel
theorem dL_set_16 : decode cL_set 16 = .ok (.ireturn, 1) := by decide +kernel
theorem dL_set_17 : decode cL_set 17 = .ok (.astore 4, 2) := by decide +kernel
theorem dL_set_19 : decode cL_set 19 = .ok (.iconst 2, 1) := by decide +kernel
theorem dL_set_20 : decode cL_set 20 = .ok (.ireturn, 1) := by decide +kernel
theorem dL_set_21 : decode cL_set 21 = .ok (.iconst 0, 1) := by decide +kernel
theorem dL_set_22 : decode cL_set 22 = .ok (.ireturn, 1) := by decide +kernel
set_option maxRecDepth 20000 in
theorem ggL_set_X8_set : GoodIn wsL_set wsX8_set := goodIn_ca (goodIn_ca (goodIn_r _ [7, 8, 9, 10, 11, 12, 13, 14, 15, 16, 17, 6, 18, 19, 20, 21, 22, 23, 24, 25, 26, 27, 28, 29, 30, 31, 32, 33, 34, 35, 36, 37, 38, 39, 40, 41, 42, 43, 44, 45, 46, 47, 48, 49, 50, 51, 52, 53, 54, 55, 56, 57, 58, 59, 60, 61, 62, 63, 64, 65, 66, 67, 68, 69, 70, 71, 72, 73, 74, 75, 76, 77, 78, 79, 80, 81, 82, 83, 84, 85, 86, 87, 88, 89, 90, 91, 92, 93, 94, 95, 96, 97, 98, 99, 100, 101, 102, 103, 104, 105, 106, 107, 108, 109, 110, 111, 112, 113, 114, 115, 116, 117, 118, 119, 120, 121, 122, 123, 124, 125, 126, 127, 128, 129, 130, 131, 132, 133, 134, 135, 136, 137, 138, 139, 140, 141, 142, 143, 144, 145, 146, 147, 148, 149, 150, 151, 152, 153, 154, 155, 156, 157, 158, 159, 160, 161, 162, 163, 164, 165, 166, 167, 168, 169, 170, 171, 172, 173, 174, 175, 176, 177, 178, 179, 180, 181, 182, 183, 184, 185, 186, 187, 188, 189, 190, 191, 192, 193, 194, 195, 196, 197, 198, 199, 200, 201, 202, 203, 204, 205, 206, 207, 208, 209, 210, 211, 212, 213, 214, 215, 216, 217, 218, 219, 220, 221, 222, 223, 224, 225, 226, 227, 228, 229, 230, 231, 232, 233, 234, 235, 236, 237, 238, 239, 240, 241, 242, 243, 244] (by decide +kernel) (by decide +kernel)) (goodIn_sub (fun _ h => List.mem_cons_of_mem _ (List.mem_append_left _ (List.mem_append_right _ h))) (by decide +kernel))) (goodIn_sub (fun _ h => List.mem_cons_of_mem _ (List.mem_append_right _ h)) (by decide +kernel))
set_option maxRecDepth 20000 in
theorem gL_set_X8_set : GoodIn wsL_set (wsV RL 39 RX8 yX8_set wsX8_set) := goodIn_app (goodIn_of _ (by decide +kernel)) ggL_set_X8_set
def D_L_set : Md := (yL_set, cL_set, 5, (some .int), wsL_set, RL, { frames := 7, cells := 1, slots := 6, locals := 138 })
theorem nm_L_set : nmD D_L_set 4 := ⟨rfl, by decide +kernel, by decide +kernel, by decide +kernel⟩
theorem cl_L_set_0 : Cond.classLink RL 21 "java/lang/IndexOutOfBoundsException" ∈ wsL_set := by decide +kernel
theorem cl_L_set_1 : Cond.classLink RL 13 "java/lang/IllegalArgumentException" ∈ wsL_set := by decide +kernel
theorem ok_L_set {G : Gt} {M : Mx} {Qf : State → Prop} {x1 x2 : Int32} {w : Wd} {Q : Int32 → Wd → Prop} (hC : cx G D_L_set M) (he : en G (M1 M 1 6) (qi Q) Qf) (hH : exH G M [(0, 10, 13, 21), (0, 10, 17, 13)]) (h : wp_X8_set x1 x2 w (fun r w1 => Q 0 (sL w1 1 r.toInt64)) (fun E w1 => (E = "java/lang/IndexOutOfBoundsException" ∧ Q 1 w1) ∨ (E = "java/lang/IllegalArgumentException" ∧ Q 2 w1))) : jq G D_L_set M Qf 0 [(0, .ref (aD G 0 26)), (1, .int x1), (2, .int x2), (3, .ref (aD G 0 51))] [] w := by
  have hC1 : cx G D_L_set (M1 M 1 6) := cx_M1 hC hH.2.2.2.2.1 hH.2.2.2.2.2.1
  refine jq_aload_n (k0 := 3) dL_set_0 hC rfl rfl ?_
  refine jq_iconst (v := 0) dL_set_1 hC (by decide) ?_
  refine jq_aload_n (k0 := 0) dL_set_2 hC rfl rfl ?_
  refine jq_iload_n (k0 := 1) dL_set_3 hC rfl rfl ?_
  refine jq_iload_n (k0 := 2) dL_set_4 hC rfl rfl ?_
  refine jq_callX (As := [.int x1, .int x2]) (rest := [.int 0, .ref (aD G 0 51)]) (n := 0) (o := 26) (D' := D_X8_set) dL_set_5 hC hH (cl_0 (by decide)) rfl rfl rfl (mt_X8_set h) gL_set_X8_set rfl ⟨rfl, rfl, Nat.le_of_ble_eq_true rfl, Nat.le_of_ble_eq_true rfl⟩ nm_X8_set rfl (Nat.le_of_ble_eq_true rfl) (kI fun r1 w1 h => ?_) (fun E w1 q9 hX => ?_)
  · refine jq_i2l dL_set_8 hC1 ?_
    refine jq_last dL_set_9 hC1 rfl ?_
    refine jq_goto (tgt := 21) dL_set_10 hC1 (by decide) ?_
    refine jq_iconst (v := 0) dL_set_21 hC1 (by decide) ?_
    exact jq_iret dL_set_22 hC1 he rfl ⟨_, rfl, h⟩
  · rcases hX with ⟨rfl, hq⟩ | ⟨rfl, hq⟩
    · refine ⟨[], (0, 10, 13, 21), [(0, 10, 17, 13)], rfl, fun z hz => absurd hz (by simp), by decide, by decide, cl_L_set_0, by decide, ?_⟩
      refine jq_astore (L' := [(4, .ref q9), (0, .ref (aD G 0 26)), (1, .int x1), (2, .int x2), (3, .ref (aD G 0 51))]) dL_set_13 hC1 (by decide) rfl ?_
      refine jq_iconst (v := 1) dL_set_15 hC1 (by decide) ?_
      exact jq_iret dL_set_16 hC1 he rfl ⟨_, rfl, hq⟩
    · refine ⟨[(0, 10, 13, 21)], (0, 10, 17, 13), [], rfl, fun z hz => by
        rcases List.mem_singleton.mp hz with rfl
        exact ⟨by decide, "java/lang/IndexOutOfBoundsException", cl_L_set_0, by decide⟩, by decide, by decide, cl_L_set_1, by decide, ?_⟩
      refine jq_astore (L' := [(4, .ref q9), (0, .ref (aD G 0 26)), (1, .int x1), (2, .int x2), (3, .ref (aD G 0 51))]) dL_set_17 hC1 (by decide) rfl ?_
      refine jq_iconst (v := 2) dL_set_19 hC1 (by decide) ?_
      exact jq_iret dL_set_20 hC1 he rfl ⟨_, rfl, hq⟩
theorem mt_L_set {G : Gt} {x1 x2 : Int32} {w : Wd} {Q : Int32 → Wd → Prop} (h : wp_X8_set x1 x2 w (fun r w1 => Q 0 (sL w1 1 r.toInt64)) (fun E w1 => (E = "java/lang/IndexOutOfBoundsException" ∧ Q 1 w1) ∨ (E = "java/lang/IllegalArgumentException" ∧ Q 2 w1))) : MtH G D_L_set [.ref (aD G 0 26), .int x1, .int x2, .ref (aD G 0 51)] w (qi Q) := MtH_of (by decide +kernel) rfl rfl (Nat.le_of_ble_eq_true rfl) (fun M Qf hC he hH => ok_L_set hC he hH h)
theorem dL_append_0 : decode cL_append 0 = .ok (.aload_n 2, 1) := by decide +kernel
theorem dL_append_1 : decode cL_append 1 = .ok (.iconst 0, 1) := by decide +kernel
theorem dL_append_2 : decode cL_append 2 = .ok (.aload_n 0, 1) := by decide +kernel
theorem dL_append_3 : decode cL_append 3 = .ok (.iload_n 1, 1) := by decide +kernel
theorem dL_append_4 : decode cL_append 4 = .ok (.invokevirtual 42, 3) := by decide +kernel
theorem dL_append_7 : decode cL_append 7 = .ok (.i2l, 1) := by decide +kernel
theorem dL_append_8 : decode cL_append 8 = .ok (.lastore, 1) := by decide +kernel
theorem dL_append_9 : decode cL_append 9 = .ok (.goto 9, 3) := by decide +kernel
theorem dL_append_12 : decode cL_append 12 = .ok (.astore_n 3, 1) := by decide +kernel
theorem dL_append_13 : decode cL_append 13 = .ok (.iconst 1, 1) := by decide +kernel
theorem dL_append_14 : decode cL_append 14 = .ok (.ireturn, 1) := by decide +kernel
theorem dL_append_15 : decode cL_append 15 = .ok (.astore_n 3, 1) := by decide +kernel
theorem dL_append_16 : decode cL_append 16 = .ok (.iconst 2, 1) := by decide +kernel
theorem dL_append_17 : decode cL_append 17 = .ok (.ireturn, 1) := by decide +kernel
theorem dL_append_18 : decode cL_append 18 = .ok (.iconst 0, 1) := by decide +kernel
theorem dL_append_19 : decode cL_append 19 = .ok (.ireturn, 1) := by decide +kernel
set_option maxRecDepth 20000 in
theorem ggL_append_X8_append : GoodIn wsL_append wsX8_append := goodIn_ca (goodIn_ca (goodIn_r _ [7, 8, 9, 10, 11, 12, 13, 14, 15, 16, 17, 18, 19, 20, 21, 22, 23, 24, 25, 26, 27, 28, 29] (by decide +kernel) (by decide +kernel)) (goodIn_sub (fun _ h => List.mem_cons_of_mem _ (List.mem_append_left _ (List.mem_append_right _ h))) (by decide +kernel))) (goodIn_sub (fun _ h => List.mem_cons_of_mem _ (List.mem_append_right _ h)) (by decide +kernel))
set_option maxRecDepth 20000 in
theorem gL_append_X8_append : GoodIn wsL_append (wsV RL 42 RX8 yX8_append wsX8_append) := goodIn_app (goodIn_of _ (by decide +kernel)) ggL_append_X8_append
def D_L_append : Md := (yL_append, cL_append, 4, (some .int), wsL_append, RL, { frames := 7, cells := 1, slots := 6, locals := 102 })
theorem nm_L_append : nmD D_L_append 3 := ⟨rfl, by decide +kernel, by decide +kernel, by decide +kernel⟩
theorem cl_L_append_0 : Cond.classLink RL 13 "java/lang/IllegalArgumentException" ∈ wsL_append := by decide +kernel
theorem cl_L_append_1 : Cond.classLink RL 15 "java/lang/IllegalStateException" ∈ wsL_append := by decide +kernel
theorem ok_L_append {G : Gt} {M : Mx} {Qf : State → Prop} {x1 : Int32} {w : Wd} {Q : Int32 → Wd → Prop} (hC : cx G D_L_append M) (he : en G (M1 M 1 6) (qi Q) Qf) (hH : exH G M [(0, 9, 12, 13), (0, 9, 15, 15)]) (h : wp_X8_append x1 w (fun r w1 => Q 0 (sL w1 1 r.toInt64)) (fun E w1 => (E = "java/lang/IllegalArgumentException" ∧ Q 1 w1) ∨ (E = "java/lang/IllegalStateException" ∧ Q 2 w1))) : jq G D_L_append M Qf 0 [(0, .ref (aD G 0 26)), (1, .int x1), (2, .ref (aD G 0 51))] [] w := by
  have hC1 : cx G D_L_append (M1 M 1 6) := cx_M1 hC hH.2.2.2.2.1 hH.2.2.2.2.2.1
  refine jq_aload_n (k0 := 2) dL_append_0 hC rfl rfl ?_
  refine jq_iconst (v := 0) dL_append_1 hC (by decide) ?_
  refine jq_aload_n (k0 := 0) dL_append_2 hC rfl rfl ?_
  refine jq_iload_n (k0 := 1) dL_append_3 hC rfl rfl ?_
  refine jq_callX (As := [.int x1]) (rest := [.int 0, .ref (aD G 0 51)]) (n := 0) (o := 26) (D' := D_X8_append) dL_append_4 hC hH (cl_0 (by decide)) rfl rfl rfl (mt_X8_append h) gL_append_X8_append rfl ⟨rfl, rfl, Nat.le_of_ble_eq_true rfl, Nat.le_of_ble_eq_true rfl⟩ nm_X8_append rfl (Nat.le_of_ble_eq_true rfl) (kI fun r1 w1 h => ?_) (fun E w1 q9 hX => ?_)
  · refine jq_i2l dL_append_7 hC1 ?_
    refine jq_last dL_append_8 hC1 rfl ?_
    refine jq_goto (tgt := 18) dL_append_9 hC1 (by decide) ?_
    refine jq_iconst (v := 0) dL_append_18 hC1 (by decide) ?_
    exact jq_iret dL_append_19 hC1 he rfl ⟨_, rfl, h⟩
  · rcases hX with ⟨rfl, hq⟩ | ⟨rfl, hq⟩
    · refine ⟨[], (0, 9, 12, 13), [(0, 9, 15, 15)], rfl, fun z hz => absurd hz (by simp), by decide, by decide, cl_L_append_0, by decide, ?_⟩
      refine jq_astore_n (L' := [(3, .ref q9), (0, .ref (aD G 0 26)), (1, .int x1), (2, .ref (aD G 0 51))]) dL_append_12 hC1 rfl (by decide) rfl ?_
      refine jq_iconst (v := 1) dL_append_13 hC1 (by decide) ?_
      exact jq_iret dL_append_14 hC1 he rfl ⟨_, rfl, hq⟩
    · refine ⟨[(0, 9, 12, 13)], (0, 9, 15, 15), [], rfl, fun z hz => by
        rcases List.mem_singleton.mp hz with rfl
        exact ⟨by decide, "java/lang/IllegalArgumentException", cl_L_append_0, by decide⟩, by decide, by decide, cl_L_append_1, by decide, ?_⟩
      refine jq_astore_n (L' := [(3, .ref q9), (0, .ref (aD G 0 26)), (1, .int x1), (2, .ref (aD G 0 51))]) dL_append_15 hC1 rfl (by decide) rfl ?_
      refine jq_iconst (v := 2) dL_append_16 hC1 (by decide) ?_
      exact jq_iret dL_append_17 hC1 he rfl ⟨_, rfl, hq⟩
theorem mt_L_append {G : Gt} {x1 : Int32} {w : Wd} {Q : Int32 → Wd → Prop} (h : wp_X8_append x1 w (fun r w1 => Q 0 (sL w1 1 r.toInt64)) (fun E w1 => (E = "java/lang/IllegalArgumentException" ∧ Q 1 w1) ∨ (E = "java/lang/IllegalStateException" ∧ Q 2 w1))) : MtH G D_L_append [.ref (aD G 0 26), .int x1, .ref (aD G 0 51)] w (qi Q) := MtH_of (by decide +kernel) rfl rfl (Nat.le_of_ble_eq_true rfl) (fun M Qf hC he hH => ok_L_append hC he hH h)
theorem dL_book_0 : decode cL_book 0 = .ok (.aload_n 1, 1) := by decide +kernel
theorem dL_book_1 : decode cL_book 1 = .ok (.iconst 0, 1) := by decide +kernel
theorem dL_book_2 : decode cL_book 2 = .ok (.aload_n 0, 1) := by decide +kernel
theorem dL_book_3 : decode cL_book 3 = .ok (.invokevirtual 45, 3) := by decide +kernel
theorem dL_book_6 : decode cL_book 6 = .ok (.i2l, 1) := by decide +kernel
theorem dL_book_7 : decode cL_book 7 = .ok (.lastore, 1) := by decide +kernel
theorem dL_book_8 : decode cL_book 8 = .ok (.goto 6, 3) := by decide +kernel
theorem dL_book_11 : decode cL_book 11 = .ok (.astore_n 2, 1) := by decide +kernel
theorem dL_book_12 : decode cL_book 12 = .ok (.iconst 1, 1) := by decide +kernel
theorem dL_book_13 : decode cL_book 13 = .ok (.ireturn, 1) := by decide +kernel
theorem dL_book_14 : decode cL_book 14 = .ok (.iconst 0, 1) := by decide +kernel
theorem dL_book_15 : decode cL_book 15 = .ok (.ireturn, 1) := by decide +kernel
set_option maxRecDepth 20000 in
theorem ggL_book_X8_book : GoodIn wsL_book wsX8_book := goodIn_ca (goodIn_r _ [6, 7, 8, 9, 10, 11, 12, 13, 14, 15, 16, 17, 5, 18, 19, 20, 21, 22, 23, 24, 25, 26, 27, 28, 29, 30, 31, 32, 33, 34, 35, 36, 37, 38, 39, 40, 41, 42, 43, 44, 45, 46, 47, 48, 49, 50, 51, 52, 53, 54, 55, 56, 57, 58, 59, 60, 61, 62, 63, 64, 65, 66, 67, 68, 69, 70, 71, 72, 73, 74, 75, 76, 77, 78, 79, 80, 81, 82, 83, 84, 85, 86, 87, 88, 89, 90, 91, 92, 93, 94, 95, 96, 97, 98, 99, 100, 101, 102, 103, 104, 105, 106, 107, 108, 109, 110, 111, 112, 113, 114, 115, 116, 117, 118, 119, 120, 121, 122, 123, 124, 125, 126, 127, 128, 129, 130, 131, 132, 133, 134, 135, 136, 137, 138, 139, 140, 141, 142, 143, 144, 145, 146, 147, 148, 149, 150, 151, 152, 153, 154, 155, 156, 157, 158, 159, 160, 161, 162, 163, 164, 165, 166, 167, 168, 169, 170, 171, 172, 173, 174, 175, 176, 177, 178, 179, 180, 181, 182, 183, 184, 185, 186, 187, 188, 189, 190, 191, 192, 193, 194, 195, 196, 197, 198, 199, 200, 201, 202, 203, 204, 205, 206, 207, 208, 209, 210, 211, 212, 213, 214, 215, 216, 217, 218, 219, 220, 221, 222, 223, 224, 225, 226, 227, 228, 229, 230, 231, 232, 233, 234, 235, 236, 237, 238, 239, 240, 241, 242, 243, 244, 245, 246, 247, 248, 249, 250, 251, 252, 253, 254, 255, 256, 257, 258, 259, 260, 261, 262, 263, 264, 265, 266, 267, 268, 269, 270, 271, 272, 273, 274, 275, 276, 277, 278, 279, 280, 281, 282, 283, 284, 285, 286, 287, 288, 289, 290, 291, 292, 293, 294, 295, 296, 297, 298, 299, 300, 301, 302, 303, 304, 305, 306, 307, 308, 309, 310, 311, 312, 313, 314, 315, 316, 317, 318, 319, 320, 321, 322, 323, 324, 325, 326, 327, 328, 329, 330, 331, 332, 333, 334, 335, 336, 337, 338, 339, 340, 341] (by decide +kernel) (by decide +kernel)) (goodIn_sub (fun _ h => List.mem_cons_of_mem _ (List.mem_append_right _ h)) (by decide +kernel))
set_option maxRecDepth 20000 in
theorem gL_book_X8_book : GoodIn wsL_book (wsV RL 45 RX8 yX8_book wsX8_book) := goodIn_app (goodIn_of _ (by decide +kernel)) ggL_book_X8_book
def D_L_book : Md := (yL_book, cL_book, 3, (some .int), wsL_book, RL, { frames := 7, cells := 1, slots := 6, locals := 136 })
theorem nm_L_book : nmD D_L_book 2 := ⟨rfl, by decide +kernel, by decide +kernel, by decide +kernel⟩
theorem cl_L_book_0 : Cond.classLink RL 13 "java/lang/IllegalArgumentException" ∈ wsL_book := by decide +kernel
theorem ok_L_book {G : Gt} {M : Mx} {Qf : State → Prop} {w : Wd} {Q : Int32 → Wd → Prop} (hC : cx G D_L_book M) (he : en G (M1 M 1 6) (qi Q) Qf) (hH : exH G M [(0, 8, 11, 13)]) (h : wp_X8_book  w (fun r w1 => Q 0 (sL w1 1 r.toInt64)) (fun E w1 => (E = "java/lang/IllegalArgumentException" ∧ Q 1 w1))) : jq G D_L_book M Qf 0 [(0, .ref (aD G 0 26)), (1, .ref (aD G 0 51))] [] w := by
  have hC1 : cx G D_L_book (M1 M 1 6) := cx_M1 hC hH.2.2.2.2.1 hH.2.2.2.2.2.1
  refine jq_aload_n (k0 := 1) dL_book_0 hC rfl rfl ?_
  refine jq_iconst (v := 0) dL_book_1 hC (by decide) ?_
  refine jq_aload_n (k0 := 0) dL_book_2 hC rfl rfl ?_
  refine jq_callX (As := []) (rest := [.int 0, .ref (aD G 0 51)]) (n := 0) (o := 26) (D' := D_X8_book) dL_book_3 hC hH (cl_0 (by decide)) rfl rfl rfl (mt_X8_book h) gL_book_X8_book rfl ⟨rfl, rfl, Nat.le_of_ble_eq_true rfl, Nat.le_of_ble_eq_true rfl⟩ nm_X8_book rfl (Nat.le_of_ble_eq_true rfl) (kI fun r1 w1 h => ?_) (fun E w1 q9 hX => ?_)
  · refine jq_i2l dL_book_6 hC1 ?_
    refine jq_last dL_book_7 hC1 rfl ?_
    refine jq_goto (tgt := 14) dL_book_8 hC1 (by decide) ?_
    refine jq_iconst (v := 0) dL_book_14 hC1 (by decide) ?_
    exact jq_iret dL_book_15 hC1 he rfl ⟨_, rfl, h⟩
  · obtain ⟨rfl, hq⟩ := hX
    refine ⟨[], (0, 8, 11, 13), [], rfl, fun z hz => absurd hz (by simp), by decide, by decide, cl_L_book_0, by decide, ?_⟩
    refine jq_astore_n (L' := [(2, .ref q9), (0, .ref (aD G 0 26)), (1, .ref (aD G 0 51))]) dL_book_11 hC1 rfl (by decide) rfl ?_
    refine jq_iconst (v := 1) dL_book_12 hC1 (by decide) ?_
    exact jq_iret dL_book_13 hC1 he rfl ⟨_, rfl, hq⟩
theorem mt_L_book {G : Gt} {w : Wd} {Q : Int32 → Wd → Prop} (h : wp_X8_book  w (fun r w1 => Q 0 (sL w1 1 r.toInt64)) (fun E w1 => (E = "java/lang/IllegalArgumentException" ∧ Q 1 w1))) : MtH G D_L_book [.ref (aD G 0 26), .ref (aD G 0 51)] w (qi Q) := MtH_of (by decide +kernel) rfl rfl (Nat.le_of_ble_eq_true rfl) (fun M Qf hC he hH => ok_L_book hC he hH h)
theorem dL_undo_0 : decode cL_undo 0 = .ok (.aload_n 1, 1) := by decide +kernel
theorem dL_undo_1 : decode cL_undo 1 = .ok (.iconst 0, 1) := by decide +kernel
theorem dL_undo_2 : decode cL_undo 2 = .ok (.aload_n 0, 1) := by decide +kernel
theorem dL_undo_3 : decode cL_undo 3 = .ok (.invokevirtual 49, 3) := by decide +kernel
theorem dL_undo_6 : decode cL_undo 6 = .ok (.i2l, 1) := by decide +kernel
theorem dL_undo_7 : decode cL_undo 7 = .ok (.lastore, 1) := by decide +kernel
theorem dL_undo_8 : decode cL_undo 8 = .ok (.goto 6, 3) := by decide +kernel
theorem dL_undo_11 : decode cL_undo 11 = .ok (.astore_n 2, 1) := by decide +kernel
theorem dL_undo_12 : decode cL_undo 12 = .ok (.iconst 1, 1) := by decide +kernel
theorem dL_undo_13 : decode cL_undo 13 = .ok (.ireturn, 1) := by decide +kernel
theorem dL_undo_14 : decode cL_undo 14 = .ok (.iconst 0, 1) := by decide +kernel
theorem dL_undo_15 : decode cL_undo 15 = .ok (.ireturn, 1) := by decide +kernel
set_option maxRecDepth 20000 in
theorem ggL_undo_X8_undo : GoodIn wsL_undo wsX8_undo := goodIn_ca (goodIn_r _ [6, 7, 8, 9, 10, 11, 12, 13, 14, 15, 16, 17, 18, 19, 20, 21, 22, 23, 24, 25, 26, 27, 28, 29, 30, 31, 32, 33, 34, 35, 36, 37, 38, 39, 40, 41, 42, 43, 44, 45, 46, 47, 48, 49, 50, 51, 52, 53, 54, 55, 56, 57, 58, 59, 60, 61, 62, 63, 64, 65, 66, 67, 68, 69, 70, 71, 72, 73, 74, 75, 76, 77, 78, 79, 80, 5, 81, 82, 83, 84, 85, 86, 87, 88, 89, 90, 91, 92, 93, 94, 95, 96, 97, 98, 99, 100, 101, 102, 103, 104, 105, 106, 107, 108, 109, 110, 111, 112, 113, 114, 115, 116, 117, 118, 119, 120, 121, 122, 123, 124, 125, 126, 127, 128, 129, 130, 131, 132, 133, 134, 135, 136, 137, 138, 139, 140, 141, 142, 143, 144, 145, 146, 147, 148, 149, 150, 151, 152, 153, 154, 155, 156, 157, 158, 159, 160, 161, 162, 163, 164, 165, 166, 167, 168, 169, 170, 171, 172, 173, 174, 175, 176, 177, 178, 179, 180, 181, 182, 183, 184, 185, 186, 187, 188, 189, 190, 191, 192, 193, 194, 195, 196, 197, 198, 199, 200, 201, 202, 203, 204, 205, 206, 207, 208, 209, 210, 211, 212, 213, 214, 215, 216, 217, 218, 219, 220, 221, 222, 223, 224, 225, 226, 227, 228, 229, 230, 231, 232, 233, 234] (by decide +kernel) (by decide +kernel)) (goodIn_sub (fun _ h => List.mem_cons_of_mem _ (List.mem_append_right _ h)) (by decide +kernel))
set_option maxRecDepth 20000 in
theorem gL_undo_X8_undo : GoodIn wsL_undo (wsV RL 49 RX8 yX8_undo wsX8_undo) := goodIn_app (goodIn_of _ (by decide +kernel)) ggL_undo_X8_undo
def D_L_undo : Md := (yL_undo, cL_undo, 3, (some .int), wsL_undo, RL, { frames := 7, cells := 1, slots := 6, locals := 135 })
theorem nm_L_undo : nmD D_L_undo 2 := ⟨rfl, by decide +kernel, by decide +kernel, by decide +kernel⟩
theorem cl_L_undo_0 : Cond.classLink RL 15 "java/lang/IllegalStateException" ∈ wsL_undo := by decide +kernel
theorem ok_L_undo {G : Gt} {M : Mx} {Qf : State → Prop} {w : Wd} {Q : Int32 → Wd → Prop} (hC : cx G D_L_undo M) (he : en G (M1 M 1 6) (qi Q) Qf) (hH : exH G M [(0, 8, 11, 15)]) (h : wp_X8_undo  w (fun r w1 => Q 0 (sL w1 1 r.toInt64)) (fun E w1 => (E = "java/lang/IllegalStateException" ∧ Q 1 w1))) : jq G D_L_undo M Qf 0 [(0, .ref (aD G 0 26)), (1, .ref (aD G 0 51))] [] w := by
  have hC1 : cx G D_L_undo (M1 M 1 6) := cx_M1 hC hH.2.2.2.2.1 hH.2.2.2.2.2.1
  refine jq_aload_n (k0 := 1) dL_undo_0 hC rfl rfl ?_
  refine jq_iconst (v := 0) dL_undo_1 hC (by decide) ?_
  refine jq_aload_n (k0 := 0) dL_undo_2 hC rfl rfl ?_
  refine jq_callX (As := []) (rest := [.int 0, .ref (aD G 0 51)]) (n := 0) (o := 26) (D' := D_X8_undo) dL_undo_3 hC hH (cl_0 (by decide)) rfl rfl rfl (mt_X8_undo h) gL_undo_X8_undo rfl ⟨rfl, rfl, Nat.le_of_ble_eq_true rfl, Nat.le_of_ble_eq_true rfl⟩ nm_X8_undo rfl (Nat.le_of_ble_eq_true rfl) (kI fun r1 w1 h => ?_) (fun E w1 q9 hX => ?_)
  · refine jq_i2l dL_undo_6 hC1 ?_
    refine jq_last dL_undo_7 hC1 rfl ?_
    refine jq_goto (tgt := 14) dL_undo_8 hC1 (by decide) ?_
    refine jq_iconst (v := 0) dL_undo_14 hC1 (by decide) ?_
    exact jq_iret dL_undo_15 hC1 he rfl ⟨_, rfl, h⟩
  · obtain ⟨rfl, hq⟩ := hX
    refine ⟨[], (0, 8, 11, 15), [], rfl, fun z hz => absurd hz (by simp), by decide, by decide, cl_L_undo_0, by decide, ?_⟩
    refine jq_astore_n (L' := [(2, .ref q9), (0, .ref (aD G 0 26)), (1, .ref (aD G 0 51))]) dL_undo_11 hC1 rfl (by decide) rfl ?_
    refine jq_iconst (v := 1) dL_undo_12 hC1 (by decide) ?_
    exact jq_iret dL_undo_13 hC1 he rfl ⟨_, rfl, hq⟩
theorem mt_L_undo {G : Gt} {w : Wd} {Q : Int32 → Wd → Prop} (h : wp_X8_undo  w (fun r w1 => Q 0 (sL w1 1 r.toInt64)) (fun E w1 => (E = "java/lang/IllegalStateException" ∧ Q 1 w1))) : MtH G D_L_undo [.ref (aD G 0 26), .ref (aD G 0 51)] w (qi Q) := MtH_of (by decide +kernel) rfl rfl (Nat.le_of_ble_eq_true rfl) (fun M Qf hC he hH => ok_L_undo hC he hH h)
theorem dL_mark_0 : decode cL_mark 0 = .ok (.aload_n 3, 1) := by decide +kernel
theorem dL_mark_1 : decode cL_mark 1 = .ok (.iconst 0, 1) := by decide +kernel
theorem dL_mark_2 : decode cL_mark 2 = .ok (.aload_n 0, 1) := by decide +kernel
theorem dL_mark_3 : decode cL_mark 3 = .ok (.iload_n 1, 1) := by decide +kernel
theorem dL_mark_4 : decode cL_mark 4 = .ok (.iload_n 2, 1) := by decide +kernel
theorem dL_mark_5 : decode cL_mark 5 = .ok (.invokevirtual 52, 3) := by decide +kernel
theorem dL_mark_8 : decode cL_mark 8 = .ok (.i2l, 1) := by decide +kernel
theorem dL_mark_9 : decode cL_mark 9 = .ok (.lastore, 1) := by decide +kernel
theorem dL_mark_10 : decode cL_mark 10 = .ok (.goto 11, 3) := by decide +kernel
theorem dL_mark_13 : decode cL_mark 13 = .ok (.astore 4, 2) := by decide +kernel
theorem dL_mark_15 : decode cL_mark 15 = .ok (.iconst 1, 1) := by decide +kernel
theorem dL_mark_16 : decode cL_mark 16 = .ok (.ireturn, 1) := by decide +kernel
theorem dL_mark_17 : decode cL_mark 17 = .ok (.astore 4, 2) := by decide +kernel
theorem dL_mark_19 : decode cL_mark 19 = .ok (.iconst 2, 1) := by decide +kernel
theorem dL_mark_20 : decode cL_mark 20 = .ok (.ireturn, 1) := by decide +kernel
theorem dL_mark_21 : decode cL_mark 21 = .ok (.iconst 0, 1) := by decide +kernel
theorem dL_mark_22 : decode cL_mark 22 = .ok (.ireturn, 1) := by decide +kernel
set_option maxRecDepth 20000 in
theorem ggL_mark_X8_mark : GoodIn wsL_mark wsX8_mark := goodIn_ca (goodIn_ca (goodIn_r _ [7, 8, 9, 10, 11, 12, 13, 14, 15, 16, 17, 18, 19, 20, 21, 22, 23, 24, 25, 26, 27, 28, 29, 30, 31, 32, 33, 34, 35, 36, 37, 38, 39, 40, 41, 42, 43, 44, 45, 46, 47, 48, 49, 50, 51, 52, 53, 54, 55, 56, 57, 58, 59, 60, 61, 62, 63, 64, 65, 66, 67, 68, 69, 70, 71, 72, 73, 74, 75, 76, 77, 78, 79, 80, 81, 82, 83, 84, 85, 86, 87, 88, 89, 90, 91, 92, 93, 94, 95, 96, 97, 98, 99, 100, 101] (by decide +kernel) (by decide +kernel)) (goodIn_sub (fun _ h => List.mem_cons_of_mem _ (List.mem_append_left _ (List.mem_append_right _ h))) (by decide +kernel))) (goodIn_sub (fun _ h => List.mem_cons_of_mem _ (List.mem_append_right _ h)) (by decide +kernel))
set_option maxRecDepth 20000 in
theorem gL_mark_X8_mark : GoodIn wsL_mark (wsV RL 52 RX8 yX8_mark wsX8_mark) := goodIn_app (goodIn_of _ (by decide +kernel)) ggL_mark_X8_mark
def D_L_mark : Md := (yL_mark, cL_mark, 5, (some .int), wsL_mark, RL, { frames := 7, cells := 1, slots := 6, locals := 109 })
theorem nm_L_mark : nmD D_L_mark 4 := ⟨rfl, by decide +kernel, by decide +kernel, by decide +kernel⟩
theorem cl_L_mark_0 : Cond.classLink RL 21 "java/lang/IndexOutOfBoundsException" ∈ wsL_mark := by decide +kernel
theorem cl_L_mark_1 : Cond.classLink RL 13 "java/lang/IllegalArgumentException" ∈ wsL_mark := by decide +kernel
theorem ok_L_mark {G : Gt} {M : Mx} {Qf : State → Prop} {x1 x2 : Int32} {w : Wd} {Q : Int32 → Wd → Prop} (hC : cx G D_L_mark M) (he : en G (M1 M 1 6) (qi Q) Qf) (hH : exH G M [(0, 10, 13, 21), (0, 10, 17, 13)]) (h : wp_X8_mark x1 x2 w (fun r => Q 0 (sL w 1 r.toInt64)) (fun E w1 => (E = "java/lang/IndexOutOfBoundsException" ∧ Q 1 w1) ∨ (E = "java/lang/IllegalArgumentException" ∧ Q 2 w1))) : jq G D_L_mark M Qf 0 [(0, .ref (aD G 0 26)), (1, .int x1), (2, .int x2), (3, .ref (aD G 0 51))] [] w := by
  have hC1 : cx G D_L_mark (M1 M 1 6) := cx_M1 hC hH.2.2.2.2.1 hH.2.2.2.2.2.1
  refine jq_aload_n (k0 := 3) dL_mark_0 hC rfl rfl ?_
  refine jq_iconst (v := 0) dL_mark_1 hC (by decide) ?_
  refine jq_aload_n (k0 := 0) dL_mark_2 hC rfl rfl ?_
  refine jq_iload_n (k0 := 1) dL_mark_3 hC rfl rfl ?_
  refine jq_iload_n (k0 := 2) dL_mark_4 hC rfl rfl ?_
  refine jq_callX (As := [.int x1, .int x2]) (rest := [.int 0, .ref (aD G 0 51)]) (n := 0) (o := 26) (D' := D_X8_mark) dL_mark_5 hC hH (cl_0 (by decide)) rfl rfl rfl (mt_X8_mark h) gL_mark_X8_mark rfl ⟨rfl, rfl, Nat.le_of_ble_eq_true rfl, Nat.le_of_ble_eq_true rfl⟩ nm_X8_mark rfl (Nat.le_of_ble_eq_true rfl) (kIp fun r1 h => ?_) (fun E w1 q9 hX => ?_)
  · refine jq_i2l dL_mark_8 hC1 ?_
    refine jq_last dL_mark_9 hC1 rfl ?_
    refine jq_goto (tgt := 21) dL_mark_10 hC1 (by decide) ?_
    refine jq_iconst (v := 0) dL_mark_21 hC1 (by decide) ?_
    exact jq_iret dL_mark_22 hC1 he rfl ⟨_, rfl, h⟩
  · rcases hX with ⟨rfl, hq⟩ | ⟨rfl, hq⟩
    · refine ⟨[], (0, 10, 13, 21), [(0, 10, 17, 13)], rfl, fun z hz => absurd hz (by simp), by decide, by decide, cl_L_mark_0, by decide, ?_⟩
      refine jq_astore (L' := [(4, .ref q9), (0, .ref (aD G 0 26)), (1, .int x1), (2, .int x2), (3, .ref (aD G 0 51))]) dL_mark_13 hC1 (by decide) rfl ?_
      refine jq_iconst (v := 1) dL_mark_15 hC1 (by decide) ?_
      exact jq_iret dL_mark_16 hC1 he rfl ⟨_, rfl, hq⟩
    · refine ⟨[(0, 10, 13, 21)], (0, 10, 17, 13), [], rfl, fun z hz => by
        rcases List.mem_singleton.mp hz with rfl
        exact ⟨by decide, "java/lang/IndexOutOfBoundsException", cl_L_mark_0, by decide⟩, by decide, by decide, cl_L_mark_1, by decide, ?_⟩
      refine jq_astore (L' := [(4, .ref q9), (0, .ref (aD G 0 26)), (1, .int x1), (2, .int x2), (3, .ref (aD G 0 51))]) dL_mark_17 hC1 (by decide) rfl ?_
      refine jq_iconst (v := 2) dL_mark_19 hC1 (by decide) ?_
      exact jq_iret dL_mark_20 hC1 he rfl ⟨_, rfl, hq⟩
theorem mt_L_mark {G : Gt} {x1 x2 : Int32} {w : Wd} {Q : Int32 → Wd → Prop} (h : wp_X8_mark x1 x2 w (fun r => Q 0 (sL w 1 r.toInt64)) (fun E w1 => (E = "java/lang/IndexOutOfBoundsException" ∧ Q 1 w1) ∨ (E = "java/lang/IllegalArgumentException" ∧ Q 2 w1))) : MtH G D_L_mark [.ref (aD G 0 26), .int x1, .int x2, .ref (aD G 0 51)] w (qi Q) := MtH_of (by decide +kernel) rfl rfl (Nat.le_of_ble_eq_true rfl) (fun M Qf hC he hH => ok_L_mark hC he hH h)
theorem dL_leg_0 : decode cL_leg 0 = .ok (.aload_n 3, 1) := by decide +kernel
theorem dL_leg_1 : decode cL_leg 1 = .ok (.iconst 0, 1) := by decide +kernel
theorem dL_leg_2 : decode cL_leg 2 = .ok (.aload_n 0, 1) := by decide +kernel
theorem dL_leg_3 : decode cL_leg 3 = .ok (.iload_n 1, 1) := by decide +kernel
theorem dL_leg_4 : decode cL_leg 4 = .ok (.iload_n 2, 1) := by decide +kernel
theorem dL_leg_5 : decode cL_leg 5 = .ok (.invokevirtual 55, 3) := by decide +kernel
theorem dL_leg_8 : decode cL_leg 8 = .ok (.i2l, 1) := by decide +kernel
theorem dL_leg_9 : decode cL_leg 9 = .ok (.lastore, 1) := by decide +kernel
theorem dL_leg_10 : decode cL_leg 10 = .ok (.goto 11, 3) := by decide +kernel
theorem dL_leg_13 : decode cL_leg 13 = .ok (.astore 4, 2) := by decide +kernel
theorem dL_leg_15 : decode cL_leg 15 = .ok (.iconst 1, 1) := by decide +kernel
theorem dL_leg_16 : decode cL_leg 16 = .ok (.ireturn, 1) := by decide +kernel
theorem dL_leg_17 : decode cL_leg 17 = .ok (.astore 4, 2) := by decide +kernel
theorem dL_leg_19 : decode cL_leg 19 = .ok (.iconst 2, 1) := by decide +kernel
theorem dL_leg_20 : decode cL_leg 20 = .ok (.ireturn, 1) := by decide +kernel
theorem dL_leg_21 : decode cL_leg 21 = .ok (.iconst 0, 1) := by decide +kernel
theorem dL_leg_22 : decode cL_leg 22 = .ok (.ireturn, 1) := by decide +kernel
set_option maxRecDepth 20000 in
theorem ggL_leg_X8_leg : GoodIn wsL_leg wsX8_leg := goodIn_ca (goodIn_ca (goodIn_r _ [7, 8, 9, 10, 11, 12, 13, 14, 15, 16, 17, 18, 19, 20, 21, 22, 23, 24, 25, 26, 27, 28, 29, 30, 31, 32, 33, 34, 35, 6, 36, 37, 38, 39, 40, 41, 42, 43, 44, 45, 46, 47, 48, 49, 50, 51, 52, 53, 54, 55, 56, 57, 58, 59, 60, 61, 62, 63, 64, 65, 66, 67, 68, 69, 70, 71, 72, 73, 74, 75, 76, 77, 78, 79, 80, 81, 82, 83, 84, 85, 86, 87, 88, 89, 90, 91] (by decide +kernel) (by decide +kernel)) (goodIn_sub (fun _ h => List.mem_cons_of_mem _ (List.mem_append_left _ (List.mem_append_right _ h))) (by decide +kernel))) (goodIn_sub (fun _ h => List.mem_cons_of_mem _ (List.mem_append_right _ h)) (by decide +kernel))
set_option maxRecDepth 20000 in
theorem gL_leg_X8_leg : GoodIn wsL_leg (wsV RL 55 RX8 yX8_leg wsX8_leg) := goodIn_app (goodIn_of _ (by decide +kernel)) ggL_leg_X8_leg
def D_L_leg : Md := (yL_leg, cL_leg, 5, (some .int), wsL_leg, RL, { frames := 7, cells := 1, slots := 6, locals := 103 })
theorem nm_L_leg : nmD D_L_leg 4 := ⟨rfl, by decide +kernel, by decide +kernel, by decide +kernel⟩
theorem cl_L_leg_0 : Cond.classLink RL 21 "java/lang/IndexOutOfBoundsException" ∈ wsL_leg := by decide +kernel
theorem cl_L_leg_1 : Cond.classLink RL 13 "java/lang/IllegalArgumentException" ∈ wsL_leg := by decide +kernel
theorem ok_L_leg {G : Gt} {M : Mx} {Qf : State → Prop} {x1 x2 : Int32} {w : Wd} {Q : Int32 → Wd → Prop} (hC : cx G D_L_leg M) (he : en G (M1 M 1 6) (qi Q) Qf) (hH : exH G M [(0, 10, 13, 21), (0, 10, 17, 13)]) (h : wp_X8_leg x1 x2 w (fun r => Q 0 (sL w 1 r.toInt64)) (fun E w1 => (E = "java/lang/IndexOutOfBoundsException" ∧ Q 1 w1) ∨ (E = "java/lang/IllegalArgumentException" ∧ Q 2 w1))) : jq G D_L_leg M Qf 0 [(0, .ref (aD G 0 26)), (1, .int x1), (2, .int x2), (3, .ref (aD G 0 51))] [] w := by
  have hC1 : cx G D_L_leg (M1 M 1 6) := cx_M1 hC hH.2.2.2.2.1 hH.2.2.2.2.2.1
  refine jq_aload_n (k0 := 3) dL_leg_0 hC rfl rfl ?_
  refine jq_iconst (v := 0) dL_leg_1 hC (by decide) ?_
  refine jq_aload_n (k0 := 0) dL_leg_2 hC rfl rfl ?_
  refine jq_iload_n (k0 := 1) dL_leg_3 hC rfl rfl ?_
  refine jq_iload_n (k0 := 2) dL_leg_4 hC rfl rfl ?_
  refine jq_callX (As := [.int x1, .int x2]) (rest := [.int 0, .ref (aD G 0 51)]) (n := 0) (o := 26) (D' := D_X8_leg) dL_leg_5 hC hH (cl_0 (by decide)) rfl rfl rfl (mt_X8_leg h) gL_leg_X8_leg rfl ⟨rfl, rfl, Nat.le_of_ble_eq_true rfl, Nat.le_of_ble_eq_true rfl⟩ nm_X8_leg rfl (Nat.le_of_ble_eq_true rfl) (kIp fun r1 h => ?_) (fun E w1 q9 hX => ?_)
  · refine jq_i2l dL_leg_8 hC1 ?_
    refine jq_last dL_leg_9 hC1 rfl ?_
    refine jq_goto (tgt := 21) dL_leg_10 hC1 (by decide) ?_
    refine jq_iconst (v := 0) dL_leg_21 hC1 (by decide) ?_
    exact jq_iret dL_leg_22 hC1 he rfl ⟨_, rfl, h⟩
  · rcases hX with ⟨rfl, hq⟩ | ⟨rfl, hq⟩
    · refine ⟨[], (0, 10, 13, 21), [(0, 10, 17, 13)], rfl, fun z hz => absurd hz (by simp), by decide, by decide, cl_L_leg_0, by decide, ?_⟩
      refine jq_astore (L' := [(4, .ref q9), (0, .ref (aD G 0 26)), (1, .int x1), (2, .int x2), (3, .ref (aD G 0 51))]) dL_leg_13 hC1 (by decide) rfl ?_
      refine jq_iconst (v := 1) dL_leg_15 hC1 (by decide) ?_
      exact jq_iret dL_leg_16 hC1 he rfl ⟨_, rfl, hq⟩
    · refine ⟨[(0, 10, 13, 21)], (0, 10, 17, 13), [], rfl, fun z hz => by
        rcases List.mem_singleton.mp hz with rfl
        exact ⟨by decide, "java/lang/IndexOutOfBoundsException", cl_L_leg_0, by decide⟩, by decide, by decide, cl_L_leg_1, by decide, ?_⟩
      refine jq_astore (L' := [(4, .ref q9), (0, .ref (aD G 0 26)), (1, .int x1), (2, .int x2), (3, .ref (aD G 0 51))]) dL_leg_17 hC1 (by decide) rfl ?_
      refine jq_iconst (v := 2) dL_leg_19 hC1 (by decide) ?_
      exact jq_iret dL_leg_20 hC1 he rfl ⟨_, rfl, hq⟩
theorem mt_L_leg {G : Gt} {x1 x2 : Int32} {w : Wd} {Q : Int32 → Wd → Prop} (h : wp_X8_leg x1 x2 w (fun r => Q 0 (sL w 1 r.toInt64)) (fun E w1 => (E = "java/lang/IndexOutOfBoundsException" ∧ Q 1 w1) ∨ (E = "java/lang/IllegalArgumentException" ∧ Q 2 w1))) : MtH G D_L_leg [.ref (aD G 0 26), .int x1, .int x2, .ref (aD G 0 51)] w (qi Q) := MtH_of (by decide +kernel) rfl rfl (Nat.le_of_ble_eq_true rfl) (fun M Qf hC he hH => ok_L_leg hC he hH h)
theorem dL_loop_0 : decode cL_loop 0 = .ok (.aload_n 3, 1) := by decide +kernel
theorem dL_loop_1 : decode cL_loop 1 = .ok (.iconst 0, 1) := by decide +kernel
theorem dL_loop_2 : decode cL_loop 2 = .ok (.aload_n 0, 1) := by decide +kernel
theorem dL_loop_3 : decode cL_loop 3 = .ok (.iload_n 1, 1) := by decide +kernel
theorem dL_loop_4 : decode cL_loop 4 = .ok (.iload_n 2, 1) := by decide +kernel
theorem dL_loop_5 : decode cL_loop 5 = .ok (.invokevirtual 58, 3) := by decide +kernel
theorem dL_loop_8 : decode cL_loop 8 = .ok (.i2l, 1) := by decide +kernel
theorem dL_loop_9 : decode cL_loop 9 = .ok (.lastore, 1) := by decide +kernel
theorem dL_loop_10 : decode cL_loop 10 = .ok (.goto 11, 3) := by decide +kernel
theorem dL_loop_13 : decode cL_loop 13 = .ok (.astore 4, 2) := by decide +kernel
theorem dL_loop_15 : decode cL_loop 15 = .ok (.iconst 1, 1) := by decide +kernel
theorem dL_loop_16 : decode cL_loop 16 = .ok (.ireturn, 1) := by decide +kernel
theorem dL_loop_17 : decode cL_loop 17 = .ok (.astore 4, 2) := by decide +kernel
theorem dL_loop_19 : decode cL_loop 19 = .ok (.iconst 2, 1) := by decide +kernel
theorem dL_loop_20 : decode cL_loop 20 = .ok (.ireturn, 1) := by decide +kernel
theorem dL_loop_21 : decode cL_loop 21 = .ok (.iconst 0, 1) := by decide +kernel
theorem dL_loop_22 : decode cL_loop 22 = .ok (.ireturn, 1) := by decide +kernel
set_option maxRecDepth 20000 in
theorem ggL_loop_X8_loop : GoodIn wsL_loop wsX8_loop := goodIn_ca (goodIn_ca (goodIn_r _ [7, 8, 9, 10, 11, 12, 13, 14, 15, 16, 17, 18, 19, 20, 21, 22, 23, 24, 25, 26, 27, 28, 29, 30, 31, 32, 33, 34, 35, 36, 6, 37, 38, 39, 40, 41, 42, 43, 44, 45, 46, 47, 48, 49, 50, 51, 52, 53, 54, 55, 56, 57, 58, 59, 60, 61, 62, 63, 64, 65, 66, 67, 68, 69] (by decide +kernel) (by decide +kernel)) (goodIn_sub (fun _ h => List.mem_cons_of_mem _ (List.mem_append_left _ (List.mem_append_right _ h))) (by decide +kernel))) (goodIn_sub (fun _ h => List.mem_cons_of_mem _ (List.mem_append_right _ h)) (by decide +kernel))
set_option maxRecDepth 20000 in
theorem gL_loop_X8_loop : GoodIn wsL_loop (wsV RL 58 RX8 yX8_loop wsX8_loop) := goodIn_app (goodIn_of _ (by decide +kernel)) ggL_loop_X8_loop
def D_L_loop : Md := (yL_loop, cL_loop, 5, (some .int), wsL_loop, RL, { frames := 7, cells := 1, slots := 6, locals := 103 })
theorem nm_L_loop : nmD D_L_loop 4 := ⟨rfl, by decide +kernel, by decide +kernel, by decide +kernel⟩
theorem cl_L_loop_0 : Cond.classLink RL 21 "java/lang/IndexOutOfBoundsException" ∈ wsL_loop := by decide +kernel
theorem cl_L_loop_1 : Cond.classLink RL 13 "java/lang/IllegalArgumentException" ∈ wsL_loop := by decide +kernel
theorem ok_L_loop {G : Gt} {M : Mx} {Qf : State → Prop} {x1 x2 : Int32} {w : Wd} {Q : Int32 → Wd → Prop} (hC : cx G D_L_loop M) (he : en G (M1 M 1 6) (qi Q) Qf) (hH : exH G M [(0, 10, 13, 21), (0, 10, 17, 13)]) (h : wp_X8_loop x1 x2 w (fun r => Q 0 (sL w 1 r.toInt64)) (fun E w1 => (E = "java/lang/IndexOutOfBoundsException" ∧ Q 1 w1) ∨ (E = "java/lang/IllegalArgumentException" ∧ Q 2 w1))) : jq G D_L_loop M Qf 0 [(0, .ref (aD G 0 26)), (1, .int x1), (2, .int x2), (3, .ref (aD G 0 51))] [] w := by
  have hC1 : cx G D_L_loop (M1 M 1 6) := cx_M1 hC hH.2.2.2.2.1 hH.2.2.2.2.2.1
  refine jq_aload_n (k0 := 3) dL_loop_0 hC rfl rfl ?_
  refine jq_iconst (v := 0) dL_loop_1 hC (by decide) ?_
  refine jq_aload_n (k0 := 0) dL_loop_2 hC rfl rfl ?_
  refine jq_iload_n (k0 := 1) dL_loop_3 hC rfl rfl ?_
  refine jq_iload_n (k0 := 2) dL_loop_4 hC rfl rfl ?_
  refine jq_callX (As := [.int x1, .int x2]) (rest := [.int 0, .ref (aD G 0 51)]) (n := 0) (o := 26) (D' := D_X8_loop) dL_loop_5 hC hH (cl_0 (by decide)) rfl rfl rfl (mt_X8_loop h) gL_loop_X8_loop rfl ⟨rfl, rfl, Nat.le_of_ble_eq_true rfl, Nat.le_of_ble_eq_true rfl⟩ nm_X8_loop rfl (Nat.le_of_ble_eq_true rfl) (kIp fun r1 h => ?_) (fun E w1 q9 hX => ?_)
  · refine jq_i2l dL_loop_8 hC1 ?_
    refine jq_last dL_loop_9 hC1 rfl ?_
    refine jq_goto (tgt := 21) dL_loop_10 hC1 (by decide) ?_
    refine jq_iconst (v := 0) dL_loop_21 hC1 (by decide) ?_
    exact jq_iret dL_loop_22 hC1 he rfl ⟨_, rfl, h⟩
  · rcases hX with ⟨rfl, hq⟩ | ⟨rfl, hq⟩
    · refine ⟨[], (0, 10, 13, 21), [(0, 10, 17, 13)], rfl, fun z hz => absurd hz (by simp), by decide, by decide, cl_L_loop_0, by decide, ?_⟩
      refine jq_astore (L' := [(4, .ref q9), (0, .ref (aD G 0 26)), (1, .int x1), (2, .int x2), (3, .ref (aD G 0 51))]) dL_loop_13 hC1 (by decide) rfl ?_
      refine jq_iconst (v := 1) dL_loop_15 hC1 (by decide) ?_
      exact jq_iret dL_loop_16 hC1 he rfl ⟨_, rfl, hq⟩
    · refine ⟨[(0, 10, 13, 21)], (0, 10, 17, 13), [], rfl, fun z hz => by
        rcases List.mem_singleton.mp hz with rfl
        exact ⟨by decide, "java/lang/IndexOutOfBoundsException", cl_L_loop_0, by decide⟩, by decide, by decide, cl_L_loop_1, by decide, ?_⟩
      refine jq_astore (L' := [(4, .ref q9), (0, .ref (aD G 0 26)), (1, .int x1), (2, .int x2), (3, .ref (aD G 0 51))]) dL_loop_17 hC1 (by decide) rfl ?_
      refine jq_iconst (v := 2) dL_loop_19 hC1 (by decide) ?_
      exact jq_iret dL_loop_20 hC1 he rfl ⟨_, rfl, hq⟩
theorem mt_L_loop {G : Gt} {x1 x2 : Int32} {w : Wd} {Q : Int32 → Wd → Prop} (h : wp_X8_loop x1 x2 w (fun r => Q 0 (sL w 1 r.toInt64)) (fun E w1 => (E = "java/lang/IndexOutOfBoundsException" ∧ Q 1 w1) ∨ (E = "java/lang/IllegalArgumentException" ∧ Q 2 w1))) : MtH G D_L_loop [.ref (aD G 0 26), .int x1, .int x2, .ref (aD G 0 51)] w (qi Q) := MtH_of (by decide +kernel) rfl rfl (Nat.le_of_ble_eq_true rfl) (fun M Qf hC he hH => ok_L_loop hC he hH h)
theorem dL_way_0 : decode cL_way 0 = .ok (.aload 4, 2) := by decide +kernel
theorem dL_way_2 : decode cL_way 2 = .ok (.iconst 0, 1) := by decide +kernel
theorem dL_way_3 : decode cL_way 3 = .ok (.aload_n 0, 1) := by decide +kernel
theorem dL_way_4 : decode cL_way 4 = .ok (.iload_n 1, 1) := by decide +kernel
theorem dL_way_5 : decode cL_way 5 = .ok (.iload_n 2, 1) := by decide +kernel
theorem dL_way_6 : decode cL_way 6 = .ok (.iload_n 3, 1) := by decide +kernel
theorem dL_way_7 : decode cL_way 7 = .ok (.invokevirtual 61, 3) := by decide +kernel
theorem dL_way_10 : decode cL_way 10 = .ok (.i2l, 1) := by decide +kernel
theorem dL_way_11 : decode cL_way 11 = .ok (.lastore, 1) := by decide +kernel
theorem dL_way_12 : decode cL_way 12 = .ok (.goto 11, 3) := by decide +kernel
theorem dL_way_15 : decode cL_way 15 = .ok (.astore 5, 2) := by decide +kernel
theorem dL_way_17 : decode cL_way 17 = .ok (.iconst 1, 1) := by decide +kernel
theorem dL_way_18 : decode cL_way 18 = .ok (.ireturn, 1) := by decide +kernel
theorem dL_way_19 : decode cL_way 19 = .ok (.astore 5, 2) := by decide +kernel
theorem dL_way_21 : decode cL_way 21 = .ok (.iconst 2, 1) := by decide +kernel
theorem dL_way_22 : decode cL_way 22 = .ok (.ireturn, 1) := by decide +kernel
theorem dL_way_23 : decode cL_way 23 = .ok (.iconst 0, 1) := by decide +kernel
theorem dL_way_24 : decode cL_way 24 = .ok (.ireturn, 1) := by decide +kernel
set_option maxRecDepth 20000 in
theorem ggL_way_X8_way : GoodIn wsL_way wsX8_way := goodIn_ca (goodIn_ca (goodIn_r _ [7, 8, 9, 10, 11, 12, 13, 14, 15, 16, 17, 18, 19, 20, 21, 22, 23, 24, 25, 26, 27, 28, 29, 30, 31, 32, 33, 34, 35, 36, 37, 38, 39, 40, 41, 42, 43, 44, 45, 46, 47, 48, 49, 50, 6, 51, 52, 53, 54, 55, 56, 57, 58, 59, 60, 61, 62, 63, 64, 65, 66, 67, 68, 69, 70, 71, 72, 73, 74, 75, 76, 77, 78, 79, 80, 81, 82, 83, 84, 85, 86, 87, 88, 89, 90] (by decide +kernel) (by decide +kernel)) (goodIn_sub (fun _ h => List.mem_cons_of_mem _ (List.mem_append_left _ (List.mem_append_right _ h))) (by decide +kernel))) (goodIn_sub (fun _ h => List.mem_cons_of_mem _ (List.mem_append_right _ h)) (by decide +kernel))
set_option maxRecDepth 20000 in
theorem gL_way_X8_way : GoodIn wsL_way (wsV RL 61 RX8 yX8_way wsX8_way) := goodIn_app (goodIn_of _ (by decide +kernel)) ggL_way_X8_way
def D_L_way : Md := (yL_way, cL_way, 6, (some .int), wsL_way, RL, { frames := 7, cells := 1, slots := 6, locals := 104 })
theorem nm_L_way : nmD D_L_way 5 := ⟨rfl, by decide +kernel, by decide +kernel, by decide +kernel⟩
theorem cl_L_way_0 : Cond.classLink RL 21 "java/lang/IndexOutOfBoundsException" ∈ wsL_way := by decide +kernel
theorem cl_L_way_1 : Cond.classLink RL 13 "java/lang/IllegalArgumentException" ∈ wsL_way := by decide +kernel
theorem ok_L_way {G : Gt} {M : Mx} {Qf : State → Prop} {x1 x2 x3 : Int32} {w : Wd} {Q : Int32 → Wd → Prop} (hC : cx G D_L_way M) (he : en G (M1 M 1 6) (qi Q) Qf) (hH : exH G M [(0, 12, 15, 21), (0, 12, 19, 13)]) (h : wp_X8_way x1 x2 x3 w (fun r => Q 0 (sL w 1 r.toInt64)) (fun E w1 => (E = "java/lang/IndexOutOfBoundsException" ∧ Q 1 w1) ∨ (E = "java/lang/IllegalArgumentException" ∧ Q 2 w1))) : jq G D_L_way M Qf 0 [(0, .ref (aD G 0 26)), (1, .int x1), (2, .int x2), (3, .int x3), (4, .ref (aD G 0 51))] [] w := by
  have hC1 : cx G D_L_way (M1 M 1 6) := cx_M1 hC hH.2.2.2.2.1 hH.2.2.2.2.2.1
  refine jq_aload (k0 := 4) dL_way_0 hC rfl ?_
  refine jq_iconst (v := 0) dL_way_2 hC (by decide) ?_
  refine jq_aload_n (k0 := 0) dL_way_3 hC rfl rfl ?_
  refine jq_iload_n (k0 := 1) dL_way_4 hC rfl rfl ?_
  refine jq_iload_n (k0 := 2) dL_way_5 hC rfl rfl ?_
  refine jq_iload_n (k0 := 3) dL_way_6 hC rfl rfl ?_
  refine jq_callX (As := [.int x1, .int x2, .int x3]) (rest := [.int 0, .ref (aD G 0 51)]) (n := 0) (o := 26) (D' := D_X8_way) dL_way_7 hC hH (cl_0 (by decide)) rfl rfl rfl (mt_X8_way h) gL_way_X8_way rfl ⟨rfl, rfl, Nat.le_of_ble_eq_true rfl, Nat.le_of_ble_eq_true rfl⟩ nm_X8_way rfl (Nat.le_of_ble_eq_true rfl) (kIp fun r1 h => ?_) (fun E w1 q9 hX => ?_)
  · refine jq_i2l dL_way_10 hC1 ?_
    refine jq_last dL_way_11 hC1 rfl ?_
    refine jq_goto (tgt := 23) dL_way_12 hC1 (by decide) ?_
    refine jq_iconst (v := 0) dL_way_23 hC1 (by decide) ?_
    exact jq_iret dL_way_24 hC1 he rfl ⟨_, rfl, h⟩
  · rcases hX with ⟨rfl, hq⟩ | ⟨rfl, hq⟩
    · refine ⟨[], (0, 12, 15, 21), [(0, 12, 19, 13)], rfl, fun z hz => absurd hz (by simp), by decide, by decide, cl_L_way_0, by decide, ?_⟩
      refine jq_astore (L' := [(5, .ref q9), (0, .ref (aD G 0 26)), (1, .int x1), (2, .int x2), (3, .int x3), (4, .ref (aD G 0 51))]) dL_way_15 hC1 (by decide) rfl ?_
      refine jq_iconst (v := 1) dL_way_17 hC1 (by decide) ?_
      exact jq_iret dL_way_18 hC1 he rfl ⟨_, rfl, hq⟩
    · refine ⟨[(0, 12, 15, 21)], (0, 12, 19, 13), [], rfl, fun z hz => by
        rcases List.mem_singleton.mp hz with rfl
        exact ⟨by decide, "java/lang/IndexOutOfBoundsException", cl_L_way_0, by decide⟩, by decide, by decide, cl_L_way_1, by decide, ?_⟩
      refine jq_astore (L' := [(5, .ref q9), (0, .ref (aD G 0 26)), (1, .int x1), (2, .int x2), (3, .int x3), (4, .ref (aD G 0 51))]) dL_way_19 hC1 (by decide) rfl ?_
      refine jq_iconst (v := 2) dL_way_21 hC1 (by decide) ?_
      exact jq_iret dL_way_22 hC1 he rfl ⟨_, rfl, hq⟩
theorem mt_L_way {G : Gt} {x1 x2 x3 : Int32} {w : Wd} {Q : Int32 → Wd → Prop} (h : wp_X8_way x1 x2 x3 w (fun r => Q 0 (sL w 1 r.toInt64)) (fun E w1 => (E = "java/lang/IndexOutOfBoundsException" ∧ Q 1 w1) ∨ (E = "java/lang/IllegalArgumentException" ∧ Q 2 w1))) : MtH G D_L_way [.ref (aD G 0 26), .int x1, .int x2, .int x3, .ref (aD G 0 51)] w (qi Q) := MtH_of (by decide +kernel) rfl rfl (Nat.le_of_ble_eq_true rfl) (fun M Qf hC he hH => ok_L_way hC he hH h)
theorem dL_count_0 : decode cL_count 0 = .ok (.aload_n 2, 1) := by decide +kernel
theorem dL_count_1 : decode cL_count 1 = .ok (.iconst 0, 1) := by decide +kernel
theorem dL_count_2 : decode cL_count 2 = .ok (.aload_n 0, 1) := by decide +kernel
theorem dL_count_3 : decode cL_count 3 = .ok (.iload_n 1, 1) := by decide +kernel
theorem dL_count_4 : decode cL_count 4 = .ok (.invokevirtual 65, 3) := by decide +kernel
theorem dL_count_7 : decode cL_count 7 = .ok (.i2l, 1) := by decide +kernel
theorem dL_count_8 : decode cL_count 8 = .ok (.lastore, 1) := by decide +kernel
theorem dL_count_9 : decode cL_count 9 = .ok (.goto 6, 3) := by decide +kernel
theorem dL_count_12 : decode cL_count 12 = .ok (.astore_n 3, 1) := by decide +kernel
theorem dL_count_13 : decode cL_count 13 = .ok (.iconst 1, 1) := by decide +kernel
theorem dL_count_14 : decode cL_count 14 = .ok (.ireturn, 1) := by decide +kernel
theorem dL_count_15 : decode cL_count 15 = .ok (.iconst 0, 1) := by decide +kernel
theorem dL_count_16 : decode cL_count 16 = .ok (.ireturn, 1) := by decide +kernel
set_option maxRecDepth 20000 in
theorem ggL_count_X8_count : GoodIn wsL_count wsX8_count := goodIn_ca (goodIn_r _ [6, 7, 8, 9, 10, 11, 5, 12, 13, 14, 15, 16, 17, 18, 19, 20, 21, 22, 23, 24, 25, 26, 27, 28, 29, 30, 31, 32, 33, 34, 35, 36, 37, 38, 39, 40, 41, 42, 43, 44, 45, 46, 47, 48, 49, 50, 51, 52, 53, 54, 55, 56, 57, 58, 59, 60, 61, 62, 63, 64, 65, 66, 67, 68, 69, 70, 71, 72, 73, 74, 75, 76, 77, 78, 79, 80, 81, 82, 83, 84, 85, 86, 87, 88, 89, 90, 91, 92, 93, 94, 95, 96, 97, 98, 99, 100, 101, 102, 103, 104, 105, 106, 107, 108, 109, 110, 111, 112, 113, 114, 115, 116, 117, 118, 119, 120, 121, 122, 123, 124, 125, 126, 127, 128, 129, 130, 131, 132, 133, 134, 135, 136, 137, 138, 139, 140, 141, 142, 143, 144, 145, 146, 147, 148, 149, 150, 151, 152, 153, 154] (by decide +kernel) (by decide +kernel)) (goodIn_sub (fun _ h => List.mem_cons_of_mem _ (List.mem_append_right _ h)) (by decide +kernel))
set_option maxRecDepth 20000 in
theorem gL_count_X8_count : GoodIn wsL_count (wsV RL 65 RX8 yX8_count wsX8_count) := goodIn_app (goodIn_of _ (by decide +kernel)) ggL_count_X8_count
def D_L_count : Md := (yL_count, cL_count, 4, (some .int), wsL_count, RL, { frames := 7, cells := 1, slots := 6, locals := 129 })
theorem nm_L_count : nmD D_L_count 3 := ⟨rfl, by decide +kernel, by decide +kernel, by decide +kernel⟩
theorem cl_L_count_0 : Cond.classLink RL 13 "java/lang/IllegalArgumentException" ∈ wsL_count := by decide +kernel
theorem ok_L_count {G : Gt} {M : Mx} {Qf : State → Prop} {x1 : Int32} {w : Wd} {Q : Int32 → Wd → Prop} (hC : cx G D_L_count M) (he : en G (M1 M 1 6) (qi Q) Qf) (hH : exH G M [(0, 9, 12, 13)]) (h : wp_X8_count x1 w (fun r => Q 0 (sL w 1 r.toInt64)) (fun E w1 => (E = "java/lang/IllegalArgumentException" ∧ Q 1 w1))) : jq G D_L_count M Qf 0 [(0, .ref (aD G 0 26)), (1, .int x1), (2, .ref (aD G 0 51))] [] w := by
  have hC1 : cx G D_L_count (M1 M 1 6) := cx_M1 hC hH.2.2.2.2.1 hH.2.2.2.2.2.1
  refine jq_aload_n (k0 := 2) dL_count_0 hC rfl rfl ?_
  refine jq_iconst (v := 0) dL_count_1 hC (by decide) ?_
  refine jq_aload_n (k0 := 0) dL_count_2 hC rfl rfl ?_
  refine jq_iload_n (k0 := 1) dL_count_3 hC rfl rfl ?_
  refine jq_callX (As := [.int x1]) (rest := [.int 0, .ref (aD G 0 51)]) (n := 0) (o := 26) (D' := D_X8_count) dL_count_4 hC hH (cl_0 (by decide)) rfl rfl rfl (mt_X8_count h) gL_count_X8_count rfl ⟨rfl, rfl, Nat.le_of_ble_eq_true rfl, Nat.le_of_ble_eq_true rfl⟩ nm_X8_count rfl (Nat.le_of_ble_eq_true rfl) (kIp fun r1 h => ?_) (fun E w1 q9 hX => ?_)
  · refine jq_i2l dL_count_7 hC1 ?_
    refine jq_last dL_count_8 hC1 rfl ?_
    refine jq_goto (tgt := 15) dL_count_9 hC1 (by decide) ?_
    refine jq_iconst (v := 0) dL_count_15 hC1 (by decide) ?_
    exact jq_iret dL_count_16 hC1 he rfl ⟨_, rfl, h⟩
  · obtain ⟨rfl, hq⟩ := hX
    refine ⟨[], (0, 9, 12, 13), [], rfl, fun z hz => absurd hz (by simp), by decide, by decide, cl_L_count_0, by decide, ?_⟩
    refine jq_astore_n (L' := [(3, .ref q9), (0, .ref (aD G 0 26)), (1, .int x1), (2, .ref (aD G 0 51))]) dL_count_12 hC1 rfl (by decide) rfl ?_
    refine jq_iconst (v := 1) dL_count_13 hC1 (by decide) ?_
    exact jq_iret dL_count_14 hC1 he rfl ⟨_, rfl, hq⟩
theorem mt_L_count {G : Gt} {x1 : Int32} {w : Wd} {Q : Int32 → Wd → Prop} (h : wp_X8_count x1 w (fun r => Q 0 (sL w 1 r.toInt64)) (fun E w1 => (E = "java/lang/IllegalArgumentException" ∧ Q 1 w1))) : MtH G D_L_count [.ref (aD G 0 26), .int x1, .ref (aD G 0 51)] w (qi Q) := MtH_of (by decide +kernel) rfl rfl (Nat.le_of_ble_eq_true rfl) (fun M Qf hC he hH => ok_L_count hC he hH h)
theorem dL_setting_0 : decode cL_setting 0 = .ok (.aload_n 2, 1) := by decide +kernel
theorem dL_setting_1 : decode cL_setting 1 = .ok (.iconst 0, 1) := by decide +kernel
theorem dL_setting_2 : decode cL_setting 2 = .ok (.aload_n 0, 1) := by decide +kernel
theorem dL_setting_3 : decode cL_setting 3 = .ok (.iload_n 1, 1) := by decide +kernel
theorem dL_setting_4 : decode cL_setting 4 = .ok (.invokevirtual 68, 3) := by decide +kernel
theorem dL_setting_7 : decode cL_setting 7 = .ok (.i2l, 1) := by decide +kernel
theorem dL_setting_8 : decode cL_setting 8 = .ok (.lastore, 1) := by decide +kernel
theorem dL_setting_9 : decode cL_setting 9 = .ok (.goto 6, 3) := by decide +kernel
theorem dL_setting_12 : decode cL_setting 12 = .ok (.astore_n 3, 1) := by decide +kernel
theorem dL_setting_13 : decode cL_setting 13 = .ok (.iconst 1, 1) := by decide +kernel
theorem dL_setting_14 : decode cL_setting 14 = .ok (.ireturn, 1) := by decide +kernel
theorem dL_setting_15 : decode cL_setting 15 = .ok (.iconst 0, 1) := by decide +kernel
theorem dL_setting_16 : decode cL_setting 16 = .ok (.ireturn, 1) := by decide +kernel
set_option maxRecDepth 20000 in
theorem ggL_setting_X8_setting : GoodIn wsL_setting wsX8_setting := goodIn_ca (goodIn_r _ [6, 7, 8, 9, 10, 11, 12, 5, 13, 14, 15, 16, 17, 18, 19, 20, 21, 22, 23, 24, 25, 26, 27, 28] (by decide +kernel) (by decide +kernel)) (goodIn_sub (fun _ h => List.mem_cons_of_mem _ (List.mem_append_right _ h)) (by decide +kernel))
set_option maxRecDepth 20000 in
theorem gL_setting_X8_setting : GoodIn wsL_setting (wsV RL 68 RX8 yX8_setting wsX8_setting) := goodIn_app (goodIn_of _ (by decide +kernel)) ggL_setting_X8_setting
def D_L_setting : Md := (yL_setting, cL_setting, 4, (some .int), wsL_setting, RL, { frames := 7, cells := 1, slots := 6, locals := 102 })
theorem nm_L_setting : nmD D_L_setting 3 := ⟨rfl, by decide +kernel, by decide +kernel, by decide +kernel⟩
theorem cl_L_setting_0 : Cond.classLink RL 21 "java/lang/IndexOutOfBoundsException" ∈ wsL_setting := by decide +kernel
theorem ok_L_setting {G : Gt} {M : Mx} {Qf : State → Prop} {x1 : Int32} {w : Wd} {Q : Int32 → Wd → Prop} (hC : cx G D_L_setting M) (he : en G (M1 M 1 6) (qi Q) Qf) (hH : exH G M [(0, 9, 12, 21)]) (h : wp_X8_setting x1 w (fun r => Q 0 (sL w 1 r.toInt64)) (fun E w1 => (E = "java/lang/IndexOutOfBoundsException" ∧ Q 1 w1))) : jq G D_L_setting M Qf 0 [(0, .ref (aD G 0 26)), (1, .int x1), (2, .ref (aD G 0 51))] [] w := by
  have hC1 : cx G D_L_setting (M1 M 1 6) := cx_M1 hC hH.2.2.2.2.1 hH.2.2.2.2.2.1
  refine jq_aload_n (k0 := 2) dL_setting_0 hC rfl rfl ?_
  refine jq_iconst (v := 0) dL_setting_1 hC (by decide) ?_
  refine jq_aload_n (k0 := 0) dL_setting_2 hC rfl rfl ?_
  refine jq_iload_n (k0 := 1) dL_setting_3 hC rfl rfl ?_
  refine jq_callX (As := [.int x1]) (rest := [.int 0, .ref (aD G 0 51)]) (n := 0) (o := 26) (D' := D_X8_setting) dL_setting_4 hC hH (cl_0 (by decide)) rfl rfl rfl (mt_X8_setting h) gL_setting_X8_setting rfl ⟨rfl, rfl, Nat.le_of_ble_eq_true rfl, Nat.le_of_ble_eq_true rfl⟩ nm_X8_setting rfl (Nat.le_of_ble_eq_true rfl) (kIp fun r1 h => ?_) (fun E w1 q9 hX => ?_)
  · refine jq_i2l dL_setting_7 hC1 ?_
    refine jq_last dL_setting_8 hC1 rfl ?_
    refine jq_goto (tgt := 15) dL_setting_9 hC1 (by decide) ?_
    refine jq_iconst (v := 0) dL_setting_15 hC1 (by decide) ?_
    exact jq_iret dL_setting_16 hC1 he rfl ⟨_, rfl, h⟩
  · obtain ⟨rfl, hq⟩ := hX
    refine ⟨[], (0, 9, 12, 21), [], rfl, fun z hz => absurd hz (by simp), by decide, by decide, cl_L_setting_0, by decide, ?_⟩
    refine jq_astore_n (L' := [(3, .ref q9), (0, .ref (aD G 0 26)), (1, .int x1), (2, .ref (aD G 0 51))]) dL_setting_12 hC1 rfl (by decide) rfl ?_
    refine jq_iconst (v := 1) dL_setting_13 hC1 (by decide) ?_
    exact jq_iret dL_setting_14 hC1 he rfl ⟨_, rfl, hq⟩
theorem mt_L_setting {G : Gt} {x1 : Int32} {w : Wd} {Q : Int32 → Wd → Prop} (h : wp_X8_setting x1 w (fun r => Q 0 (sL w 1 r.toInt64)) (fun E w1 => (E = "java/lang/IndexOutOfBoundsException" ∧ Q 1 w1))) : MtH G D_L_setting [.ref (aD G 0 26), .int x1, .ref (aD G 0 51)] w (qi Q) := MtH_of (by decide +kernel) rfl rfl (Nat.le_of_ble_eq_true rfl) (fun M Qf hC he hH => ok_L_setting hC he hH h)
theorem dL_without_0 : decode cL_without 0 = .ok (.aload_n 3, 1) := by decide +kernel
theorem dL_without_1 : decode cL_without 1 = .ok (.iconst 0, 1) := by decide +kernel
theorem dL_without_2 : decode cL_without 2 = .ok (.aload_n 0, 1) := by decide +kernel
theorem dL_without_3 : decode cL_without 3 = .ok (.iload_n 1, 1) := by decide +kernel
theorem dL_without_4 : decode cL_without 4 = .ok (.iload_n 2, 1) := by decide +kernel
theorem dL_without_5 : decode cL_without 5 = .ok (.invokevirtual 71, 3) := by decide +kernel
theorem dL_without_8 : decode cL_without 8 = .ok (.i2l, 1) := by decide +kernel
theorem dL_without_9 : decode cL_without 9 = .ok (.lastore, 1) := by decide +kernel
theorem dL_without_10 : decode cL_without 10 = .ok (.goto 11, 3) := by decide +kernel
theorem dL_without_13 : decode cL_without 13 = .ok (.astore 4, 2) := by decide +kernel
theorem dL_without_15 : decode cL_without 15 = .ok (.iconst 1, 1) := by decide +kernel
theorem dL_without_16 : decode cL_without 16 = .ok (.ireturn, 1) := by decide +kernel
theorem dL_without_17 : decode cL_without 17 = .ok (.astore 4, 2) := by decide +kernel
theorem dL_without_19 : decode cL_without 19 = .ok (.iconst 2, 1) := by decide +kernel
theorem dL_without_20 : decode cL_without 20 = .ok (.ireturn, 1) := by decide +kernel
theorem dL_without_21 : decode cL_without 21 = .ok (.iconst 0, 1) := by decide +kernel
theorem dL_without_22 : decode cL_without 22 = .ok (.ireturn, 1) := by decide +kernel
set_option maxRecDepth 20000 in
theorem ggL_without_X8_without : GoodIn wsL_without wsX8_without := goodIn_ca (goodIn_ca (goodIn_r _ [7, 8, 9, 10, 11, 12, 13, 14, 15, 16, 17, 18, 19, 20, 21, 6, 22, 23, 24, 25, 26, 27, 28, 29, 30, 31, 32, 33, 34, 35, 36, 37, 38, 39, 40, 41, 42, 43, 44, 45, 46, 47, 48, 49, 50, 51, 52, 53, 54, 55, 56, 57, 58, 59, 60, 61, 62, 63, 64, 65, 66, 67, 68, 69, 70, 71, 72, 73, 74, 75, 76, 77, 78, 79, 80, 81, 82, 83, 84, 85, 86, 87, 88, 89, 90, 91, 92, 93, 94, 95, 96, 97, 98, 99, 100, 101, 102, 103, 104, 105, 106, 107, 108, 109, 110, 111, 112, 113, 114, 115, 116, 117, 118, 119, 120, 121, 122, 123, 124, 125, 126, 127, 128, 129, 130, 131, 132, 133, 134, 135, 136, 137, 138, 139, 140, 141, 142, 143, 144, 145, 146, 147, 148, 149, 150, 151, 152, 153, 154, 155, 156, 157, 158, 159, 160, 161, 162, 163, 164, 165, 166, 167, 168, 169, 170, 171, 172, 173, 174, 175, 176, 177, 178, 179, 180, 181, 182, 183, 184, 185, 186, 187, 188, 189, 190, 191, 192, 193, 194, 195, 196, 197, 198, 199, 200, 201, 202, 203, 204, 205, 206, 207, 208, 209, 210, 211, 212, 213, 214, 215, 216, 217, 218, 219, 220, 221, 222, 223, 224, 225, 226, 227, 228, 229, 230, 231, 232, 233, 234, 235, 236, 237, 238, 239, 240, 241, 242, 243, 244, 245, 246, 247, 248, 249, 250, 251, 252, 253, 254, 255, 256, 257, 258, 259, 260, 261, 262, 263, 264, 265] (by decide +kernel) (by decide +kernel)) (goodIn_sub (fun _ h => List.mem_cons_of_mem _ (List.mem_append_left _ (List.mem_append_right _ h))) (by decide +kernel))) (goodIn_sub (fun _ h => List.mem_cons_of_mem _ (List.mem_append_right _ h)) (by decide +kernel))
set_option maxRecDepth 20000 in
theorem gL_without_X8_without : GoodIn wsL_without (wsV RL 71 RX8 yX8_without wsX8_without) := goodIn_app (goodIn_of _ (by decide +kernel)) ggL_without_X8_without
def D_L_without : Md := (yL_without, cL_without, 5, (some .int), wsL_without, RL, { frames := 7, cells := 1, slots := 6, locals := 158 })
theorem nm_L_without : nmD D_L_without 4 := ⟨rfl, by decide +kernel, by decide +kernel, by decide +kernel⟩
theorem cl_L_without_0 : Cond.classLink RL 21 "java/lang/IndexOutOfBoundsException" ∈ wsL_without := by decide +kernel
theorem cl_L_without_1 : Cond.classLink RL 13 "java/lang/IllegalArgumentException" ∈ wsL_without := by decide +kernel
theorem ok_L_without {G : Gt} {M : Mx} {Qf : State → Prop} {x1 x2 : Int32} {w : Wd} {Q : Int32 → Wd → Prop} (hC : cx G D_L_without M) (he : en G (M1 M 1 6) (qi Q) Qf) (hH : exH G M [(0, 10, 13, 21), (0, 10, 17, 13)]) (h : wp_X8_without x1 x2 w (fun r w1 => Q 0 (sL w1 1 r.toInt64)) (fun E w1 => (E = "java/lang/IndexOutOfBoundsException" ∧ Q 1 w1) ∨ (E = "java/lang/IllegalArgumentException" ∧ Q 2 w1))) : jq G D_L_without M Qf 0 [(0, .ref (aD G 0 26)), (1, .int x1), (2, .int x2), (3, .ref (aD G 0 51))] [] w := by
  have hC1 : cx G D_L_without (M1 M 1 6) := cx_M1 hC hH.2.2.2.2.1 hH.2.2.2.2.2.1
  refine jq_aload_n (k0 := 3) dL_without_0 hC rfl rfl ?_
  refine jq_iconst (v := 0) dL_without_1 hC (by decide) ?_
  refine jq_aload_n (k0 := 0) dL_without_2 hC rfl rfl ?_
  refine jq_iload_n (k0 := 1) dL_without_3 hC rfl rfl ?_
  refine jq_iload_n (k0 := 2) dL_without_4 hC rfl rfl ?_
  refine jq_callX (As := [.int x1, .int x2]) (rest := [.int 0, .ref (aD G 0 51)]) (n := 0) (o := 26) (D' := D_X8_without) dL_without_5 hC hH (cl_0 (by decide)) rfl rfl rfl (mt_X8_without h) gL_without_X8_without rfl ⟨rfl, rfl, Nat.le_of_ble_eq_true rfl, Nat.le_of_ble_eq_true rfl⟩ nm_X8_without rfl (Nat.le_of_ble_eq_true rfl) (kI fun r1 w1 h => ?_) (fun E w1 q9 hX => ?_)
  · refine jq_i2l dL_without_8 hC1 ?_
    refine jq_last dL_without_9 hC1 rfl ?_
    refine jq_goto (tgt := 21) dL_without_10 hC1 (by decide) ?_
    refine jq_iconst (v := 0) dL_without_21 hC1 (by decide) ?_
    exact jq_iret dL_without_22 hC1 he rfl ⟨_, rfl, h⟩
  · rcases hX with ⟨rfl, hq⟩ | ⟨rfl, hq⟩
    · refine ⟨[], (0, 10, 13, 21), [(0, 10, 17, 13)], rfl, fun z hz => absurd hz (by simp), by decide, by decide, cl_L_without_0, by decide, ?_⟩
      refine jq_astore (L' := [(4, .ref q9), (0, .ref (aD G 0 26)), (1, .int x1), (2, .int x2), (3, .ref (aD G 0 51))]) dL_without_13 hC1 (by decide) rfl ?_
      refine jq_iconst (v := 1) dL_without_15 hC1 (by decide) ?_
      exact jq_iret dL_without_16 hC1 he rfl ⟨_, rfl, hq⟩
    · refine ⟨[(0, 10, 13, 21)], (0, 10, 17, 13), [], rfl, fun z hz => by
        rcases List.mem_singleton.mp hz with rfl
        exact ⟨by decide, "java/lang/IndexOutOfBoundsException", cl_L_without_0, by decide⟩, by decide, by decide, cl_L_without_1, by decide, ?_⟩
      refine jq_astore (L' := [(4, .ref q9), (0, .ref (aD G 0 26)), (1, .int x1), (2, .int x2), (3, .ref (aD G 0 51))]) dL_without_17 hC1 (by decide) rfl ?_
      refine jq_iconst (v := 2) dL_without_19 hC1 (by decide) ?_
      exact jq_iret dL_without_20 hC1 he rfl ⟨_, rfl, hq⟩
theorem mt_L_without {G : Gt} {x1 x2 : Int32} {w : Wd} {Q : Int32 → Wd → Prop} (h : wp_X8_without x1 x2 w (fun r w1 => Q 0 (sL w1 1 r.toInt64)) (fun E w1 => (E = "java/lang/IndexOutOfBoundsException" ∧ Q 1 w1) ∨ (E = "java/lang/IllegalArgumentException" ∧ Q 2 w1))) : MtH G D_L_without [.ref (aD G 0 26), .int x1, .int x2, .ref (aD G 0 51)] w (qi Q) := MtH_of (by decide +kernel) rfl rfl (Nat.le_of_ble_eq_true rfl) (fun M Qf hC he hH => ok_L_without hC he hH h)
theorem dL_fitting_0 : decode cL_fitting 0 = .ok (.aload_n 2, 1) := by decide +kernel
theorem dL_fitting_1 : decode cL_fitting 1 = .ok (.iconst 0, 1) := by decide +kernel
theorem dL_fitting_2 : decode cL_fitting 2 = .ok (.aload_n 0, 1) := by decide +kernel
theorem dL_fitting_3 : decode cL_fitting 3 = .ok (.iload_n 1, 1) := by decide +kernel
theorem dL_fitting_4 : decode cL_fitting 4 = .ok (.invokevirtual 74, 3) := by decide +kernel
theorem dL_fitting_7 : decode cL_fitting 7 = .ok (.i2l, 1) := by decide +kernel
theorem dL_fitting_8 : decode cL_fitting 8 = .ok (.lastore, 1) := by decide +kernel
theorem dL_fitting_9 : decode cL_fitting 9 = .ok (.goto 6, 3) := by decide +kernel
theorem dL_fitting_12 : decode cL_fitting 12 = .ok (.astore_n 3, 1) := by decide +kernel
theorem dL_fitting_13 : decode cL_fitting 13 = .ok (.iconst 1, 1) := by decide +kernel
theorem dL_fitting_14 : decode cL_fitting 14 = .ok (.ireturn, 1) := by decide +kernel
theorem dL_fitting_15 : decode cL_fitting 15 = .ok (.iconst 0, 1) := by decide +kernel
theorem dL_fitting_16 : decode cL_fitting 16 = .ok (.ireturn, 1) := by decide +kernel
set_option maxRecDepth 20000 in
theorem ggL_fitting_X8_fitting : GoodIn wsL_fitting wsX8_fitting := goodIn_ca (goodIn_r _ [6, 7, 8, 9, 10, 11, 12, 13, 14, 15, 16, 17, 18, 5, 19, 20, 21, 22, 23, 24, 25, 26, 27, 28, 29, 30, 31, 32, 33, 34, 35, 36, 37, 38, 39, 40, 41, 42, 43, 44, 45, 46, 47, 48, 49, 50, 51, 52, 53, 54, 55, 56, 57, 58, 59, 60, 61, 62, 63, 64, 65, 66, 67, 68, 69, 70, 71, 72, 73, 74, 75, 76, 77, 78, 79, 80, 81, 82, 83, 84, 85, 86, 87, 88, 89, 90, 91, 92, 93, 94, 95, 96, 97, 98, 99, 100, 101, 102, 103, 104, 105, 106, 107, 108, 109, 110, 111, 112, 113, 114, 115, 116, 117, 118, 119, 120, 121, 122, 123, 124, 125, 126, 127, 128, 129, 130, 131, 132, 133, 134, 135, 136, 137, 138, 139, 140, 141, 142, 143, 144, 145, 146, 147, 148, 149, 150, 151, 152, 153, 154, 155, 156, 157, 158, 159, 160, 161, 162, 163, 164, 165, 166, 167, 168, 169, 170, 171, 172, 173, 174, 175, 176, 177, 178, 179, 180, 181, 182, 183, 184, 185, 186, 187, 188, 189, 190, 191, 192, 193, 194, 195, 196, 197, 198, 199, 200, 201, 202, 203, 204, 205, 206, 207, 208, 209, 210, 211, 212, 213, 214, 215, 216, 217, 218, 219, 220, 221, 222, 223, 224, 225, 226, 227, 228, 229, 230, 231, 232, 233, 234, 235, 236, 237, 238, 239, 240, 241, 242, 243, 244, 245, 246, 247, 248, 249, 250, 251, 252, 253, 254, 255, 256, 257, 258, 259, 260, 261, 262, 263] (by decide +kernel) (by decide +kernel)) (goodIn_sub (fun _ h => List.mem_cons_of_mem _ (List.mem_append_right _ h)) (by decide +kernel))
set_option maxRecDepth 20000 in
theorem gL_fitting_X8_fitting : GoodIn wsL_fitting (wsV RL 74 RX8 yX8_fitting wsX8_fitting) := goodIn_app (goodIn_of _ (by decide +kernel)) ggL_fitting_X8_fitting
def D_L_fitting : Md := (yL_fitting, cL_fitting, 4, (some .int), wsL_fitting, RL, { frames := 7, cells := 1, slots := 6, locals := 157 })
theorem nm_L_fitting : nmD D_L_fitting 3 := ⟨rfl, by decide +kernel, by decide +kernel, by decide +kernel⟩
theorem cl_L_fitting_0 : Cond.classLink RL 21 "java/lang/IndexOutOfBoundsException" ∈ wsL_fitting := by decide +kernel
theorem ok_L_fitting {G : Gt} {M : Mx} {Qf : State → Prop} {x1 : Int32} {w : Wd} {Q : Int32 → Wd → Prop} (hC : cx G D_L_fitting M) (he : en G (M1 M 1 6) (qi Q) Qf) (hH : exH G M [(0, 9, 12, 21)]) (h : wp_X8_fitting x1 w (fun r w1 => Q 0 (sL w1 1 r.toInt64)) (fun E w1 => (E = "java/lang/IndexOutOfBoundsException" ∧ Q 1 w1))) : jq G D_L_fitting M Qf 0 [(0, .ref (aD G 0 26)), (1, .int x1), (2, .ref (aD G 0 51))] [] w := by
  have hC1 : cx G D_L_fitting (M1 M 1 6) := cx_M1 hC hH.2.2.2.2.1 hH.2.2.2.2.2.1
  refine jq_aload_n (k0 := 2) dL_fitting_0 hC rfl rfl ?_
  refine jq_iconst (v := 0) dL_fitting_1 hC (by decide) ?_
  refine jq_aload_n (k0 := 0) dL_fitting_2 hC rfl rfl ?_
  refine jq_iload_n (k0 := 1) dL_fitting_3 hC rfl rfl ?_
  refine jq_callX (As := [.int x1]) (rest := [.int 0, .ref (aD G 0 51)]) (n := 0) (o := 26) (D' := D_X8_fitting) dL_fitting_4 hC hH (cl_0 (by decide)) rfl rfl rfl (mt_X8_fitting h) gL_fitting_X8_fitting rfl ⟨rfl, rfl, Nat.le_of_ble_eq_true rfl, Nat.le_of_ble_eq_true rfl⟩ nm_X8_fitting rfl (Nat.le_of_ble_eq_true rfl) (kI fun r1 w1 h => ?_) (fun E w1 q9 hX => ?_)
  · refine jq_i2l dL_fitting_7 hC1 ?_
    refine jq_last dL_fitting_8 hC1 rfl ?_
    refine jq_goto (tgt := 15) dL_fitting_9 hC1 (by decide) ?_
    refine jq_iconst (v := 0) dL_fitting_15 hC1 (by decide) ?_
    exact jq_iret dL_fitting_16 hC1 he rfl ⟨_, rfl, h⟩
  · obtain ⟨rfl, hq⟩ := hX
    refine ⟨[], (0, 9, 12, 21), [], rfl, fun z hz => absurd hz (by simp), by decide, by decide, cl_L_fitting_0, by decide, ?_⟩
    refine jq_astore_n (L' := [(3, .ref q9), (0, .ref (aD G 0 26)), (1, .int x1), (2, .ref (aD G 0 51))]) dL_fitting_12 hC1 rfl (by decide) rfl ?_
    refine jq_iconst (v := 1) dL_fitting_13 hC1 (by decide) ?_
    exact jq_iret dL_fitting_14 hC1 he rfl ⟨_, rfl, hq⟩
theorem mt_L_fitting {G : Gt} {x1 : Int32} {w : Wd} {Q : Int32 → Wd → Prop} (h : wp_X8_fitting x1 w (fun r w1 => Q 0 (sL w1 1 r.toInt64)) (fun E w1 => (E = "java/lang/IndexOutOfBoundsException" ∧ Q 1 w1))) : MtH G D_L_fitting [.ref (aD G 0 26), .int x1, .ref (aD G 0 51)] w (qi Q) := MtH_of (by decide +kernel) rfl rfl (Nat.le_of_ble_eq_true rfl) (fun M Qf hC he hH => ok_L_fitting hC he hH h)
